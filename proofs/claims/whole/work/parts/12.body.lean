/-! Text and Body -/
def xT (h : xa_H) (k n : Nat) (f : Nat → Int) : Prop := h.1 k = xa_o 7 [xa_r (k + 1), xa_i ((n : Nat) : Int)] ∧ h.1 (k + 1) = xa_a 120 f ∧ 2 ≤ k ∧ k + 1 < h.2 ∧ n ≤ 120 ∧ ∀ i, 0 ≤ f i ∧ f i ≤ 255
def xB (h : xa_H) (k : Nat) (ld dg : Nat → Int) (pa jo : Nat) (wa sr pu ri : Int) : Prop := h.1 k = xa_o 0 [xa_r (k + 1), xa_r (k + 2), xa_i ((pa : Nat) : Int), xa_i ((jo : Nat) : Int), xa_i wa, xa_i sr, xa_i pu, xa_i ri] ∧ h.1 (k + 1) = xa_a 9 ld ∧ h.1 (k + 2) = xa_a 2 dg ∧ 2 ≤ k ∧ k + 2 < h.2
def sp_at (n : Nat) (f : Nat → Int) (i : Int) : Int := if 0 ≤ i ∧ i < n then f i.toNat else -1
def sp_oct (v i : Int) : Int := xa_and ((Int64.ofInt (xa_lushr v (8 * i))).toInt32.toInt) 255
def sp_wr (f : Nat → Int) (n c m : Nat) (v : Int) : Nat → Int := fun j => if n ≤ j ∧ j < n + m then sp_oct v ((c : Int) - 1 - ((j : Int) - n)) else f j
theorem sp_wr_0 (f : Nat → Int) (n c : Nat) (v : Int) : sp_wr f n c 0 v = f := by
  funext j
  unfold sp_wr
  rw [if_neg (by omega)]
theorem sp_wr_s (f : Nat → Int) (n c m : Nat) (v : Int) : xa_upf (sp_wr f n c m v) (n + m) (xa_and ((Int64.ofInt (xa_lushr v (8 * ((c : Int) - 1 - ((m : Nat) : Int))))).toInt32.toInt) 255) = sp_wr f n c (m + 1) v := by
  funext j
  unfold xa_upf sp_wr
  by_cases h : j = n + m
  · subst h
    rw [if_pos rfl, if_pos (by omega)]
    unfold sp_oct
    rw [show (c : Int) - 1 - (((n + m : Nat) : Int) - n) = (c : Int) - 1 - ((m : Nat) : Int) by omega]
  · rw [if_neg h]
    by_cases h2 : n ≤ j ∧ j < n + m
    · rw [if_pos h2, if_pos (by omega)]
    · rw [if_neg h2, if_neg (by omega)]
theorem xa_and255 (x : Int) : 0 ≤ xa_and x 255 ∧ xa_and x 255 ≤ 255 := by
  unfold xa_and
  obtain ⟨j, h1, h2⟩ := pk_andE (Int32.ofInt x) (m := Int32.ofInt 255) 8 (by decide)
  rw [h2]
  have := nI_toInt (n := j) (by omega)
  omega
theorem sp_oct_b (v i : Int) : 0 ≤ sp_oct v i ∧ sp_oct v i ≤ 255 := xa_and255 _
theorem sp_wr_b {f : Nat → Int} (hf : ∀ i, 0 ≤ f i ∧ f i ≤ 255) (n c m : Nat) (v : Int) (j : Nat) : 0 ≤ sp_wr f n c m v j ∧ sp_wr f n c m v j ≤ 255 := by
  unfold sp_wr
  split
  · exact sp_oct_b _ _
  · exact hf j
def sp_ld (ld : Nat → Int) (part pose : Int) : Int := if (0 ≤ pose ∧ pose < 3) ∧ 0 ≤ part * 3 + pose ∧ part * 3 + pose < 9 then ld (part * 3 + pose).toNat else 0
def sp_sum (g : Nat → Int) : Nat → Int
  | 0 => 0
  | n + 1 => sp_sum g n + g n
def sp_dg (dg : Nat → Int) (j : Int) : Int := if 0 ≤ j ∧ j < 2 then dg j.toNat else 0
def sp_steps (wa sr j : Int) : Int := if j = wa then sr else 5
def sp_low (wa j : Int) : Int := if j = wa then 0 else -2
def sp_wagL (s : Int) : Prop := s = 30 ∨ s = 36 ∨ s = 40 ∨ s = 45 ∨ s = 60 ∨ s = 72 ∨ s = 90 ∨ s = 120

theorem c_byteAt {G : xa_G} {h : xa_H} (k n : Nat) (f : Nat → Int) (i : Int) (hi : xa_ok i) (hT : xT h k n f)  : xa_M G mX7_byteAt [xa_r k, xa_i i] h 0 0 (fun r h' => r = some (xa_i (sp_at n f i)) ∧ h' = h) := by
  refine xa_enter (by decide +kernel) (Nat.le_of_ble_eq_true rfl) ?_
  refine xa_locals (ls' := [some (xa_r k), some (xa_i i)]) rfl ?_
  obtain ⟨hT0, hT1, hTk, hTn, hT9, hTb⟩ := hT
  refine xa_iload_n (pc := 0) dX7_byteAt_0 rfl ?_
  refine xa_if_lt (pc := 1) (tgt := 30) dX7_byteAt_1 (by decide) ⟨by omega, by omega⟩ (fun c_1 => ?_) (fun c_1 => ?_)
  · skip
    refine xa_iconst (pc := 30) dX7_byteAt_30 ?_
    refine xa_ireturn (pc := 31) dX7_byteAt_31 rfl trivial ?_
    exact ⟨congrArg (fun z => some (xa_i z)) (show (-1) = sp_at n f i by unfold sp_at; split <;> first | rfl | omega), rfl⟩
  · skip
    refine xa_iload_n (pc := 4) dX7_byteAt_4 rfl ?_
    refine xa_aload_n (pc := 5) dX7_byteAt_5 rfl ?_
    refine xa_getfield (pc := 6) dX7_byteAt_6 flRX7_15 (by omega) (by omega) hT0 rfl ?_
    refine xa_icmp_ge (pc := 9) (tgt := 30) dX7_byteAt_9 (by decide) ⟨by omega, by omega⟩ ⟨by omega, by omega⟩ (fun c_9 => ?_) (fun c_9 => ?_)
    · skip
      refine xa_iconst (pc := 30) dX7_byteAt_30 ?_
      refine xa_ireturn (pc := 31) dX7_byteAt_31 rfl trivial ?_
      exact ⟨congrArg (fun z => some (xa_i z)) (show (-1) = sp_at n f i by unfold sp_at; split <;> first | rfl | omega), rfl⟩
    · skip
      refine xa_iload_n (pc := 12) dX7_byteAt_12 rfl ?_
      refine xa_aload_n (pc := 13) dX7_byteAt_13 rfl ?_
      refine xa_getfield (pc := 14) dX7_byteAt_14 flRX7_9 (by omega) (by omega) hT0 rfl ?_
      refine xa_alen (pc := 17) dX7_byteAt_17 (by omega) hT1 ?_
      refine xa_top (y := 120) rfl ?_
      refine xa_icmp_ge (pc := 18) (tgt := 30) dX7_byteAt_18 (by decide) ⟨by omega, by omega⟩ (by decide) (fun c_18 => ?_) (fun c_18 => ?_)
      · skip
        refine xa_iconst (pc := 30) dX7_byteAt_30 ?_
        refine xa_ireturn (pc := 31) dX7_byteAt_31 rfl trivial ?_
        exact ⟨congrArg (fun z => some (xa_i z)) (show (-1) = sp_at n f i by unfold sp_at; split <;> first | rfl | omega), rfl⟩
      · skip
        refine xa_aload_n (pc := 21) dX7_byteAt_21 rfl ?_
        refine xa_getfield (pc := 22) dX7_byteAt_22 flRX7_9 (by omega) (by omega) hT0 rfl ?_
        refine xa_iload_n (pc := 25) dX7_byteAt_25 rfl ?_
        refine xa_ialdw (pc := 26) i.toNat dX7_byteAt_26 (by omega) hT1 (by omega) (by omega) rfl ?_
        refine xa_goto (pc := 27) (tgt := 31) dX7_byteAt_27 (by decide) ?_
        refine xa_ireturn (pc := 31) dX7_byteAt_31 rfl trivial ?_
        exact ⟨congrArg (fun z => some (xa_i z)) (show f i.toNat = sp_at n f i by unfold sp_at; split <;> first | rfl | omega), rfl⟩
theorem c_takesBytes_loop {G : xa_G} {h0 : xa_H} {k n c : Nat} {f : Nat → Int} {v : Int} (hk : 2 ≤ k) (hc : n + c ≤ 120) (hf : ∀ i, 0 ≤ f i ∧ f i ≤ 255) : ∀ (d : Nat) (m : Nat) (h : xa_H), c - m < d → (m ≤ c) → (h.2 = h0.2) → (k + 1 < h.2) → (h.1 k = xa_o 7 [xa_r (k + 1), xa_i ((n + m : Nat) : Int)]) → (h.1 (k + 1) = xa_a 120 (sp_wr f n c m v)) → (∀ i, (i < k ∨ k + 2 ≤ i) → h.1 i = h0.1 i) → xa_W G mX7_takesBytes (xa_Z G (fun r h' => r = some (xa_i 1) ∧ xT h' k (n + c) (sp_wr f n c c v) ∧ h'.2 = h0.2 ∧ ∀ i, (i < k ∨ k + 2 ≤ i) → h'.1 i = h0.1 i)) 22 [some (xa_r k), some (xa_i ((c : Nat) : Int)), some (xa_l v), none, some (xa_i (((c : Nat) : Int) - 1 - ((m : Nat) : Int)))] [] h 0 0 := by
  intro d
  induction d with
  | zero => intros; exfalso; omega
  | succ d ih =>
    intro m h hd hm hn0 hkn hT0 hT1 fr0
    have hn : h.2 = h.2 := rfl
    have fr : ∀ i, (i < k ∨ k + 2 ≤ i) → h.1 i = h.1 i := fun _ _ => rfl
    refine xa_iload (pc := 22) dX7_takesBytes_22 rfl ?_
    refine xa_if_lt (pc := 24) (tgt := 83) dX7_takesBytes_24 (by decide) ⟨by omega, by omega⟩ (fun c_24 => ?_) (fun c_24 => ?_)
    · skip
      refine xa_iconst (pc := 83) dX7_takesBytes_83 ?_
      refine xa_ireturn (pc := 84) dX7_takesBytes_84 rfl (Or.inr rfl) ?_
      have hmc : m = c := by omega
      subst hmc
      exact ⟨rfl, ⟨hT0, hT1, hk, hkn, hc, sp_wr_b hf _ _ _ _⟩, hn0, fr0⟩
    · skip
      refine xa_aload_n (pc := 27) dX7_takesBytes_27 rfl ?_
      refine xa_getfield (pc := 28) dX7_takesBytes_28 flRX7_15 (by omega) (by omega) hT0 rfl ?_
      refine xa_if_lt (pc := 31) (tgt := 77) dX7_takesBytes_31 (by decide) ⟨by omega, by omega⟩ (fun c_31 => ?_) (fun c_31 => ?_)
      · skip
        exfalso; omega
      · skip
        refine xa_aload_n (pc := 34) dX7_takesBytes_34 rfl ?_
        refine xa_getfield (pc := 35) dX7_takesBytes_35 flRX7_15 (by omega) (by omega) hT0 rfl ?_
        refine xa_aload_n (pc := 38) dX7_takesBytes_38 rfl ?_
        refine xa_getfield (pc := 39) dX7_takesBytes_39 flRX7_9 (by omega) (by omega) hT0 rfl ?_
        refine xa_alen (pc := 42) dX7_takesBytes_42 (by omega) hT1 ?_
        refine xa_top (y := 120) rfl ?_
        refine xa_icmp_ge (pc := 43) (tgt := 77) dX7_takesBytes_43 (by decide) ⟨by omega, by omega⟩ (by decide) (fun c_43 => ?_) (fun c_43 => ?_)
        · skip
          exfalso; omega
        · skip
          refine xa_aload_n (pc := 46) dX7_takesBytes_46 rfl ?_
          refine xa_getfield (pc := 47) dX7_takesBytes_47 flRX7_9 (by omega) (by omega) hT0 rfl ?_
          refine xa_aload_n (pc := 50) dX7_takesBytes_50 rfl ?_
          refine xa_getfield (pc := 51) dX7_takesBytes_51 flRX7_15 (by omega) (by omega) hT0 rfl ?_
          refine xa_lload_n (pc := 54) dX7_takesBytes_54 rfl ?_
          refine xa_bipush (pc := 55) dX7_takesBytes_55 rfl ?_
          refine xa_iload (pc := 57) dX7_takesBytes_57 rfl ?_
          refine xa_imul (pc := 59) dX7_takesBytes_59 ?_
          refine xa_lushrr (pc := 60) dX7_takesBytes_60 ?_
          refine xa_l2i (pc := 61) dX7_takesBytes_61 ?_
          refine xa_sipush (pc := 62) dX7_takesBytes_62 rfl ?_
          refine xa_iand (pc := 65) dX7_takesBytes_65 ?_
          refine xa_iastw (pc := 66) (n + m) dX7_takesBytes_66 (by omega) (by omega) hT1 (by omega) (by omega) (by omega) (fun h1 nh1 ch1 oh1 => ?_)
          have hT1 : h1.1 (k + 1) = xa_a 120 (xa_upf (sp_wr f n c m v) (n + m) (xa_and ((Int64.ofInt (xa_lushr v (8 * (((c : Nat) : Int) - 1 - ((m : Nat) : Int))))).toInt32.toInt) 255)) := ch1
          have hT0 : h1.1 k = xa_o 7 [xa_r (k + 1), xa_i ((n + m : Nat) : Int)] := (oh1 _ (by omega)).trans hT0
          have hn : h1.2 = h.2 := nh1.trans hn
          have fr : ∀ i, (i < k ∨ k + 2 ≤ i) → h1.1 i = h.1 i := fun i hi => (oh1 i (by omega)).trans (fr i hi)
          refine xa_aload_n (pc := 67) dX7_takesBytes_67 rfl ?_
          refine xa_dup (pc := 68) dX7_takesBytes_68 rfl ?_
          refine xa_getfield (pc := 69) dX7_takesBytes_69 flRX7_15 (by omega) (by omega) hT0 rfl ?_
          refine xa_iconst (pc := 72) dX7_takesBytes_72 ?_
          refine xa_iadd (pc := 73) dX7_takesBytes_73 ?_
          refine xa_top (y := ((n + (m + 1) : Nat) : Int)) (by omega) ?_
          refine xa_putw (pc := 74) [xa_r (k + 1), xa_i ((n + (m + 1) : Nat) : Int)] dX7_takesBytes_74 flRX7_15 plX7_1 (by omega) (by omega) hT0 trivial rfl (fun h2 nh2 ch2 oh2 => ?_)
          have hT0 : h2.1 k = xa_o 7 [xa_r (k + 1), xa_i ((n + (m + 1) : Nat) : Int)] := ch2
          have hT1 : h2.1 (k + 1) = xa_a 120 (xa_upf (sp_wr f n c m v) (n + m) (xa_and ((Int64.ofInt (xa_lushr v (8 * (((c : Nat) : Int) - 1 - ((m : Nat) : Int))))).toInt32.toInt) 255)) := (oh2 _ (by omega)).trans hT1
          have hn : h2.2 = h.2 := nh2.trans hn
          have fr : ∀ i, (i < k ∨ k + 2 ≤ i) → h2.1 i = h.1 i := fun i hi => (oh2 i (by omega)).trans (fr i hi)
          refine xa_iincw (pc := 77) (y := ((c : Nat) : Int) - 1 - ((m + 1 : Nat) : Int)) [some (xa_r k), some (xa_i ((c : Nat) : Int)), some (xa_l v), none, some (xa_i (((c : Nat) : Int) - 1 - ((m + 1 : Nat) : Int)))] dX7_takesBytes_77 (by decide) rfl rfl (by omega) rfl ?_
          refine xa_goto (pc := 80) (tgt := 22) dX7_takesBytes_80 (by decide) ?_
          exact ih (m + 1) _ (by omega) (by omega) (by omega) (by omega) hT0 (by rw [hT1, sp_wr_s]) (fun i hi => (fr i hi).trans (fr0 i hi))
theorem c_takesBytes {G : xa_G} {h : xa_H} (k n c : Nat) (f : Nat → Int) (v : Int) (hc : c ≤ 8) (hc2 : n + c ≤ 120) (hT : xT h k n f)  : xa_M G mX7_takesBytes [xa_r k, xa_i ((c : Nat) : Int), xa_l v] h 0 0 (fun r h' => r = some (xa_i 1) ∧ xT h' k (n + c) (sp_wr f n c c v) ∧ h'.2 = h.2 ∧ ∀ i, (i < k ∨ k + 2 ≤ i) → h'.1 i = h.1 i) := by
  refine xa_enter (by decide +kernel) (Nat.le_of_ble_eq_true rfl) ?_
  refine xa_locals (ls' := [some (xa_r k), some (xa_i ((c : Nat) : Int)), some (xa_l v), none, none]) rfl ?_
  obtain ⟨hT0, hT1, hTk, hTn, hT9, hTb⟩ := hT
  refine xa_iload_n (pc := 0) dX7_takesBytes_0 rfl ?_
  refine xa_if_lt (pc := 1) (tgt := 15) dX7_takesBytes_1 (by decide) ⟨by omega, by omega⟩ (fun c_1 => ?_) (fun c_1 => ?_)
  · skip
    exfalso; omega
  · skip
    refine xa_iload_n (pc := 4) dX7_takesBytes_4 rfl ?_
    refine xa_bipush (pc := 5) dX7_takesBytes_5 rfl ?_
    refine xa_aload_n (pc := 7) dX7_takesBytes_7 rfl ?_
    refine xa_getfield (pc := 8) dX7_takesBytes_8 flRX7_15 (by omega) (by omega) hT0 rfl ?_
    refine xa_isub (pc := 11) dX7_takesBytes_11 ?_
    refine xa_icmp_le (pc := 12) (tgt := 17) dX7_takesBytes_12 (by decide) ⟨by omega, by omega⟩ ⟨by omega, by omega⟩ (fun c_12 => ?_) (fun c_12 => ?_)
    · skip
      refine xa_iload_n (pc := 17) dX7_takesBytes_17 rfl ?_
      refine xa_iconst (pc := 18) dX7_takesBytes_18 ?_
      refine xa_isub (pc := 19) dX7_takesBytes_19 ?_
      refine xa_istorew (pc := 20) [some (xa_r k), some (xa_i ((c : Nat) : Int)), some (xa_l v), none, some (xa_i (((c : Nat) : Int) - 1))] dX7_takesBytes_20 (by decide) (by simp) rfl rfl ?_
      refine xa_locals (ls' := [some (xa_r k), some (xa_i ((c : Nat) : Int)), some (xa_l v), none, some (xa_i (((c : Nat) : Int) - 1 - ((0 : Nat) : Int)))]) (by simp) ?_
      exact c_takesBytes_loop hTk hc2 hTb (c + 1) 0 h (by omega) (by omega) rfl hTn hT0 (by rw [sp_wr_0]; exact hT1) (fun _ _ => rfl)
    · skip
      exfalso; omega
theorem c_takesBytes_no {G : xa_G} {h : xa_H} (k n c : Nat) (f : Nat → Int) (v : Int) (hc : c ≤ 8) (hc2 : ¬ n + c ≤ 120) (hT : xT h k n f)  : xa_M G mX7_takesBytes [xa_r k, xa_i ((c : Nat) : Int), xa_l v] h 0 0 (fun r h' => r = some (xa_i 0) ∧ h' = h) := by
  refine xa_enter (by decide +kernel) (Nat.le_of_ble_eq_true rfl) ?_
  refine xa_locals (ls' := [some (xa_r k), some (xa_i ((c : Nat) : Int)), some (xa_l v), none, none]) rfl ?_
  obtain ⟨hT0, hT1, hTk, hTn, hT9, hTb⟩ := hT
  refine xa_iload_n (pc := 0) dX7_takesBytes_0 rfl ?_
  refine xa_if_lt (pc := 1) (tgt := 15) dX7_takesBytes_1 (by decide) ⟨by omega, by omega⟩ (fun c_1 => ?_) (fun c_1 => ?_)
  · skip
    exfalso; omega
  · skip
    refine xa_iload_n (pc := 4) dX7_takesBytes_4 rfl ?_
    refine xa_bipush (pc := 5) dX7_takesBytes_5 rfl ?_
    refine xa_aload_n (pc := 7) dX7_takesBytes_7 rfl ?_
    refine xa_getfield (pc := 8) dX7_takesBytes_8 flRX7_15 (by omega) (by omega) hT0 rfl ?_
    refine xa_isub (pc := 11) dX7_takesBytes_11 ?_
    refine xa_icmp_le (pc := 12) (tgt := 17) dX7_takesBytes_12 (by decide) ⟨by omega, by omega⟩ ⟨by omega, by omega⟩ (fun c_12 => ?_) (fun c_12 => ?_)
    · skip
      exfalso; omega
    · skip
      refine xa_iconst (pc := 15) dX7_takesBytes_15 ?_
      refine xa_ireturn (pc := 16) dX7_takesBytes_16 rfl (Or.inl rfl) ?_
      exact ⟨rfl, rfl⟩
theorem c_empty {G : xa_G} {h : xa_H} (k : Nat) (ld dg : Nat → Int) (pa jo : Nat) (wa sr pu ri : Int) (hB : xB h k ld dg pa jo wa sr pu ri)  : xa_M G mX0_empty [xa_r k] h 0 0 (fun r h' => r = none ∧ xB h' k ld dg 0 0 (-4) 0 0 10 ∧ h'.2 = h.2 ∧ ∀ i, (i < k ∨ k + 3 ≤ i) → h'.1 i = h.1 i) := by
  refine xa_enter (by decide +kernel) (Nat.le_of_ble_eq_true rfl) ?_
  refine xa_locals (ls' := [some (xa_r k)]) rfl ?_
  have hn : h.2 = h.2 := rfl
  have fr : ∀ i, (i < k ∨ k + 3 ≤ i) → h.1 i = h.1 i := fun _ _ => rfl
  obtain ⟨hB0, hB1, hB2, hBk, hBn⟩ := hB
  refine xa_aload_n (pc := 0) dX0_empty_0 rfl ?_
  refine xa_iconst (pc := 1) dX0_empty_1 ?_
  refine xa_putw (pc := 2) [xa_r (k + 1), xa_r (k + 2), xa_i 0, xa_i ((jo : Nat) : Int), xa_i wa, xa_i sr, xa_i pu, xa_i ri] dX0_empty_2 flRX0_25 plX0_2 (by omega) (by omega) hB0 trivial rfl (fun h1 nh1 ch1 oh1 => ?_)
  have hB0 : h1.1 k = xa_o 0 [xa_r (k + 1), xa_r (k + 2), xa_i 0, xa_i ((jo : Nat) : Int), xa_i wa, xa_i sr, xa_i pu, xa_i ri] := ch1
  have hB1 : h1.1 (k + 1) = xa_a 9 ld := (oh1 _ (by omega)).trans hB1
  have hB2 : h1.1 (k + 2) = xa_a 2 dg := (oh1 _ (by omega)).trans hB2
  have hn : h1.2 = h.2 := nh1.trans hn
  have fr : ∀ i, (i < k ∨ k + 3 ≤ i) → h1.1 i = h.1 i := fun i hi => (oh1 i (by omega)).trans (fr i hi)
  refine xa_aload_n (pc := 5) dX0_empty_5 rfl ?_
  refine xa_iconst (pc := 6) dX0_empty_6 ?_
  refine xa_putw (pc := 7) [xa_r (k + 1), xa_r (k + 2), xa_i 0, xa_i 0, xa_i wa, xa_i sr, xa_i pu, xa_i ri] dX0_empty_7 flRX0_28 plX0_3 (by omega) (by omega) hB0 trivial rfl (fun h2 nh2 ch2 oh2 => ?_)
  have hB0 : h2.1 k = xa_o 0 [xa_r (k + 1), xa_r (k + 2), xa_i 0, xa_i 0, xa_i wa, xa_i sr, xa_i pu, xa_i ri] := ch2
  have hB1 : h2.1 (k + 1) = xa_a 9 ld := (oh2 _ (by omega)).trans hB1
  have hB2 : h2.1 (k + 2) = xa_a 2 dg := (oh2 _ (by omega)).trans hB2
  have hn : h2.2 = h.2 := nh2.trans hn
  have fr : ∀ i, (i < k ∨ k + 3 ≤ i) → h2.1 i = h.1 i := fun i hi => (oh2 i (by omega)).trans (fr i hi)
  refine xa_aload_n (pc := 10) dX0_empty_10 rfl ?_
  refine xa_bipush (pc := 11) dX0_empty_11 rfl ?_
  refine xa_putw (pc := 13) [xa_r (k + 1), xa_r (k + 2), xa_i 0, xa_i 0, xa_i (-4), xa_i sr, xa_i pu, xa_i ri] dX0_empty_13 flRX0_18 plX0_4 (by omega) (by omega) hB0 trivial rfl (fun h3 nh3 ch3 oh3 => ?_)
  have hB0 : h3.1 k = xa_o 0 [xa_r (k + 1), xa_r (k + 2), xa_i 0, xa_i 0, xa_i (-4), xa_i sr, xa_i pu, xa_i ri] := ch3
  have hB1 : h3.1 (k + 1) = xa_a 9 ld := (oh3 _ (by omega)).trans hB1
  have hB2 : h3.1 (k + 2) = xa_a 2 dg := (oh3 _ (by omega)).trans hB2
  have hn : h3.2 = h.2 := nh3.trans hn
  have fr : ∀ i, (i < k ∨ k + 3 ≤ i) → h3.1 i = h.1 i := fun i hi => (oh3 i (by omega)).trans (fr i hi)
  refine xa_aload_n (pc := 16) dX0_empty_16 rfl ?_
  refine xa_iconst (pc := 17) dX0_empty_17 ?_
  refine xa_putw (pc := 18) [xa_r (k + 1), xa_r (k + 2), xa_i 0, xa_i 0, xa_i (-4), xa_i 0, xa_i pu, xa_i ri] dX0_empty_18 flRX0_31 plX0_5 (by omega) (by omega) hB0 trivial rfl (fun h4 nh4 ch4 oh4 => ?_)
  have hB0 : h4.1 k = xa_o 0 [xa_r (k + 1), xa_r (k + 2), xa_i 0, xa_i 0, xa_i (-4), xa_i 0, xa_i pu, xa_i ri] := ch4
  have hB1 : h4.1 (k + 1) = xa_a 9 ld := (oh4 _ (by omega)).trans hB1
  have hB2 : h4.1 (k + 2) = xa_a 2 dg := (oh4 _ (by omega)).trans hB2
  have hn : h4.2 = h.2 := nh4.trans hn
  have fr : ∀ i, (i < k ∨ k + 3 ≤ i) → h4.1 i = h.1 i := fun i hi => (oh4 i (by omega)).trans (fr i hi)
  refine xa_aload_n (pc := 21) dX0_empty_21 rfl ?_
  refine xa_iconst (pc := 22) dX0_empty_22 ?_
  refine xa_putw (pc := 23) [xa_r (k + 1), xa_r (k + 2), xa_i 0, xa_i 0, xa_i (-4), xa_i 0, xa_i 0, xa_i ri] dX0_empty_23 flRX0_34 plX0_6 (by omega) (by omega) hB0 trivial rfl (fun h5 nh5 ch5 oh5 => ?_)
  have hB0 : h5.1 k = xa_o 0 [xa_r (k + 1), xa_r (k + 2), xa_i 0, xa_i 0, xa_i (-4), xa_i 0, xa_i 0, xa_i ri] := ch5
  have hB1 : h5.1 (k + 1) = xa_a 9 ld := (oh5 _ (by omega)).trans hB1
  have hB2 : h5.1 (k + 2) = xa_a 2 dg := (oh5 _ (by omega)).trans hB2
  have hn : h5.2 = h.2 := nh5.trans hn
  have fr : ∀ i, (i < k ∨ k + 3 ≤ i) → h5.1 i = h.1 i := fun i hi => (oh5 i (by omega)).trans (fr i hi)
  refine xa_aload_n (pc := 26) dX0_empty_26 rfl ?_
  refine xa_bipush (pc := 27) dX0_empty_27 rfl ?_
  refine xa_putw (pc := 29) [xa_r (k + 1), xa_r (k + 2), xa_i 0, xa_i 0, xa_i (-4), xa_i 0, xa_i 0, xa_i 10] dX0_empty_29 flRX0_22 plX0_7 (by omega) (by omega) hB0 trivial rfl (fun h6 nh6 ch6 oh6 => ?_)
  have hB0 : h6.1 k = xa_o 0 [xa_r (k + 1), xa_r (k + 2), xa_i 0, xa_i 0, xa_i (-4), xa_i 0, xa_i 0, xa_i 10] := ch6
  have hB1 : h6.1 (k + 1) = xa_a 9 ld := (oh6 _ (by omega)).trans hB1
  have hB2 : h6.1 (k + 2) = xa_a 2 dg := (oh6 _ (by omega)).trans hB2
  have hn : h6.2 = h.2 := nh6.trans hn
  have fr : ∀ i, (i < k ∨ k + 3 ≤ i) → h6.1 i = h.1 i := fun i hi => (oh6 i (by omega)).trans (fr i hi)
  refine xa_return (pc := 32) dX0_empty_32 rfl ?_
  exact ⟨rfl, ⟨hB0, hB1, hB2, by omega, by omega⟩, hn, fr⟩
theorem c_takesPart {G : xa_G} {h : xa_H} (k : Nat) (ld dg : Nat → Int) (pa jo : Nat) (wa sr pu ri : Int) (a b c : Int) (ha : xa_ok a) (hb : xa_ok b) (hc : xa_ok c) (hpa : pa ≤ 3) (hB : xB h k ld dg pa jo wa sr pu ri)  : xa_M G mX0_takesPart [xa_r k, xa_i a, xa_i b, xa_i c] h 0 0 (fun r h' => ((pa ≤ 2 ∧ (1 ≤ a ∧ a ≤ 99) ∧ (1 ≤ b ∧ b ≤ 99) ∧ (1 ≤ c ∧ c ≤ 99)) ∧ r = some (xa_i 1) ∧ xB h' k (xa_upf (xa_upf (xa_upf ld (pa * 3) a) (pa * 3 + 1) b) (pa * 3 + 2) c) dg (pa + 1) jo wa sr pu ri ∨ ¬ (pa ≤ 2 ∧ (1 ≤ a ∧ a ≤ 99) ∧ (1 ≤ b ∧ b ≤ 99) ∧ (1 ≤ c ∧ c ≤ 99)) ∧ r = some (xa_i 0) ∧ xB h' k ld dg pa jo wa sr pu ri) ∧ h'.2 = h.2 ∧ ∀ i, (i < k ∨ k + 3 ≤ i) → h'.1 i = h.1 i) := by
  refine xa_enter (by decide +kernel) (Nat.le_of_ble_eq_true rfl) ?_
  refine xa_locals (ls' := [some (xa_r k), some (xa_i a), some (xa_i b), some (xa_i c), none]) rfl ?_
  have hn : h.2 = h.2 := rfl
  have fr : ∀ i, (i < k ∨ k + 3 ≤ i) → h.1 i = h.1 i := fun _ _ => rfl
  obtain ⟨hB0, hB1, hB2, hBk, hBn⟩ := hB
  refine xa_aload_n (pc := 0) dX0_takesPart_0 rfl ?_
  refine xa_getfield (pc := 1) dX0_takesPart_1 flRX0_25 (by omega) (by omega) hB0 rfl ?_
  refine xa_iconst (pc := 4) dX0_takesPart_4 ?_
  refine xa_imul (pc := 5) dX0_takesPart_5 ?_
  refine xa_istorew (pc := 6) [some (xa_r k), some (xa_i a), some (xa_i b), some (xa_i c), some (xa_i (((pa : Nat) : Int) * 3))] dX0_takesPart_6 (by decide) (by simp) rfl rfl ?_
  refine xa_iload (pc := 8) dX0_takesPart_8 rfl ?_
  refine xa_if_lt (pc := 10) (tgt := 55) dX0_takesPart_10 (by decide) ⟨by omega, by omega⟩ (fun c_10 => ?_) (fun c_10 => ?_)
  · skip
    refine xa_iconst (pc := 55) dX0_takesPart_55 ?_
    refine xa_ireturn (pc := 56) dX0_takesPart_56 rfl (Or.inl rfl) ?_
    first | exact ⟨Or.inr ⟨by omega, rfl, hB0, hB1, hB2, by omega, by omega⟩, hn, fr⟩ | (exfalso; omega)
  · skip
    refine xa_iload (pc := 13) dX0_takesPart_13 rfl ?_
    refine xa_aload_n (pc := 15) dX0_takesPart_15 rfl ?_
    refine xa_getfield (pc := 16) dX0_takesPart_16 flRX0_9 (by omega) (by omega) hB0 rfl ?_
    refine xa_alen (pc := 19) dX0_takesPart_19 (by omega) hB1 ?_
    refine xa_top (y := 9) rfl ?_
    refine xa_iconst (pc := 20) dX0_takesPart_20 ?_
    refine xa_isub (pc := 21) dX0_takesPart_21 ?_
    refine xa_icmp_gt (pc := 22) (tgt := 55) dX0_takesPart_22 (by decide) ⟨by omega, by omega⟩ ⟨by omega, by omega⟩ (fun c_22 => ?_) (fun c_22 => ?_)
    · skip
      refine xa_iconst (pc := 55) dX0_takesPart_55 ?_
      refine xa_ireturn (pc := 56) dX0_takesPart_56 rfl (Or.inl rfl) ?_
      first | exact ⟨Or.inr ⟨by omega, rfl, hB0, hB1, hB2, by omega, by omega⟩, hn, fr⟩ | (exfalso; omega)
    · skip
      refine xa_iload_n (pc := 25) dX0_takesPart_25 rfl ?_
      refine xa_iconst (pc := 26) dX0_takesPart_26 ?_
      refine xa_bipush (pc := 27) dX0_takesPart_27 rfl ?_
      refine xa_callS (pc := 29) (as := [xa_i a, xa_i 1, xa_i 99]) (rest := []) dX0_takesPart_29 ⟨qX9_isWithin.1, qX9_isWithin.2.1, qX9_isWithin.2.2, by decide, by decide⟩ lkRX0_37 smX9_isWithin rfl rfl (Nat.le_of_ble_eq_true rfl) (Nat.zero_le _) (Nat.zero_le _) (c_isWithin _ _ _ ⟨by omega, by omega⟩ (by decide) (by decide)) (fun r h' hq => ?_)
      obtain ⟨rfl, hq⟩ := hq
      have hq := hq.symm
      subst hq
      refine xa_if_eq (pc := 32) (tgt := 55) dX0_takesPart_32 (by decide) xa_okb (fun c_32 => ?_) (fun c_32 => ?_)
      · have c_32 := xa_b0.mp c_32
        refine xa_iconst (pc := 55) dX0_takesPart_55 ?_
        refine xa_ireturn (pc := 56) dX0_takesPart_56 rfl (Or.inl rfl) ?_
        first | exact ⟨Or.inr ⟨by omega, rfl, hB0, hB1, hB2, by omega, by omega⟩, hn, fr⟩ | (exfalso; omega)
      · have c_32 := xa_b1.mp c_32
        refine xa_iload_n (pc := 35) dX0_takesPart_35 rfl ?_
        refine xa_iconst (pc := 36) dX0_takesPart_36 ?_
        refine xa_bipush (pc := 37) dX0_takesPart_37 rfl ?_
        refine xa_callS (pc := 39) (as := [xa_i b, xa_i 1, xa_i 99]) (rest := []) dX0_takesPart_39 ⟨qX9_isWithin.1, qX9_isWithin.2.1, qX9_isWithin.2.2, by decide, by decide⟩ lkRX0_37 smX9_isWithin rfl rfl (Nat.le_of_ble_eq_true rfl) (Nat.zero_le _) (Nat.zero_le _) (c_isWithin _ _ _ ⟨by omega, by omega⟩ (by decide) (by decide)) (fun r h' hq => ?_)
        obtain ⟨rfl, hq⟩ := hq
        have hq := hq.symm
        subst hq
        refine xa_if_eq (pc := 42) (tgt := 55) dX0_takesPart_42 (by decide) xa_okb (fun c_42 => ?_) (fun c_42 => ?_)
        · have c_42 := xa_b0.mp c_42
          refine xa_iconst (pc := 55) dX0_takesPart_55 ?_
          refine xa_ireturn (pc := 56) dX0_takesPart_56 rfl (Or.inl rfl) ?_
          first | exact ⟨Or.inr ⟨by omega, rfl, hB0, hB1, hB2, by omega, by omega⟩, hn, fr⟩ | (exfalso; omega)
        · have c_42 := xa_b1.mp c_42
          refine xa_iload_n (pc := 45) dX0_takesPart_45 rfl ?_
          refine xa_iconst (pc := 46) dX0_takesPart_46 ?_
          refine xa_bipush (pc := 47) dX0_takesPart_47 rfl ?_
          refine xa_callS (pc := 49) (as := [xa_i c, xa_i 1, xa_i 99]) (rest := []) dX0_takesPart_49 ⟨qX9_isWithin.1, qX9_isWithin.2.1, qX9_isWithin.2.2, by decide, by decide⟩ lkRX0_37 smX9_isWithin rfl rfl (Nat.le_of_ble_eq_true rfl) (Nat.zero_le _) (Nat.zero_le _) (c_isWithin _ _ _ ⟨by omega, by omega⟩ (by decide) (by decide)) (fun r h' hq => ?_)
          obtain ⟨rfl, hq⟩ := hq
          have hq := hq.symm
          subst hq
          refine xa_if_ne (pc := 52) (tgt := 57) dX0_takesPart_52 (by decide) xa_okb (fun c_52 => ?_) (fun c_52 => ?_)
          · have c_52 := xa_b1.mp c_52
            refine xa_aload_n (pc := 57) dX0_takesPart_57 rfl ?_
            refine xa_getfield (pc := 58) dX0_takesPart_58 flRX0_9 (by omega) (by omega) hB0 rfl ?_
            refine xa_iload (pc := 61) dX0_takesPart_61 rfl ?_
            refine xa_iload_n (pc := 63) dX0_takesPart_63 rfl ?_
            refine xa_iastw (pc := 64) (pa * 3) dX0_takesPart_64 (by omega) (by omega) hB1 (by omega) (by omega) (by omega) (fun h1 nh1 ch1 oh1 => ?_)
            have hB1 : h1.1 (k + 1) = xa_a 9 (xa_upf ld (pa * 3) a) := ch1
            have hB0 : h1.1 k = xa_o 0 [xa_r (k + 1), xa_r (k + 2), xa_i ((pa : Nat) : Int), xa_i ((jo : Nat) : Int), xa_i wa, xa_i sr, xa_i pu, xa_i ri] := (oh1 _ (by omega)).trans hB0
            have hB2 : h1.1 (k + 2) = xa_a 2 dg := (oh1 _ (by omega)).trans hB2
            have hn : h1.2 = h.2 := nh1.trans hn
            have fr : ∀ i, (i < k ∨ k + 3 ≤ i) → h1.1 i = h.1 i := fun i hi => (oh1 i (by omega)).trans (fr i hi)
            refine xa_aload_n (pc := 65) dX0_takesPart_65 rfl ?_
            refine xa_getfield (pc := 66) dX0_takesPart_66 flRX0_9 (by omega) (by omega) hB0 rfl ?_
            refine xa_iload (pc := 69) dX0_takesPart_69 rfl ?_
            refine xa_iconst (pc := 71) dX0_takesPart_71 ?_
            refine xa_iadd (pc := 72) dX0_takesPart_72 ?_
            refine xa_iload_n (pc := 73) dX0_takesPart_73 rfl ?_
            refine xa_iastw (pc := 74) (pa * 3 + 1) dX0_takesPart_74 (by omega) (by omega) hB1 (by omega) (by omega) (by omega) (fun h2 nh2 ch2 oh2 => ?_)
            have hB1 : h2.1 (k + 1) = xa_a 9 (xa_upf (xa_upf ld (pa * 3) a) (pa * 3 + 1) b) := ch2
            have hB0 : h2.1 k = xa_o 0 [xa_r (k + 1), xa_r (k + 2), xa_i ((pa : Nat) : Int), xa_i ((jo : Nat) : Int), xa_i wa, xa_i sr, xa_i pu, xa_i ri] := (oh2 _ (by omega)).trans hB0
            have hB2 : h2.1 (k + 2) = xa_a 2 dg := (oh2 _ (by omega)).trans hB2
            have hn : h2.2 = h.2 := nh2.trans hn
            have fr : ∀ i, (i < k ∨ k + 3 ≤ i) → h2.1 i = h.1 i := fun i hi => (oh2 i (by omega)).trans (fr i hi)
            refine xa_aload_n (pc := 75) dX0_takesPart_75 rfl ?_
            refine xa_getfield (pc := 76) dX0_takesPart_76 flRX0_9 (by omega) (by omega) hB0 rfl ?_
            refine xa_iload (pc := 79) dX0_takesPart_79 rfl ?_
            refine xa_iconst (pc := 81) dX0_takesPart_81 ?_
            refine xa_iadd (pc := 82) dX0_takesPart_82 ?_
            refine xa_iload_n (pc := 83) dX0_takesPart_83 rfl ?_
            refine xa_iastw (pc := 84) (pa * 3 + 2) dX0_takesPart_84 (by omega) (by omega) hB1 (by omega) (by omega) (by omega) (fun h3 nh3 ch3 oh3 => ?_)
            have hB1 : h3.1 (k + 1) = xa_a 9 (xa_upf (xa_upf (xa_upf ld (pa * 3) a) (pa * 3 + 1) b) (pa * 3 + 2) c) := ch3
            have hB0 : h3.1 k = xa_o 0 [xa_r (k + 1), xa_r (k + 2), xa_i ((pa : Nat) : Int), xa_i ((jo : Nat) : Int), xa_i wa, xa_i sr, xa_i pu, xa_i ri] := (oh3 _ (by omega)).trans hB0
            have hB2 : h3.1 (k + 2) = xa_a 2 dg := (oh3 _ (by omega)).trans hB2
            have hn : h3.2 = h.2 := nh3.trans hn
            have fr : ∀ i, (i < k ∨ k + 3 ≤ i) → h3.1 i = h.1 i := fun i hi => (oh3 i (by omega)).trans (fr i hi)
            refine xa_aload_n (pc := 85) dX0_takesPart_85 rfl ?_
            refine xa_dup (pc := 86) dX0_takesPart_86 rfl ?_
            refine xa_getfield (pc := 87) dX0_takesPart_87 flRX0_25 (by omega) (by omega) hB0 rfl ?_
            refine xa_iconst (pc := 90) dX0_takesPart_90 ?_
            refine xa_iadd (pc := 91) dX0_takesPart_91 ?_
            refine xa_top (y := ((pa + 1 : Nat) : Int)) (by omega) ?_
            refine xa_putw (pc := 92) [xa_r (k + 1), xa_r (k + 2), xa_i ((pa + 1 : Nat) : Int), xa_i ((jo : Nat) : Int), xa_i wa, xa_i sr, xa_i pu, xa_i ri] dX0_takesPart_92 flRX0_25 plX0_2 (by omega) (by omega) hB0 trivial rfl (fun h4 nh4 ch4 oh4 => ?_)
            have hB0 : h4.1 k = xa_o 0 [xa_r (k + 1), xa_r (k + 2), xa_i ((pa + 1 : Nat) : Int), xa_i ((jo : Nat) : Int), xa_i wa, xa_i sr, xa_i pu, xa_i ri] := ch4
            have hB1 : h4.1 (k + 1) = xa_a 9 (xa_upf (xa_upf (xa_upf ld (pa * 3) a) (pa * 3 + 1) b) (pa * 3 + 2) c) := (oh4 _ (by omega)).trans hB1
            have hB2 : h4.1 (k + 2) = xa_a 2 dg := (oh4 _ (by omega)).trans hB2
            have hn : h4.2 = h.2 := nh4.trans hn
            have fr : ∀ i, (i < k ∨ k + 3 ≤ i) → h4.1 i = h.1 i := fun i hi => (oh4 i (by omega)).trans (fr i hi)
            refine xa_iconst (pc := 95) dX0_takesPart_95 ?_
            refine xa_ireturn (pc := 96) dX0_takesPart_96 rfl (Or.inr rfl) ?_
            first | exact ⟨Or.inl ⟨by omega, rfl, hB0, hB1, hB2, by omega, by omega⟩, hn, fr⟩ | (exfalso; omega)
          · have c_52 := xa_b0.mp c_52
            refine xa_iconst (pc := 55) dX0_takesPart_55 ?_
            refine xa_ireturn (pc := 56) dX0_takesPart_56 rfl (Or.inl rfl) ?_
            first | exact ⟨Or.inr ⟨by omega, rfl, hB0, hB1, hB2, by omega, by omega⟩, hn, fr⟩ | (exfalso; omega)
theorem c_takesJoint {G : xa_G} {h : xa_H} (k : Nat) (ld dg : Nat → Int) (pa jo : Nat) (wa sr pu ri : Int) (a : Int) (hjo : jo ≤ 2) (hB : xB h k ld dg pa jo wa sr pu ri)  : xa_M G mX0_takesJoint [xa_r k, xa_i a] h 0 0 (fun r h' => (jo < 2 ∧ r = some (xa_i 1) ∧ xB h' k ld (xa_upf dg jo a) pa (jo + 1) wa sr pu ri ∨ ¬ jo < 2 ∧ r = some (xa_i 0) ∧ xB h' k ld dg pa jo wa sr pu ri) ∧ h'.2 = h.2 ∧ ∀ i, (i < k ∨ k + 3 ≤ i) → h'.1 i = h.1 i) := by
  refine xa_enter (by decide +kernel) (Nat.le_of_ble_eq_true rfl) ?_
  refine xa_locals (ls' := [some (xa_r k), some (xa_i a)]) rfl ?_
  have hn : h.2 = h.2 := rfl
  have fr : ∀ i, (i < k ∨ k + 3 ≤ i) → h.1 i = h.1 i := fun _ _ => rfl
  obtain ⟨hB0, hB1, hB2, hBk, hBn⟩ := hB
  refine xa_aload_n (pc := 0) dX0_takesJoint_0 rfl ?_
  refine xa_getfield (pc := 1) dX0_takesJoint_1 flRX0_28 (by omega) (by omega) hB0 rfl ?_
  refine xa_if_lt (pc := 4) (tgt := 19) dX0_takesJoint_4 (by decide) ⟨by omega, by omega⟩ (fun c_4 => ?_) (fun c_4 => ?_)
  · skip
    refine xa_iconst (pc := 19) dX0_takesJoint_19 ?_
    refine xa_ireturn (pc := 20) dX0_takesJoint_20 rfl (Or.inl rfl) ?_
    first | exact ⟨Or.inr ⟨by omega, rfl, hB0, hB1, hB2, by omega, by omega⟩, hn, fr⟩ | (exfalso; omega)
  · skip
    refine xa_aload_n (pc := 7) dX0_takesJoint_7 rfl ?_
    refine xa_getfield (pc := 8) dX0_takesJoint_8 flRX0_28 (by omega) (by omega) hB0 rfl ?_
    refine xa_aload_n (pc := 11) dX0_takesJoint_11 rfl ?_
    refine xa_getfield (pc := 12) dX0_takesJoint_12 flRX0_15 (by omega) (by omega) hB0 rfl ?_
    refine xa_alen (pc := 15) dX0_takesJoint_15 (by omega) hB2 ?_
    refine xa_top (y := 2) rfl ?_
    refine xa_icmp_lt (pc := 16) (tgt := 21) dX0_takesJoint_16 (by decide) ⟨by omega, by omega⟩ (by decide) (fun c_16 => ?_) (fun c_16 => ?_)
    · skip
      refine xa_aload_n (pc := 21) dX0_takesJoint_21 rfl ?_
      refine xa_getfield (pc := 22) dX0_takesJoint_22 flRX0_15 (by omega) (by omega) hB0 rfl ?_
      refine xa_aload_n (pc := 25) dX0_takesJoint_25 rfl ?_
      refine xa_getfield (pc := 26) dX0_takesJoint_26 flRX0_28 (by omega) (by omega) hB0 rfl ?_
      refine xa_iload_n (pc := 29) dX0_takesJoint_29 rfl ?_
      refine xa_iastw (pc := 30) jo dX0_takesJoint_30 (by omega) (by omega) hB2 (by omega) (by omega) (by omega) (fun h1 nh1 ch1 oh1 => ?_)
      have hB2 : h1.1 (k + 2) = xa_a 2 (xa_upf dg jo a) := ch1
      have hB0 : h1.1 k = xa_o 0 [xa_r (k + 1), xa_r (k + 2), xa_i ((pa : Nat) : Int), xa_i ((jo : Nat) : Int), xa_i wa, xa_i sr, xa_i pu, xa_i ri] := (oh1 _ (by omega)).trans hB0
      have hB1 : h1.1 (k + 1) = xa_a 9 ld := (oh1 _ (by omega)).trans hB1
      have hn : h1.2 = h.2 := nh1.trans hn
      have fr : ∀ i, (i < k ∨ k + 3 ≤ i) → h1.1 i = h.1 i := fun i hi => (oh1 i (by omega)).trans (fr i hi)
      refine xa_aload_n (pc := 31) dX0_takesJoint_31 rfl ?_
      refine xa_dup (pc := 32) dX0_takesJoint_32 rfl ?_
      refine xa_getfield (pc := 33) dX0_takesJoint_33 flRX0_28 (by omega) (by omega) hB0 rfl ?_
      refine xa_iconst (pc := 36) dX0_takesJoint_36 ?_
      refine xa_iadd (pc := 37) dX0_takesJoint_37 ?_
      refine xa_top (y := ((jo + 1 : Nat) : Int)) (by omega) ?_
      refine xa_putw (pc := 38) [xa_r (k + 1), xa_r (k + 2), xa_i ((pa : Nat) : Int), xa_i ((jo + 1 : Nat) : Int), xa_i wa, xa_i sr, xa_i pu, xa_i ri] dX0_takesJoint_38 flRX0_28 plX0_3 (by omega) (by omega) hB0 trivial rfl (fun h2 nh2 ch2 oh2 => ?_)
      have hB0 : h2.1 k = xa_o 0 [xa_r (k + 1), xa_r (k + 2), xa_i ((pa : Nat) : Int), xa_i ((jo + 1 : Nat) : Int), xa_i wa, xa_i sr, xa_i pu, xa_i ri] := ch2
      have hB1 : h2.1 (k + 1) = xa_a 9 ld := (oh2 _ (by omega)).trans hB1
      have hB2 : h2.1 (k + 2) = xa_a 2 (xa_upf dg jo a) := (oh2 _ (by omega)).trans hB2
      have hn : h2.2 = h.2 := nh2.trans hn
      have fr : ∀ i, (i < k ∨ k + 3 ≤ i) → h2.1 i = h.1 i := fun i hi => (oh2 i (by omega)).trans (fr i hi)
      refine xa_iconst (pc := 41) dX0_takesJoint_41 ?_
      refine xa_ireturn (pc := 42) dX0_takesJoint_42 rfl (Or.inr rfl) ?_
      first | exact ⟨Or.inl ⟨by omega, rfl, hB0, hB1, hB2, by omega, by omega⟩, hn, fr⟩ | (exfalso; omega)
    · skip
      refine xa_iconst (pc := 19) dX0_takesJoint_19 ?_
      refine xa_ireturn (pc := 20) dX0_takesJoint_20 rfl (Or.inl rfl) ?_
      first | exact ⟨Or.inr ⟨by omega, rfl, hB0, hB1, hB2, by omega, by omega⟩, hn, fr⟩ | (exfalso; omega)
theorem c_takesBend {G : xa_G} {h : xa_H} (k : Nat) (ld dg : Nat → Int) (pa jo : Nat) (wa sr pu ri : Int) (a : Int) (ha : xa_ok a) (hjo : jo ≤ 2) (hB : xB h k ld dg pa jo wa sr pu ri)  : xa_M G mX0_takesBend [xa_r k, xa_i a] h 0 0 (fun r h' => ((jo < 2 ∧ 1 ≤ a ∧ a ≤ 90) ∧ r = some (xa_i 1) ∧ xB h' k ld (xa_upf dg jo a) pa (jo + 1) wa sr pu ri ∨ ¬ (jo < 2 ∧ 1 ≤ a ∧ a ≤ 90) ∧ r = some (xa_i 0) ∧ xB h' k ld dg pa jo wa sr pu ri) ∧ h'.2 = h.2 ∧ ∀ i, (i < k ∨ k + 3 ≤ i) → h'.1 i = h.1 i) := by
  refine xa_enter (by decide +kernel) (Nat.le_of_ble_eq_true rfl) ?_
  refine xa_locals (ls' := [some (xa_r k), some (xa_i a)]) rfl ?_
  have hn : h.2 = h.2 := rfl
  have fr : ∀ i, (i < k ∨ k + 3 ≤ i) → h.1 i = h.1 i := fun _ _ => rfl
  obtain ⟨hB0, hB1, hB2, hBk, hBn⟩ := hB
  refine xa_iload_n (pc := 0) dX0_takesBend_0 rfl ?_
  refine xa_iconst (pc := 1) dX0_takesBend_1 ?_
  refine xa_bipush (pc := 2) dX0_takesBend_2 rfl ?_
  refine xa_callS (pc := 4) (as := [xa_i a, xa_i 1, xa_i 90]) (rest := []) dX0_takesBend_4 ⟨qX9_isWithin.1, qX9_isWithin.2.1, qX9_isWithin.2.2, by decide, by decide⟩ lkRX0_37 smX9_isWithin rfl rfl (Nat.le_of_ble_eq_true rfl) (Nat.zero_le _) (Nat.zero_le _) (c_isWithin _ _ _ ⟨by omega, by omega⟩ (by decide) (by decide)) (fun r h' hq => ?_)
  obtain ⟨rfl, hq⟩ := hq
  have hq := hq.symm
  subst hq
  refine xa_if_eq (pc := 7) (tgt := 22) dX0_takesBend_7 (by decide) xa_okb (fun c_7 => ?_) (fun c_7 => ?_)
  · have c_7 := xa_b0.mp c_7
    refine xa_iconst (pc := 22) dX0_takesBend_22 ?_
    refine xa_ireturn (pc := 23) dX0_takesBend_23 rfl (Or.inl rfl) ?_
    first | exact ⟨Or.inr ⟨by omega, rfl, hB0, hB1, hB2, by omega, by omega⟩, hn, fr⟩ | (exfalso; omega)
  · have c_7 := xa_b1.mp c_7
    refine xa_aload_n (pc := 10) dX0_takesBend_10 rfl ?_
    refine xa_iload_n (pc := 11) dX0_takesBend_11 rfl ?_
    refine xa_callV (pc := 12) (as := [xa_i a]) (rest := []) dX0_takesBend_12 ⟨qX0_takesJoint.1, qX0_takesJoint.2.1, qX0_takesJoint.2.2, by decide, by decide⟩ lkRX0_41 imX0_takesJoint seX0_takesJoint rfl rfl (by omega) (by omega) hB0 rfl (Nat.le_of_ble_eq_true rfl) (Nat.zero_le _) (Nat.zero_le _) (c_takesJoint _ _ _ _ _ _ _ _ _ a (by omega) ⟨hB0, hB1, hB2, by omega, by omega⟩) (fun r h' hq => ?_)
    obtain ⟨hq, hqn, hqf⟩ := hq
    rcases hq with ⟨hj, rfl, hB0, hB1, hB2, -, -⟩ | ⟨hj, rfl, hB0, hB1, hB2, -, -⟩
    · skip
      have hn : h'.2 = h.2 := hqn.trans hn
      have fr : ∀ i, (i < k ∨ k + 3 ≤ i) → h'.1 i = h.1 i := fun i hi => (hqf i (by omega)).trans (fr i hi)
      refine xa_if_eq (pc := 15) (tgt := 22) dX0_takesBend_15 (by decide) (by decide) (fun c_15 => ?_) (fun c_15 => ?_)
      · skip
        refine xa_iconst (pc := 22) dX0_takesBend_22 ?_
        refine xa_ireturn (pc := 23) dX0_takesBend_23 rfl (Or.inl rfl) ?_
        first | exact ⟨Or.inr ⟨by omega, rfl, hB0, hB1, hB2, by omega, by omega⟩, hn, fr⟩ | (exfalso; omega)
      · skip
        refine xa_iconst (pc := 18) dX0_takesBend_18 ?_
        refine xa_goto (pc := 19) (tgt := 23) dX0_takesBend_19 (by decide) ?_
        refine xa_ireturn (pc := 23) dX0_takesBend_23 rfl (Or.inr rfl) ?_
        first | exact ⟨Or.inl ⟨by omega, rfl, hB0, hB1, hB2, by omega, by omega⟩, hn, fr⟩ | (exfalso; omega)
    · skip
      have hn : h'.2 = h.2 := hqn.trans hn
      have fr : ∀ i, (i < k ∨ k + 3 ≤ i) → h'.1 i = h.1 i := fun i hi => (hqf i (by omega)).trans (fr i hi)
      refine xa_if_eq (pc := 15) (tgt := 22) dX0_takesBend_15 (by decide) (by decide) (fun c_15 => ?_) (fun c_15 => ?_)
      · skip
        refine xa_iconst (pc := 22) dX0_takesBend_22 ?_
        refine xa_ireturn (pc := 23) dX0_takesBend_23 rfl (Or.inl rfl) ?_
        first | exact ⟨Or.inr ⟨by omega, rfl, hB0, hB1, hB2, by omega, by omega⟩, hn, fr⟩ | (exfalso; omega)
      · skip
        refine xa_iconst (pc := 18) dX0_takesBend_18 ?_
        refine xa_goto (pc := 19) (tgt := 23) dX0_takesBend_19 (by decide) ?_
        refine xa_ireturn (pc := 23) dX0_takesBend_23 rfl (Or.inr rfl) ?_
        first | exact ⟨Or.inl ⟨by omega, rfl, hB0, hB1, hB2, by omega, by omega⟩, hn, fr⟩ | (exfalso; omega)
theorem c_takesPush {G : xa_G} {h : xa_H} (k : Nat) (ld dg : Nat → Int) (pa jo : Nat) (wa sr pu ri : Int) (a : Int) (hB : xB h k ld dg pa jo wa sr pu ri)  : xa_M G mX0_takesPush [xa_r k, xa_i a] h 0 0 (fun r h' => r = some (xa_i 1) ∧ xB h' k ld dg pa jo wa sr a ri ∧ h'.2 = h.2 ∧ ∀ i, (i < k ∨ k + 3 ≤ i) → h'.1 i = h.1 i) := by
  refine xa_enter (by decide +kernel) (Nat.le_of_ble_eq_true rfl) ?_
  refine xa_locals (ls' := [some (xa_r k), some (xa_i a)]) rfl ?_
  have hn : h.2 = h.2 := rfl
  have fr : ∀ i, (i < k ∨ k + 3 ≤ i) → h.1 i = h.1 i := fun _ _ => rfl
  obtain ⟨hB0, hB1, hB2, hBk, hBn⟩ := hB
  refine xa_aload_n (pc := 0) dX0_takesPush_0 rfl ?_
  refine xa_iload_n (pc := 1) dX0_takesPush_1 rfl ?_
  refine xa_putw (pc := 2) [xa_r (k + 1), xa_r (k + 2), xa_i ((pa : Nat) : Int), xa_i ((jo : Nat) : Int), xa_i wa, xa_i sr, xa_i a, xa_i ri] dX0_takesPush_2 flRX0_34 plX0_6 (by omega) (by omega) hB0 trivial rfl (fun h1 nh1 ch1 oh1 => ?_)
  have hB0 : h1.1 k = xa_o 0 [xa_r (k + 1), xa_r (k + 2), xa_i ((pa : Nat) : Int), xa_i ((jo : Nat) : Int), xa_i wa, xa_i sr, xa_i a, xa_i ri] := ch1
  have hB1 : h1.1 (k + 1) = xa_a 9 ld := (oh1 _ (by omega)).trans hB1
  have hB2 : h1.1 (k + 2) = xa_a 2 dg := (oh1 _ (by omega)).trans hB2
  have hn : h1.2 = h.2 := nh1.trans hn
  have fr : ∀ i, (i < k ∨ k + 3 ≤ i) → h1.1 i = h.1 i := fun i hi => (oh1 i (by omega)).trans (fr i hi)
  refine xa_iconst (pc := 5) dX0_takesPush_5 ?_
  refine xa_ireturn (pc := 6) dX0_takesPush_6 rfl (Or.inr rfl) ?_
  exact ⟨rfl, ⟨hB0, hB1, hB2, by omega, by omega⟩, hn, fr⟩
theorem c_takesRight {G : xa_G} {h : xa_H} (k : Nat) (ld dg : Nat → Int) (pa jo : Nat) (wa sr pu ri : Int) (a : Int) (ha : xa_ok a) (hB : xB h k ld dg pa jo wa sr pu ri)  : xa_M G mX0_takesRight [xa_r k, xa_i a] h 0 0 (fun r h' => ((0 ≤ a ∧ a ≤ 90) ∧ r = some (xa_i 1) ∧ xB h' k ld dg pa jo wa sr pu a ∨ ¬ (0 ≤ a ∧ a ≤ 90) ∧ r = some (xa_i 0) ∧ xB h' k ld dg pa jo wa sr pu ri) ∧ h'.2 = h.2 ∧ ∀ i, (i < k ∨ k + 3 ≤ i) → h'.1 i = h.1 i) := by
  refine xa_enter (by decide +kernel) (Nat.le_of_ble_eq_true rfl) ?_
  refine xa_locals (ls' := [some (xa_r k), some (xa_i a)]) rfl ?_
  have hn : h.2 = h.2 := rfl
  have fr : ∀ i, (i < k ∨ k + 3 ≤ i) → h.1 i = h.1 i := fun _ _ => rfl
  obtain ⟨hB0, hB1, hB2, hBk, hBn⟩ := hB
  refine xa_iload_n (pc := 0) dX0_takesRight_0 rfl ?_
  refine xa_iconst (pc := 1) dX0_takesRight_1 ?_
  refine xa_bipush (pc := 2) dX0_takesRight_2 rfl ?_
  refine xa_callS (pc := 4) (as := [xa_i a, xa_i 0, xa_i 90]) (rest := []) dX0_takesRight_4 ⟨qX9_isWithin.1, qX9_isWithin.2.1, qX9_isWithin.2.2, by decide, by decide⟩ lkRX0_37 smX9_isWithin rfl rfl (Nat.le_of_ble_eq_true rfl) (Nat.zero_le _) (Nat.zero_le _) (c_isWithin _ _ _ ⟨by omega, by omega⟩ (by decide) (by decide)) (fun r h' hq => ?_)
  obtain ⟨rfl, hq⟩ := hq
  have hq := hq.symm
  subst hq
  refine xa_if_ne (pc := 7) (tgt := 12) dX0_takesRight_7 (by decide) xa_okb (fun c_7 => ?_) (fun c_7 => ?_)
  · have c_7 := xa_b1.mp c_7
    refine xa_aload_n (pc := 12) dX0_takesRight_12 rfl ?_
    refine xa_iload_n (pc := 13) dX0_takesRight_13 rfl ?_
    refine xa_putw (pc := 14) [xa_r (k + 1), xa_r (k + 2), xa_i ((pa : Nat) : Int), xa_i ((jo : Nat) : Int), xa_i wa, xa_i sr, xa_i pu, xa_i a] dX0_takesRight_14 flRX0_22 plX0_7 (by omega) (by omega) hB0 trivial rfl (fun h1 nh1 ch1 oh1 => ?_)
    have hB0 : h1.1 k = xa_o 0 [xa_r (k + 1), xa_r (k + 2), xa_i ((pa : Nat) : Int), xa_i ((jo : Nat) : Int), xa_i wa, xa_i sr, xa_i pu, xa_i a] := ch1
    have hB1 : h1.1 (k + 1) = xa_a 9 ld := (oh1 _ (by omega)).trans hB1
    have hB2 : h1.1 (k + 2) = xa_a 2 dg := (oh1 _ (by omega)).trans hB2
    have hn : h1.2 = h.2 := nh1.trans hn
    have fr : ∀ i, (i < k ∨ k + 3 ≤ i) → h1.1 i = h.1 i := fun i hi => (oh1 i (by omega)).trans (fr i hi)
    refine xa_iconst (pc := 17) dX0_takesRight_17 ?_
    refine xa_ireturn (pc := 18) dX0_takesRight_18 rfl (Or.inr rfl) ?_
    first | exact ⟨Or.inl ⟨by omega, rfl, hB0, hB1, hB2, by omega, by omega⟩, hn, fr⟩ | (exfalso; omega)
  · have c_7 := xa_b0.mp c_7
    refine xa_iconst (pc := 10) dX0_takesRight_10 ?_
    refine xa_ireturn (pc := 11) dX0_takesRight_11 rfl (Or.inl rfl) ?_
    first | exact ⟨Or.inr ⟨by omega, rfl, hB0, hB1, hB2, by omega, by omega⟩, hn, fr⟩ | (exfalso; omega)
theorem c_isWhole {G : xa_G} {h : xa_H} (k : Nat) (ld dg : Nat → Int) (pa jo : Nat) (wa sr pu ri : Int) (hpa : pa ≤ 3) (hjo : jo ≤ 2) (hB : xB h k ld dg pa jo wa sr pu ri)  : xa_M G mX0_isWhole [xa_r k] h 0 0 (fun r h' => r = some (xa_i (xa_b (2 ≤ pa ∧ pa = jo + 1))) ∧ h' = h) := by
  refine xa_enter (by decide +kernel) (Nat.le_of_ble_eq_true rfl) ?_
  refine xa_locals (ls' := [some (xa_r k)]) rfl ?_
  obtain ⟨hB0, hB1, hB2, hBk, hBn⟩ := hB
  refine xa_aload_n (pc := 0) dX0_isWhole_0 rfl ?_
  refine xa_getfield (pc := 1) dX0_isWhole_1 flRX0_25 (by omega) (by omega) hB0 rfl ?_
  refine xa_iconst (pc := 4) dX0_isWhole_4 ?_
  refine xa_icmp_lt (pc := 5) (tgt := 25) dX0_isWhole_5 (by decide) ⟨by omega, by omega⟩ (by decide) (fun c_5 => ?_) (fun c_5 => ?_)
  · skip
    refine xa_iconst (pc := 25) dX0_isWhole_25 ?_
    refine xa_ireturn (pc := 26) dX0_isWhole_26 rfl (Or.inl rfl) ?_
    exact ⟨congrArg (fun z => some (xa_i z)) (xa_bf (by omega)), rfl⟩
  · skip
    refine xa_aload_n (pc := 8) dX0_isWhole_8 rfl ?_
    refine xa_getfield (pc := 9) dX0_isWhole_9 flRX0_28 (by omega) (by omega) hB0 rfl ?_
    refine xa_aload_n (pc := 12) dX0_isWhole_12 rfl ?_
    refine xa_getfield (pc := 13) dX0_isWhole_13 flRX0_25 (by omega) (by omega) hB0 rfl ?_
    refine xa_iconst (pc := 16) dX0_isWhole_16 ?_
    refine xa_isub (pc := 17) dX0_isWhole_17 ?_
    refine xa_icmp_ne (pc := 18) (tgt := 25) dX0_isWhole_18 (by decide) ⟨by omega, by omega⟩ ⟨by omega, by omega⟩ (fun c_18 => ?_) (fun c_18 => ?_)
    · skip
      refine xa_iconst (pc := 25) dX0_isWhole_25 ?_
      refine xa_ireturn (pc := 26) dX0_isWhole_26 rfl (Or.inl rfl) ?_
      exact ⟨congrArg (fun z => some (xa_i z)) (xa_bf (by omega)), rfl⟩
    · skip
      refine xa_iconst (pc := 21) dX0_isWhole_21 ?_
      refine xa_goto (pc := 22) (tgt := 26) dX0_isWhole_22 (by decide) ?_
      refine xa_ireturn (pc := 26) dX0_isWhole_26 rfl (Or.inr rfl) ?_
      exact ⟨congrArg (fun z => some (xa_i z)) (xa_bt (by omega)), rfl⟩
theorem c_loadOf {G : xa_G} {h : xa_H} (k : Nat) (ld dg : Nat → Int) (pa jo : Nat) (wa sr pu ri : Int) (p q : Int) (hp : -100 ≤ p ∧ p ≤ 100) (hq : xa_ok q) (hB : xB h k ld dg pa jo wa sr pu ri)  : xa_M G mX0_loadOf [xa_r k, xa_i p, xa_i q] h 0 0 (fun r h' => r = some (xa_i (sp_ld ld p q)) ∧ h' = h) := by
  refine xa_enter (by decide +kernel) (Nat.le_of_ble_eq_true rfl) ?_
  refine xa_locals (ls' := [some (xa_r k), some (xa_i p), some (xa_i q), none]) rfl ?_
  obtain ⟨hB0, hB1, hB2, hBk, hBn⟩ := hB
  refine xa_iload_n (pc := 0) dX0_loadOf_0 rfl ?_
  refine xa_iconst (pc := 1) dX0_loadOf_1 ?_
  refine xa_imul (pc := 2) dX0_loadOf_2 ?_
  refine xa_iload_n (pc := 3) dX0_loadOf_3 rfl ?_
  refine xa_iadd (pc := 4) dX0_loadOf_4 ?_
  refine xa_istoren (pc := 5) [some (xa_r k), some (xa_i p), some (xa_i q), some (xa_i ((p * 3) + q))] dX0_loadOf_5 (by decide) (by simp) rfl rfl ?_
  refine xa_iload_n (pc := 6) dX0_loadOf_6 rfl ?_
  refine xa_if_lt (pc := 7) (tgt := 37) dX0_loadOf_7 (by decide) ⟨by omega, by omega⟩ (fun c_7 => ?_) (fun c_7 => ?_)
  · skip
    refine xa_iconst (pc := 37) dX0_loadOf_37 ?_
    refine xa_ireturn (pc := 38) dX0_loadOf_38 rfl trivial ?_
    exact ⟨congrArg (fun z => some (xa_i z)) (show 0 = sp_ld ld p q by unfold sp_ld; first | (rw [if_pos (by omega)]; done) | (rw [if_neg (by omega)]; done) | (split <;> first | rfl | omega)), rfl⟩
  · skip
    refine xa_iload_n (pc := 10) dX0_loadOf_10 rfl ?_
    refine xa_iconst (pc := 11) dX0_loadOf_11 ?_
    refine xa_icmp_ge (pc := 12) (tgt := 37) dX0_loadOf_12 (by decide) ⟨by omega, by omega⟩ (by decide) (fun c_12 => ?_) (fun c_12 => ?_)
    · skip
      refine xa_iconst (pc := 37) dX0_loadOf_37 ?_
      refine xa_ireturn (pc := 38) dX0_loadOf_38 rfl trivial ?_
      exact ⟨congrArg (fun z => some (xa_i z)) (show 0 = sp_ld ld p q by unfold sp_ld; first | (rw [if_pos (by omega)]; done) | (rw [if_neg (by omega)]; done) | (split <;> first | rfl | omega)), rfl⟩
    · skip
      refine xa_iload_n (pc := 15) dX0_loadOf_15 rfl ?_
      refine xa_if_lt (pc := 16) (tgt := 37) dX0_loadOf_16 (by decide) ⟨by omega, by omega⟩ (fun c_16 => ?_) (fun c_16 => ?_)
      · skip
        refine xa_iconst (pc := 37) dX0_loadOf_37 ?_
        refine xa_ireturn (pc := 38) dX0_loadOf_38 rfl trivial ?_
        exact ⟨congrArg (fun z => some (xa_i z)) (show 0 = sp_ld ld p q by unfold sp_ld; first | (rw [if_pos (by omega)]; done) | (rw [if_neg (by omega)]; done) | (split <;> first | rfl | omega)), rfl⟩
      · skip
        refine xa_iload_n (pc := 19) dX0_loadOf_19 rfl ?_
        refine xa_aload_n (pc := 20) dX0_loadOf_20 rfl ?_
        refine xa_getfield (pc := 21) dX0_loadOf_21 flRX0_9 (by omega) (by omega) hB0 rfl ?_
        refine xa_alen (pc := 24) dX0_loadOf_24 (by omega) hB1 ?_
        refine xa_top (y := 9) rfl ?_
        refine xa_icmp_ge (pc := 25) (tgt := 37) dX0_loadOf_25 (by decide) ⟨by omega, by omega⟩ (by decide) (fun c_25 => ?_) (fun c_25 => ?_)
        · skip
          refine xa_iconst (pc := 37) dX0_loadOf_37 ?_
          refine xa_ireturn (pc := 38) dX0_loadOf_38 rfl trivial ?_
          exact ⟨congrArg (fun z => some (xa_i z)) (show 0 = sp_ld ld p q by unfold sp_ld; first | (rw [if_pos (by omega)]; done) | (rw [if_neg (by omega)]; done) | (split <;> first | rfl | omega)), rfl⟩
        · skip
          refine xa_aload_n (pc := 28) dX0_loadOf_28 rfl ?_
          refine xa_getfield (pc := 29) dX0_loadOf_29 flRX0_9 (by omega) (by omega) hB0 rfl ?_
          refine xa_iload_n (pc := 32) dX0_loadOf_32 rfl ?_
          refine xa_ialdw (pc := 33) (((p * 3) + q).toNat) dX0_loadOf_33 (by omega) hB1 (by omega) (by omega) rfl ?_
          refine xa_goto (pc := 34) (tgt := 38) dX0_loadOf_34 (by decide) ?_
          refine xa_ireturn (pc := 38) dX0_loadOf_38 rfl trivial ?_
          exact ⟨congrArg (fun z => some (xa_i z)) (show ld (((p * 3) + q).toNat) = sp_ld ld p q by unfold sp_ld; first | (rw [if_pos (by omega)]; done) | (rw [if_neg (by omega)]; done) | (split <;> first | rfl | omega)), rfl⟩
theorem c_stepOf {G : xa_G} {h : xa_H} (k : Nat) (ld dg : Nat → Int) (pa jo : Nat) (wa sr pu ri : Int) (j : Int) (hj : xa_ok j) (hB : xB h k ld dg pa jo wa sr pu ri)  : xa_M G mX0_stepOf [xa_r k, xa_i j] h 0 0 (fun r h' => r = some (xa_i (sp_dg dg j)) ∧ h' = h) := by
  refine xa_enter (by decide +kernel) (Nat.le_of_ble_eq_true rfl) ?_
  refine xa_locals (ls' := [some (xa_r k), some (xa_i j)]) rfl ?_
  obtain ⟨hB0, hB1, hB2, hBk, hBn⟩ := hB
  refine xa_iload_n (pc := 0) dX0_stepOf_0 rfl ?_
  refine xa_if_lt (pc := 1) (tgt := 22) dX0_stepOf_1 (by decide) ⟨by omega, by omega⟩ (fun c_1 => ?_) (fun c_1 => ?_)
  · skip
    refine xa_iconst (pc := 22) dX0_stepOf_22 ?_
    refine xa_ireturn (pc := 23) dX0_stepOf_23 rfl trivial ?_
    exact ⟨congrArg (fun z => some (xa_i z)) (show 0 = sp_dg dg j by unfold sp_dg; first | (rw [if_pos (by omega)]; done) | (rw [if_neg (by omega)]; done) | (split <;> first | rfl | omega)), rfl⟩
  · skip
    refine xa_iload_n (pc := 4) dX0_stepOf_4 rfl ?_
    refine xa_aload_n (pc := 5) dX0_stepOf_5 rfl ?_
    refine xa_getfield (pc := 6) dX0_stepOf_6 flRX0_15 (by omega) (by omega) hB0 rfl ?_
    refine xa_alen (pc := 9) dX0_stepOf_9 (by omega) hB2 ?_
    refine xa_top (y := 2) rfl ?_
    refine xa_icmp_ge (pc := 10) (tgt := 22) dX0_stepOf_10 (by decide) ⟨by omega, by omega⟩ (by decide) (fun c_10 => ?_) (fun c_10 => ?_)
    · skip
      refine xa_iconst (pc := 22) dX0_stepOf_22 ?_
      refine xa_ireturn (pc := 23) dX0_stepOf_23 rfl trivial ?_
      exact ⟨congrArg (fun z => some (xa_i z)) (show 0 = sp_dg dg j by unfold sp_dg; first | (rw [if_pos (by omega)]; done) | (rw [if_neg (by omega)]; done) | (split <;> first | rfl | omega)), rfl⟩
    · skip
      refine xa_aload_n (pc := 13) dX0_stepOf_13 rfl ?_
      refine xa_getfield (pc := 14) dX0_stepOf_14 flRX0_15 (by omega) (by omega) hB0 rfl ?_
      refine xa_iload_n (pc := 17) dX0_stepOf_17 rfl ?_
      refine xa_ialdw (pc := 18) j.toNat dX0_stepOf_18 (by omega) hB2 (by omega) (by omega) rfl ?_
      refine xa_goto (pc := 19) (tgt := 23) dX0_stepOf_19 (by decide) ?_
      refine xa_ireturn (pc := 23) dX0_stepOf_23 rfl trivial ?_
      exact ⟨congrArg (fun z => some (xa_i z)) (show dg j.toNat = sp_dg dg j by unfold sp_dg; first | (rw [if_pos (by omega)]; done) | (rw [if_neg (by omega)]; done) | (split <;> first | rfl | omega)), rfl⟩
theorem c_isWagging {G : xa_G} {h : xa_H} (k : Nat) (ld dg : Nat → Int) (pa jo : Nat) (wa sr pu ri : Int) (j : Int) (hj : xa_ok j) (hwa : xa_ok wa) (hB : xB h k ld dg pa jo wa sr pu ri)  : xa_M G mX0_isWagging [xa_r k, xa_i j] h 0 0 (fun r h' => r = some (xa_i (xa_b (j = wa))) ∧ h' = h) := by
  refine xa_enter (by decide +kernel) (Nat.le_of_ble_eq_true rfl) ?_
  refine xa_locals (ls' := [some (xa_r k), some (xa_i j)]) rfl ?_
  obtain ⟨hB0, hB1, hB2, hBk, hBn⟩ := hB
  refine xa_iload_n (pc := 0) dX0_isWagging_0 rfl ?_
  refine xa_aload_n (pc := 1) dX0_isWagging_1 rfl ?_
  refine xa_getfield (pc := 2) dX0_isWagging_2 flRX0_18 (by omega) (by omega) hB0 rfl ?_
  refine xa_icmp_ne (pc := 5) (tgt := 12) dX0_isWagging_5 (by decide) ⟨by omega, by omega⟩ ⟨by omega, by omega⟩ (fun c_5 => ?_) (fun c_5 => ?_)
  · skip
    refine xa_iconst (pc := 12) dX0_isWagging_12 ?_
    refine xa_ireturn (pc := 13) dX0_isWagging_13 rfl (Or.inl rfl) ?_
    exact ⟨congrArg (fun z => some (xa_i z)) (xa_bf (by omega)), rfl⟩
  · skip
    refine xa_iconst (pc := 8) dX0_isWagging_8 ?_
    refine xa_goto (pc := 9) (tgt := 13) dX0_isWagging_9 (by decide) ?_
    refine xa_ireturn (pc := 13) dX0_isWagging_13 rfl (Or.inr rfl) ?_
    exact ⟨congrArg (fun z => some (xa_i z)) (xa_bt (by omega)), rfl⟩
theorem c_stepsOf {G : xa_G} {h : xa_H} (k : Nat) (ld dg : Nat → Int) (pa jo : Nat) (wa sr pu ri : Int) (j : Int) (hj : xa_ok j) (hwa : xa_ok wa) (hB : xB h k ld dg pa jo wa sr pu ri)  : xa_M G mX0_stepsOf [xa_r k, xa_i j] h 0 0 (fun r h' => r = some (xa_i (sp_steps wa sr j)) ∧ h' = h) := by
  refine xa_enter (by decide +kernel) (Nat.le_of_ble_eq_true rfl) ?_
  refine xa_locals (ls' := [some (xa_r k), some (xa_i j)]) rfl ?_
  obtain ⟨hB0, hB1, hB2, hBk, hBn⟩ := hB
  refine xa_aload_n (pc := 0) dX0_stepsOf_0 rfl ?_
  refine xa_iload_n (pc := 1) dX0_stepsOf_1 rfl ?_
  refine xa_callV (pc := 2) (as := [xa_i j]) (rest := []) dX0_stepsOf_2 ⟨qX0_isWagging.1, qX0_isWagging.2.1, qX0_isWagging.2.2, by decide, by decide⟩ lkRX0_55 imX0_isWagging seX0_isWagging rfl rfl (by omega) (by omega) hB0 rfl (Nat.le_of_ble_eq_true rfl) (Nat.zero_le _) (Nat.zero_le _) (c_isWagging _ _ _ _ _ _ _ _ _ _ ⟨by omega, by omega⟩ (by assumption) ⟨hB0, hB1, hB2, by omega, by omega⟩) (fun r h' hq => ?_)
  obtain ⟨rfl, hq⟩ := hq
  have hq := hq.symm
  subst hq
  refine xa_if_eq (pc := 5) (tgt := 15) dX0_stepsOf_5 (by decide) xa_okb (fun c_5 => ?_) (fun c_5 => ?_)
  · have c_5 := xa_b0.mp c_5
    refine xa_iconst (pc := 15) dX0_stepsOf_15 ?_
    refine xa_ireturn (pc := 16) dX0_stepsOf_16 rfl trivial ?_
    exact ⟨congrArg (fun z => some (xa_i z)) (show 5 = sp_steps wa sr j by unfold sp_steps; first | (rw [if_pos (by omega)]; done) | (rw [if_neg (by omega)]; done) | (split <;> first | rfl | omega)), rfl⟩
  · have c_5 := xa_b1.mp c_5
    refine xa_aload_n (pc := 8) dX0_stepsOf_8 rfl ?_
    refine xa_getfield (pc := 9) dX0_stepsOf_9 flRX0_31 (by omega) (by omega) hB0 rfl ?_
    refine xa_goto (pc := 12) (tgt := 16) dX0_stepsOf_12 (by decide) ?_
    refine xa_ireturn (pc := 16) dX0_stepsOf_16 rfl trivial ?_
    exact ⟨congrArg (fun z => some (xa_i z)) (show sr = sp_steps wa sr j by unfold sp_steps; first | (rw [if_pos (by omega)]; done) | (rw [if_neg (by omega)]; done) | (split <;> first | rfl | omega)), rfl⟩
theorem c_lowestOf {G : xa_G} {h : xa_H} (k : Nat) (ld dg : Nat → Int) (pa jo : Nat) (wa sr pu ri : Int) (j : Int) (hj : xa_ok j) (hwa : xa_ok wa) (hB : xB h k ld dg pa jo wa sr pu ri)  : xa_M G mX0_lowestOf [xa_r k, xa_i j] h 0 0 (fun r h' => r = some (xa_i (sp_low wa j)) ∧ h' = h) := by
  refine xa_enter (by decide +kernel) (Nat.le_of_ble_eq_true rfl) ?_
  refine xa_locals (ls' := [some (xa_r k), some (xa_i j)]) rfl ?_
  obtain ⟨hB0, hB1, hB2, hBk, hBn⟩ := hB
  refine xa_aload_n (pc := 0) dX0_lowestOf_0 rfl ?_
  refine xa_iload_n (pc := 1) dX0_lowestOf_1 rfl ?_
  refine xa_callV (pc := 2) (as := [xa_i j]) (rest := []) dX0_lowestOf_2 ⟨qX0_isWagging.1, qX0_isWagging.2.1, qX0_isWagging.2.2, by decide, by decide⟩ lkRX0_55 imX0_isWagging seX0_isWagging rfl rfl (by omega) (by omega) hB0 rfl (Nat.le_of_ble_eq_true rfl) (Nat.zero_le _) (Nat.zero_le _) (c_isWagging _ _ _ _ _ _ _ _ _ _ ⟨by omega, by omega⟩ (by assumption) ⟨hB0, hB1, hB2, by omega, by omega⟩) (fun r h' hq => ?_)
  obtain ⟨rfl, hq⟩ := hq
  have hq := hq.symm
  subst hq
  refine xa_if_eq (pc := 5) (tgt := 12) dX0_lowestOf_5 (by decide) xa_okb (fun c_5 => ?_) (fun c_5 => ?_)
  · have c_5 := xa_b0.mp c_5
    refine xa_bipush (pc := 12) dX0_lowestOf_12 rfl ?_
    refine xa_ireturn (pc := 14) dX0_lowestOf_14 rfl trivial ?_
    exact ⟨congrArg (fun z => some (xa_i z)) (show (-2) = sp_low wa j by unfold sp_low; first | (rw [if_pos (by omega)]; done) | (rw [if_neg (by omega)]; done) | (split <;> first | rfl | omega)), rfl⟩
  · have c_5 := xa_b1.mp c_5
    refine xa_iconst (pc := 8) dX0_lowestOf_8 ?_
    refine xa_goto (pc := 9) (tgt := 14) dX0_lowestOf_9 (by decide) ?_
    refine xa_ireturn (pc := 14) dX0_lowestOf_14 rfl trivial ?_
    exact ⟨congrArg (fun z => some (xa_i z)) (show 0 = sp_low wa j by unfold sp_low; first | (rw [if_pos (by omega)]; done) | (rw [if_neg (by omega)]; done) | (split <;> first | rfl | omega)), rfl⟩
theorem c_loadAtRest_loop {G : xa_G} {h : xa_H} {k : Nat} {ld dg : Nat → Int} {pa jo : Nat} {wa sr pu ri : Int} (hpa : pa ≤ 3) (hB : xB h k ld dg pa jo wa sr pu ri) : ∀ (d : Nat) (m : Nat), pa - m < d → (m ≤ pa) → xa_W G mX0_loadAtRest (xa_Z G (fun r h' => r = some (xa_i (sp_sum (fun i => sp_ld ld ((i : Nat) : Int) 1) pa)) ∧ h' = h)) 4 [some (xa_r k), some (xa_i (sp_sum (fun i => sp_ld ld ((i : Nat) : Int) 1) m)), some (xa_i ((m : Nat) : Int))] [] h 0 0 := by
  intro d
  induction d with
  | zero => intros; exfalso; omega
  | succ d ih =>
    intro m hd hm
    obtain ⟨hB0, hB1, hB2, hBk, hBn⟩ := hB
    refine xa_iload_n (pc := 4) dX0_loadAtRest_4 rfl ?_
    refine xa_aload_n (pc := 5) dX0_loadAtRest_5 rfl ?_
    refine xa_getfield (pc := 6) dX0_loadAtRest_6 flRX0_25 (by omega) (by omega) hB0 rfl ?_
    refine xa_icmp_ge (pc := 9) (tgt := 27) dX0_loadAtRest_9 (by decide) ⟨by omega, by omega⟩ ⟨by omega, by omega⟩ (fun c_9 => ?_) (fun c_9 => ?_)
    · skip
      refine xa_iload_n (pc := 27) dX0_loadAtRest_27 rfl ?_
      refine xa_ireturn (pc := 28) dX0_loadAtRest_28 rfl trivial ?_
      have hmp : m = pa := by omega
      subst hmp
      exact ⟨rfl, rfl⟩
    · skip
      refine xa_iload_n (pc := 12) dX0_loadAtRest_12 rfl ?_
      refine xa_aload_n (pc := 13) dX0_loadAtRest_13 rfl ?_
      refine xa_iload_n (pc := 14) dX0_loadAtRest_14 rfl ?_
      refine xa_iconst (pc := 15) dX0_loadAtRest_15 ?_
      refine xa_callV (pc := 16) (as := [xa_i ((m : Nat) : Int), xa_i 1]) (rest := [xa_i (sp_sum (fun i => sp_ld ld ((i : Nat) : Int) 1) m)]) dX0_loadAtRest_16 ⟨qX0_loadOf.1, qX0_loadOf.2.1, qX0_loadOf.2.2, by decide, by decide⟩ lkRX0_52 imX0_loadOf seX0_loadOf rfl rfl (by omega) (by omega) hB0 rfl (Nat.le_of_ble_eq_true rfl) (Nat.zero_le _) (Nat.zero_le _) (c_loadOf _ _ _ _ _ _ _ _ _ _ _ (by omega) (by decide) ⟨hB0, hB1, hB2, by omega, by omega⟩) (fun r h' hq => ?_)
      obtain ⟨rfl, hq⟩ := hq
      have hq := hq.symm
      subst hq
      refine xa_iadd (pc := 19) dX0_loadAtRest_19 ?_
      refine xa_istoren (pc := 20) [some (xa_r k), some (xa_i ((sp_sum (fun i => sp_ld ld ((i : Nat) : Int) 1) m) + (sp_ld ld ((m : Nat) : Int) 1))), some (xa_i ((m : Nat) : Int))] dX0_loadAtRest_20 (by decide) (by simp) rfl rfl ?_
      refine xa_iincw (pc := 21) (y := ((m + 1 : Nat) : Int)) [some (xa_r k), some (xa_i ((sp_sum (fun i => sp_ld ld ((i : Nat) : Int) 1) m) + (sp_ld ld ((m : Nat) : Int) 1))), some (xa_i ((m + 1 : Nat) : Int))] dX0_loadAtRest_21 (by decide) rfl rfl (by omega) rfl ?_
      refine xa_goto (pc := 24) (tgt := 4) dX0_loadAtRest_24 (by decide) ?_
      exact ih (m + 1) (by omega) (by omega)
theorem c_loadAtRest {G : xa_G} {h : xa_H} (k : Nat) (ld dg : Nat → Int) (pa jo : Nat) (wa sr pu ri : Int) (hpa : pa ≤ 3) (hB : xB h k ld dg pa jo wa sr pu ri)  : xa_M G mX0_loadAtRest [xa_r k] h 0 0 (fun r h' => r = some (xa_i (sp_sum (fun i => sp_ld ld ((i : Nat) : Int) 1) pa)) ∧ h' = h) := by
  refine xa_enter (by decide +kernel) (Nat.le_of_ble_eq_true rfl) ?_
  refine xa_locals (ls' := [some (xa_r k), none, none]) rfl ?_
  refine xa_iconst (pc := 0) dX0_loadAtRest_0 ?_
  refine xa_istoren (pc := 1) [some (xa_r k), some (xa_i 0), none] dX0_loadAtRest_1 (by decide) (by simp) rfl rfl ?_
  refine xa_iconst (pc := 2) dX0_loadAtRest_2 ?_
  refine xa_istoren (pc := 3) [some (xa_r k), some (xa_i 0), some (xa_i 0)] dX0_loadAtRest_3 (by decide) (by simp) rfl rfl ?_
  exact c_loadAtRest_loop hpa hB (pa + 1) 0 (by omega) (Nat.zero_le _)
