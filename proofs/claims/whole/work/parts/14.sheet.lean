/-! Sheet -/
def xH (h : xa_H) (k : Nat) (mv le fi : Nat → Int) (pc : Nat) : Prop := h.1 k = xa_o 5 [xa_r (k + 1), xa_r (k + 2), xa_r (k + 3), xa_i ((pc : Nat) : Int)] ∧ h.1 (k + 1) = xa_a 240 mv ∧ h.1 (k + 2) = xa_a 4 le ∧ h.1 (k + 3) = xa_a 120 fi ∧ 2 ≤ k ∧ k + 3 < h.2
def sp_len (le : Nat → Int) (w : Int) : Int := if 0 ≤ w ∧ w < 4 then le w.toNat else 0
def sp_mvat (mv : Nat → Int) (w t : Int) : Int := if 0 ≤ w * 60 + t ∧ w * 60 + t < 240 then mv (w * 60 + t).toNat else 0
def sp_pic (fi : Nat → Int) (p q : Int) : Int := if 0 ≤ p * 4 + q ∧ p * 4 + q < 120 then fi (p * 4 + q).toNat else 0
/-- the first m of g over f -/
def sp_cp (f g : Nat → Int) (m : Nat) : Nat → Int := fun i => if i < m then g i else f i
theorem sp_cp_0 (f g : Nat → Int) : sp_cp f g 0 = f := by funext i; simp [sp_cp]
theorem sp_cp_s (f g : Nat → Int) (m : Nat) : xa_upf (sp_cp f g m) m (g m) = sp_cp f g (m + 1) := by
  funext i
  unfold xa_upf sp_cp
  by_cases h : i = m
  · subst h; simp
  · rw [if_neg h]
    by_cases h2 : i < m
    · rw [if_pos h2, if_pos (by omega)]
    · rw [if_neg h2, if_neg (by omega)]

theorem c_clear {G : xa_G} {h : xa_H} (k : Nat) (mv le fi : Nat → Int) (pc : Nat) (hH : xH h k mv le fi pc)  : xa_M G mX5_clear [xa_r k] h 0 0 (fun r h' => r = none ∧ xH h' k mv (xa_fl le 4 0) fi 0 ∧ h'.2 = h.2 ∧ ∀ i, (i < k ∨ k + 4 ≤ i) → h'.1 i = h.1 i) := by
  refine xa_enter (by decide +kernel) (Nat.le_of_ble_eq_true rfl) ?_
  refine xa_locals (ls' := [some (xa_r k)]) rfl ?_
  have hn : h.2 = h.2 := rfl
  have fr : ∀ i, (i < k ∨ k + 4 ≤ i) → h.1 i = h.1 i := fun _ _ => rfl
  obtain ⟨hH0, hH1, hH2, hH3, hHk, hHn⟩ := hH
  refine xa_aload_n (pc := 0) dX5_clear_0 rfl ?_
  refine xa_getfield (pc := 1) dX5_clear_1 flRX5_15 (by omega) (by omega) hH0 rfl ?_
  refine xa_iconst (pc := 4) dX5_clear_4 ?_
  refine xa_callS (pc := 5) (as := [xa_r (k + 2), xa_i 0]) (rest := []) dX5_clear_5 ⟨qJ7_fill_53178.1, qJ7_fill_53178.2.1, qJ7_fill_53178.2.2, by decide, by decide⟩ lkRX5_21 smJ7_fill_53178 rfl rfl (Nat.le_of_ble_eq_true rfl) (Nat.zero_le _) (Nat.zero_le _) (c_fill _ _ _ _ (by omega) (by omega) (by omega) hH2) (fun r h' hq => ?_)
  obtain ⟨rfl, hqn, hqA, hqf⟩ := hq
  have hH2 : h'.1 (k + 2) = xa_a 4 (xa_fl le 4 0) := hqA
  have hH0 : h'.1 k = xa_o 5 [xa_r (k + 1), xa_r (k + 2), xa_r (k + 3), xa_i ((pc : Nat) : Int)] := (hqf _ (by omega)).trans hH0
  have hH1 : h'.1 (k + 1) = xa_a 240 mv := (hqf _ (by omega)).trans hH1
  have hH3 : h'.1 (k + 3) = xa_a 120 fi := (hqf _ (by omega)).trans hH3
  have hn : h'.2 = h.2 := hqn.trans hn
  have fr : ∀ i, (i < k ∨ k + 4 ≤ i) → h'.1 i = h.1 i := fun i hi => (hqf i (by omega)).trans (fr i hi)
  refine xa_aload_n (pc := 8) dX5_clear_8 rfl ?_
  refine xa_iconst (pc := 9) dX5_clear_9 ?_
  refine xa_putw (pc := 10) [xa_r (k + 1), xa_r (k + 2), xa_r (k + 3), xa_i 0] dX5_clear_10 flRX5_27 plX5_3 (by omega) (by omega) hH0 trivial rfl (fun h1 nh1 ch1 oh1 => ?_)
  have hH0 : h1.1 k = xa_o 5 [xa_r (k + 1), xa_r (k + 2), xa_r (k + 3), xa_i 0] := ch1
  have hH1 : h1.1 (k + 1) = xa_a 240 mv := (oh1 _ (by omega)).trans hH1
  have hH2 : h1.1 (k + 2) = xa_a 4 (xa_fl le 4 0) := (oh1 _ (by omega)).trans hH2
  have hH3 : h1.1 (k + 3) = xa_a 120 fi := (oh1 _ (by omega)).trans hH3
  have hn : h1.2 = h.2 := nh1.trans hn
  have fr : ∀ i, (i < k ∨ k + 4 ≤ i) → h1.1 i = h.1 i := fun i hi => (oh1 i (by omega)).trans (fr i hi)
  refine xa_return (pc := 13) dX5_clear_13 rfl ?_
  exact ⟨rfl, ⟨hH0, hH1, hH2, hH3, by omega, by omega⟩, hn, fr⟩
theorem c_lengthOf {G : xa_G} {h : xa_H} (k : Nat) (mv le fi : Nat → Int) (pc : Nat) (w : Int) (hw : xa_ok w) (hH : xH h k mv le fi pc)  : xa_M G mX5_lengthOf [xa_r k, xa_i w] h 0 0 (fun r h' => r = some (xa_i (sp_len le w)) ∧ h' = h) := by
  refine xa_enter (by decide +kernel) (Nat.le_of_ble_eq_true rfl) ?_
  refine xa_locals (ls' := [some (xa_r k), some (xa_i w)]) rfl ?_
  obtain ⟨hH0, hH1, hH2, hH3, hHk, hHn⟩ := hH
  refine xa_iload_n (pc := 0) dX5_lengthOf_0 rfl ?_
  refine xa_if_lt (pc := 1) (tgt := 22) dX5_lengthOf_1 (by decide) ⟨by omega, by omega⟩ (fun c_1 => ?_) (fun c_1 => ?_)
  · skip
    refine xa_iconst (pc := 22) dX5_lengthOf_22 ?_
    refine xa_ireturn (pc := 23) dX5_lengthOf_23 rfl trivial ?_
    exact ⟨congrArg (fun z => some (xa_i z)) (show 0 = sp_len le w by unfold sp_len; first | (rw [if_pos (by omega)]; done) | (rw [if_neg (by omega)]; done)), rfl⟩
  · skip
    refine xa_iload_n (pc := 4) dX5_lengthOf_4 rfl ?_
    refine xa_aload_n (pc := 5) dX5_lengthOf_5 rfl ?_
    refine xa_getfield (pc := 6) dX5_lengthOf_6 flRX5_15 (by omega) (by omega) hH0 rfl ?_
    refine xa_alen (pc := 9) dX5_lengthOf_9 (by omega) hH2 ?_
    refine xa_top (y := 4) rfl ?_
    refine xa_icmp_ge (pc := 10) (tgt := 22) dX5_lengthOf_10 (by decide) ⟨by omega, by omega⟩ (by decide) (fun c_10 => ?_) (fun c_10 => ?_)
    · skip
      refine xa_iconst (pc := 22) dX5_lengthOf_22 ?_
      refine xa_ireturn (pc := 23) dX5_lengthOf_23 rfl trivial ?_
      exact ⟨congrArg (fun z => some (xa_i z)) (show 0 = sp_len le w by unfold sp_len; first | (rw [if_pos (by omega)]; done) | (rw [if_neg (by omega)]; done)), rfl⟩
    · skip
      refine xa_aload_n (pc := 13) dX5_lengthOf_13 rfl ?_
      refine xa_getfield (pc := 14) dX5_lengthOf_14 flRX5_15 (by omega) (by omega) hH0 rfl ?_
      refine xa_iload_n (pc := 17) dX5_lengthOf_17 rfl ?_
      refine xa_ialdw (pc := 18) w.toNat dX5_lengthOf_18 (by omega) hH2 (by omega) (by omega) rfl ?_
      refine xa_goto (pc := 19) (tgt := 23) dX5_lengthOf_19 (by decide) ?_
      refine xa_ireturn (pc := 23) dX5_lengthOf_23 rfl trivial ?_
      exact ⟨congrArg (fun z => some (xa_i z)) (show le w.toNat = sp_len le w by unfold sp_len; first | (rw [if_pos (by omega)]; done) | (rw [if_neg (by omega)]; done)), rfl⟩
theorem c_allMoves {G : xa_G} {h : xa_H} (k : Nat) (mv le fi : Nat → Int) (pc : Nat) (hH : xH h k mv le fi pc)  : xa_M G mX5_allMoves [xa_r k] h 0 0 (fun r h' => r = some (xa_i (le 0 + le 1 + le 2 + le 3)) ∧ h' = h) := by
  refine xa_enter (by decide +kernel) (Nat.le_of_ble_eq_true rfl) ?_
  refine xa_locals (ls' := [some (xa_r k), none, none]) rfl ?_
  obtain ⟨hH0, hH1, hH2, hH3, hHk, hHn⟩ := hH
  refine xa_iconst (pc := 0) dX5_allMoves_0 ?_
  refine xa_istoren (pc := 1) [some (xa_r k), some (xa_i 0), none] dX5_allMoves_1 (by decide) (by simp) rfl rfl ?_
  refine xa_iconst (pc := 2) dX5_allMoves_2 ?_
  refine xa_istoren (pc := 3) [some (xa_r k), some (xa_i 0), some (xa_i 0)] dX5_allMoves_3 (by decide) (by simp) rfl rfl ?_
  refine xa_iload_n (pc := 4) dX5_allMoves_4 rfl ?_
  refine xa_aload_n (pc := 5) dX5_allMoves_5 rfl ?_
  refine xa_getfield (pc := 6) dX5_allMoves_6 flRX5_15 (by omega) (by omega) hH0 rfl ?_
  refine xa_alen (pc := 9) dX5_allMoves_9 (by omega) hH2 ?_
  refine xa_top (y := 4) rfl ?_
  refine xa_icmp_ge (pc := 10) (tgt := 28) dX5_allMoves_10 (by decide) (by decide) (by decide) (fun c_10 => ?_) (fun c_10 => ?_)
  · skip
    exfalso; omega
  · skip
    refine xa_iload_n (pc := 13) dX5_allMoves_13 rfl ?_
    refine xa_aload_n (pc := 14) dX5_allMoves_14 rfl ?_
    refine xa_getfield (pc := 15) dX5_allMoves_15 flRX5_15 (by omega) (by omega) hH0 rfl ?_
    refine xa_iload_n (pc := 18) dX5_allMoves_18 rfl ?_
    refine xa_ialdw (pc := 19) 0 dX5_allMoves_19 (by omega) hH2 (by omega) (by omega) rfl ?_
    refine xa_iadd (pc := 20) dX5_allMoves_20 ?_
    refine xa_istoren (pc := 21) [some (xa_r k), some (xa_i (0 + (le 0))), some (xa_i 0)] dX5_allMoves_21 (by decide) (by simp) rfl rfl ?_
    refine xa_iincw (pc := 22) (y := 1) [some (xa_r k), some (xa_i (0 + (le 0))), some (xa_i 1)] dX5_allMoves_22 (by decide) rfl rfl rfl rfl ?_
    refine xa_goto (pc := 25) (tgt := 4) dX5_allMoves_25 (by decide) ?_
    refine xa_iload_n (pc := 4) dX5_allMoves_4 rfl ?_
    refine xa_aload_n (pc := 5) dX5_allMoves_5 rfl ?_
    refine xa_getfield (pc := 6) dX5_allMoves_6 flRX5_15 (by omega) (by omega) hH0 rfl ?_
    refine xa_alen (pc := 9) dX5_allMoves_9 (by omega) hH2 ?_
    refine xa_top (y := 4) rfl ?_
    refine xa_icmp_ge (pc := 10) (tgt := 28) dX5_allMoves_10 (by decide) (by decide) (by decide) (fun c_10 => ?_) (fun c_10 => ?_)
    · skip
      exfalso; omega
    · skip
      refine xa_iload_n (pc := 13) dX5_allMoves_13 rfl ?_
      refine xa_aload_n (pc := 14) dX5_allMoves_14 rfl ?_
      refine xa_getfield (pc := 15) dX5_allMoves_15 flRX5_15 (by omega) (by omega) hH0 rfl ?_
      refine xa_iload_n (pc := 18) dX5_allMoves_18 rfl ?_
      refine xa_ialdw (pc := 19) 1 dX5_allMoves_19 (by omega) hH2 (by omega) (by omega) rfl ?_
      refine xa_iadd (pc := 20) dX5_allMoves_20 ?_
      refine xa_istoren (pc := 21) [some (xa_r k), some (xa_i ((0 + (le 0)) + (le 1))), some (xa_i 1)] dX5_allMoves_21 (by decide) (by simp) rfl rfl ?_
      refine xa_iincw (pc := 22) (y := 2) [some (xa_r k), some (xa_i ((0 + (le 0)) + (le 1))), some (xa_i 2)] dX5_allMoves_22 (by decide) rfl rfl rfl rfl ?_
      refine xa_goto (pc := 25) (tgt := 4) dX5_allMoves_25 (by decide) ?_
      refine xa_iload_n (pc := 4) dX5_allMoves_4 rfl ?_
      refine xa_aload_n (pc := 5) dX5_allMoves_5 rfl ?_
      refine xa_getfield (pc := 6) dX5_allMoves_6 flRX5_15 (by omega) (by omega) hH0 rfl ?_
      refine xa_alen (pc := 9) dX5_allMoves_9 (by omega) hH2 ?_
      refine xa_top (y := 4) rfl ?_
      refine xa_icmp_ge (pc := 10) (tgt := 28) dX5_allMoves_10 (by decide) (by decide) (by decide) (fun c_10 => ?_) (fun c_10 => ?_)
      · skip
        exfalso; omega
      · skip
        refine xa_iload_n (pc := 13) dX5_allMoves_13 rfl ?_
        refine xa_aload_n (pc := 14) dX5_allMoves_14 rfl ?_
        refine xa_getfield (pc := 15) dX5_allMoves_15 flRX5_15 (by omega) (by omega) hH0 rfl ?_
        refine xa_iload_n (pc := 18) dX5_allMoves_18 rfl ?_
        refine xa_ialdw (pc := 19) 2 dX5_allMoves_19 (by omega) hH2 (by omega) (by omega) rfl ?_
        refine xa_iadd (pc := 20) dX5_allMoves_20 ?_
        refine xa_istoren (pc := 21) [some (xa_r k), some (xa_i (((0 + (le 0)) + (le 1)) + (le 2))), some (xa_i 2)] dX5_allMoves_21 (by decide) (by simp) rfl rfl ?_
        refine xa_iincw (pc := 22) (y := 3) [some (xa_r k), some (xa_i (((0 + (le 0)) + (le 1)) + (le 2))), some (xa_i 3)] dX5_allMoves_22 (by decide) rfl rfl rfl rfl ?_
        refine xa_goto (pc := 25) (tgt := 4) dX5_allMoves_25 (by decide) ?_
        refine xa_iload_n (pc := 4) dX5_allMoves_4 rfl ?_
        refine xa_aload_n (pc := 5) dX5_allMoves_5 rfl ?_
        refine xa_getfield (pc := 6) dX5_allMoves_6 flRX5_15 (by omega) (by omega) hH0 rfl ?_
        refine xa_alen (pc := 9) dX5_allMoves_9 (by omega) hH2 ?_
        refine xa_top (y := 4) rfl ?_
        refine xa_icmp_ge (pc := 10) (tgt := 28) dX5_allMoves_10 (by decide) (by decide) (by decide) (fun c_10 => ?_) (fun c_10 => ?_)
        · skip
          exfalso; omega
        · skip
          refine xa_iload_n (pc := 13) dX5_allMoves_13 rfl ?_
          refine xa_aload_n (pc := 14) dX5_allMoves_14 rfl ?_
          refine xa_getfield (pc := 15) dX5_allMoves_15 flRX5_15 (by omega) (by omega) hH0 rfl ?_
          refine xa_iload_n (pc := 18) dX5_allMoves_18 rfl ?_
          refine xa_ialdw (pc := 19) 3 dX5_allMoves_19 (by omega) hH2 (by omega) (by omega) rfl ?_
          refine xa_iadd (pc := 20) dX5_allMoves_20 ?_
          refine xa_istoren (pc := 21) [some (xa_r k), some (xa_i ((((0 + (le 0)) + (le 1)) + (le 2)) + (le 3))), some (xa_i 3)] dX5_allMoves_21 (by decide) (by simp) rfl rfl ?_
          refine xa_iincw (pc := 22) (y := 4) [some (xa_r k), some (xa_i ((((0 + (le 0)) + (le 1)) + (le 2)) + (le 3))), some (xa_i 4)] dX5_allMoves_22 (by decide) rfl rfl rfl rfl ?_
          refine xa_goto (pc := 25) (tgt := 4) dX5_allMoves_25 (by decide) ?_
          refine xa_iload_n (pc := 4) dX5_allMoves_4 rfl ?_
          refine xa_aload_n (pc := 5) dX5_allMoves_5 rfl ?_
          refine xa_getfield (pc := 6) dX5_allMoves_6 flRX5_15 (by omega) (by omega) hH0 rfl ?_
          refine xa_alen (pc := 9) dX5_allMoves_9 (by omega) hH2 ?_
          refine xa_top (y := 4) rfl ?_
          refine xa_icmp_ge (pc := 10) (tgt := 28) dX5_allMoves_10 (by decide) (by decide) (by decide) (fun c_10 => ?_) (fun c_10 => ?_)
          · skip
            refine xa_iload_n (pc := 28) dX5_allMoves_28 rfl ?_
            refine xa_ireturn (pc := 29) dX5_allMoves_29 rfl trivial ?_
            exact ⟨congrArg (fun z => some (xa_i z)) (show (((0 + (le 0)) + (le 1)) + (le 2)) + (le 3) = le 0 + le 1 + le 2 + le 3 by omega), rfl⟩
          · skip
            exfalso; omega

theorem c_moveAt {G : xa_G} {h : xa_H} (k : Nat) (mv le fi : Nat → Int) (pc : Nat) (w t : Int) (hw : -100 ≤ w ∧ w ≤ 100) (ht : -1000 ≤ t ∧ t ≤ 1000) (hH : xH h k mv le fi pc)  : xa_M G mX5_moveAt [xa_r k, xa_i w, xa_i t] h 0 0 (fun r h' => r = some (xa_i (sp_mvat mv w t)) ∧ h' = h) := by
  refine xa_enter (by decide +kernel) (Nat.le_of_ble_eq_true rfl) ?_
  refine xa_locals (ls' := [some (xa_r k), some (xa_i w), some (xa_i t), none]) rfl ?_
  obtain ⟨hH0, hH1, hH2, hH3, hHk, hHn⟩ := hH
  refine xa_iload_n (pc := 0) dX5_moveAt_0 rfl ?_
  refine xa_bipush (pc := 1) dX5_moveAt_1 rfl ?_
  refine xa_imul (pc := 3) dX5_moveAt_3 ?_
  refine xa_iload_n (pc := 4) dX5_moveAt_4 rfl ?_
  refine xa_iadd (pc := 5) dX5_moveAt_5 ?_
  refine xa_istoren (pc := 6) [some (xa_r k), some (xa_i w), some (xa_i t), some (xa_i ((w * 60) + t))] dX5_moveAt_6 (by decide) (by simp) rfl rfl ?_
  refine xa_iload_n (pc := 7) dX5_moveAt_7 rfl ?_
  refine xa_if_lt (pc := 8) (tgt := 29) dX5_moveAt_8 (by decide) ⟨by omega, by omega⟩ (fun c_8 => ?_) (fun c_8 => ?_)
  · skip
    refine xa_iconst (pc := 29) dX5_moveAt_29 ?_
    refine xa_ireturn (pc := 30) dX5_moveAt_30 rfl trivial ?_
    exact ⟨congrArg (fun z => some (xa_i z)) (show 0 = sp_mvat mv w t by unfold sp_mvat; first | (rw [if_pos (by omega)]; done) | (rw [if_neg (by omega)]; done)), rfl⟩
  · skip
    refine xa_iload_n (pc := 11) dX5_moveAt_11 rfl ?_
    refine xa_aload_n (pc := 12) dX5_moveAt_12 rfl ?_
    refine xa_getfield (pc := 13) dX5_moveAt_13 flRX5_9 (by omega) (by omega) hH0 rfl ?_
    refine xa_alen (pc := 16) dX5_moveAt_16 (by omega) hH1 ?_
    refine xa_top (y := 240) rfl ?_
    refine xa_icmp_ge (pc := 17) (tgt := 29) dX5_moveAt_17 (by decide) ⟨by omega, by omega⟩ (by decide) (fun c_17 => ?_) (fun c_17 => ?_)
    · skip
      refine xa_iconst (pc := 29) dX5_moveAt_29 ?_
      refine xa_ireturn (pc := 30) dX5_moveAt_30 rfl trivial ?_
      exact ⟨congrArg (fun z => some (xa_i z)) (show 0 = sp_mvat mv w t by unfold sp_mvat; first | (rw [if_pos (by omega)]; done) | (rw [if_neg (by omega)]; done)), rfl⟩
    · skip
      refine xa_aload_n (pc := 20) dX5_moveAt_20 rfl ?_
      refine xa_getfield (pc := 21) dX5_moveAt_21 flRX5_9 (by omega) (by omega) hH0 rfl ?_
      refine xa_iload_n (pc := 24) dX5_moveAt_24 rfl ?_
      refine xa_ialdw (pc := 25) (((w * 60) + t).toNat) dX5_moveAt_25 (by omega) hH1 (by omega) (by omega) rfl ?_
      refine xa_goto (pc := 26) (tgt := 30) dX5_moveAt_26 (by decide) ?_
      refine xa_ireturn (pc := 30) dX5_moveAt_30 rfl trivial ?_
      exact ⟨congrArg (fun z => some (xa_i z)) (show mv (((w * 60) + t).toNat) = sp_mvat mv w t by unfold sp_mvat; first | (rw [if_pos (by omega)]; done) | (rw [if_neg (by omega)]; done)), rfl⟩
theorem c_pictureOf {G : xa_G} {h : xa_H} (k : Nat) (mv le fi : Nat → Int) (pc : Nat) (p q : Int) (hp : -100 ≤ p ∧ p ≤ 100) (hq : -1000 ≤ q ∧ q ≤ 1000) (hH : xH h k mv le fi pc)  : xa_M G mX5_pictureOf [xa_r k, xa_i p, xa_i q] h 0 0 (fun r h' => r = some (xa_i (sp_pic fi p q)) ∧ h' = h) := by
  refine xa_enter (by decide +kernel) (Nat.le_of_ble_eq_true rfl) ?_
  refine xa_locals (ls' := [some (xa_r k), some (xa_i p), some (xa_i q), none]) rfl ?_
  obtain ⟨hH0, hH1, hH2, hH3, hHk, hHn⟩ := hH
  refine xa_iload_n (pc := 0) dX5_pictureOf_0 rfl ?_
  refine xa_iconst (pc := 1) dX5_pictureOf_1 ?_
  refine xa_imul (pc := 2) dX5_pictureOf_2 ?_
  refine xa_iload_n (pc := 3) dX5_pictureOf_3 rfl ?_
  refine xa_iadd (pc := 4) dX5_pictureOf_4 ?_
  refine xa_istoren (pc := 5) [some (xa_r k), some (xa_i p), some (xa_i q), some (xa_i ((p * 4) + q))] dX5_pictureOf_5 (by decide) (by simp) rfl rfl ?_
  refine xa_iload_n (pc := 6) dX5_pictureOf_6 rfl ?_
  refine xa_if_lt (pc := 7) (tgt := 28) dX5_pictureOf_7 (by decide) ⟨by omega, by omega⟩ (fun c_7 => ?_) (fun c_7 => ?_)
  · skip
    refine xa_iconst (pc := 28) dX5_pictureOf_28 ?_
    refine xa_ireturn (pc := 29) dX5_pictureOf_29 rfl trivial ?_
    exact ⟨congrArg (fun z => some (xa_i z)) (show 0 = sp_pic fi p q by unfold sp_pic; first | (rw [if_pos (by omega)]; done) | (rw [if_neg (by omega)]; done)), rfl⟩
  · skip
    refine xa_iload_n (pc := 10) dX5_pictureOf_10 rfl ?_
    refine xa_aload_n (pc := 11) dX5_pictureOf_11 rfl ?_
    refine xa_getfield (pc := 12) dX5_pictureOf_12 flRX5_18 (by omega) (by omega) hH0 rfl ?_
    refine xa_alen (pc := 15) dX5_pictureOf_15 (by omega) hH3 ?_
    refine xa_top (y := 120) rfl ?_
    refine xa_icmp_ge (pc := 16) (tgt := 28) dX5_pictureOf_16 (by decide) ⟨by omega, by omega⟩ (by decide) (fun c_16 => ?_) (fun c_16 => ?_)
    · skip
      refine xa_iconst (pc := 28) dX5_pictureOf_28 ?_
      refine xa_ireturn (pc := 29) dX5_pictureOf_29 rfl trivial ?_
      exact ⟨congrArg (fun z => some (xa_i z)) (show 0 = sp_pic fi p q by unfold sp_pic; first | (rw [if_pos (by omega)]; done) | (rw [if_neg (by omega)]; done)), rfl⟩
    · skip
      refine xa_aload_n (pc := 19) dX5_pictureOf_19 rfl ?_
      refine xa_getfield (pc := 20) dX5_pictureOf_20 flRX5_18 (by omega) (by omega) hH0 rfl ?_
      refine xa_iload_n (pc := 23) dX5_pictureOf_23 rfl ?_
      refine xa_ialdw (pc := 24) (((p * 4) + q).toNat) dX5_pictureOf_24 (by omega) hH3 (by omega) (by omega) rfl ?_
      refine xa_goto (pc := 25) (tgt := 29) dX5_pictureOf_25 (by decide) ?_
      refine xa_ireturn (pc := 29) dX5_pictureOf_29 rfl trivial ?_
      exact ⟨congrArg (fun z => some (xa_i z)) (show fi (((p * 4) + q).toNat) = sp_pic fi p q by unfold sp_pic; first | (rw [if_pos (by omega)]; done) | (rw [if_neg (by omega)]; done)), rfl⟩
theorem c_addPicture {G : xa_G} {h : xa_H} (k : Nat) (mv le fi : Nat → Int) (pc : Nat) (a b c d : Int) (hpc : pc ≤ 30) (hH : xH h k mv le fi pc)  : xa_M G mX5_addPicture [xa_r k, xa_i a, xa_i b, xa_i c, xa_i d] h 0 0 (fun r h' => (pc < 30 ∧ r = some (xa_i 1) ∧ xH h' k mv le (xa_upf (xa_upf (xa_upf (xa_upf fi (pc * 4) a) (pc * 4 + 1) b) (pc * 4 + 2) c) (pc * 4 + 3) d) (pc + 1) ∨ ¬ pc < 30 ∧ r = some (xa_i 0) ∧ xH h' k mv le fi pc) ∧ h'.2 = h.2 ∧ ∀ i, (i < k ∨ k + 4 ≤ i) → h'.1 i = h.1 i) := by
  refine xa_enter (by decide +kernel) (Nat.le_of_ble_eq_true rfl) ?_
  refine xa_locals (ls' := [some (xa_r k), some (xa_i a), some (xa_i b), some (xa_i c), some (xa_i d), none]) rfl ?_
  have hn : h.2 = h.2 := rfl
  have fr : ∀ i, (i < k ∨ k + 4 ≤ i) → h.1 i = h.1 i := fun _ _ => rfl
  obtain ⟨hH0, hH1, hH2, hH3, hHk, hHn⟩ := hH
  refine xa_aload_n (pc := 0) dX5_addPicture_0 rfl ?_
  refine xa_getfield (pc := 1) dX5_addPicture_1 flRX5_27 (by omega) (by omega) hH0 rfl ?_
  refine xa_iconst (pc := 4) dX5_addPicture_4 ?_
  refine xa_imul (pc := 5) dX5_addPicture_5 ?_
  refine xa_istorew (pc := 6) [some (xa_r k), some (xa_i a), some (xa_i b), some (xa_i c), some (xa_i d), some (xa_i (((pc : Nat) : Int) * 4))] dX5_addPicture_6 (by decide) (by simp) rfl rfl ?_
  refine xa_iload (pc := 8) dX5_addPicture_8 rfl ?_
  refine xa_if_lt (pc := 10) (tgt := 25) dX5_addPicture_10 (by decide) ⟨by omega, by omega⟩ (fun c_10 => ?_) (fun c_10 => ?_)
  · skip
    refine xa_iconst (pc := 25) dX5_addPicture_25 ?_
    refine xa_ireturn (pc := 26) dX5_addPicture_26 rfl (Or.inl rfl) ?_
    exact ⟨Or.inr ⟨by omega, rfl, ⟨hH0, hH1, hH2, hH3, by omega, by omega⟩⟩, hn, fr⟩
  · skip
    refine xa_iload (pc := 13) dX5_addPicture_13 rfl ?_
    refine xa_aload_n (pc := 15) dX5_addPicture_15 rfl ?_
    refine xa_getfield (pc := 16) dX5_addPicture_16 flRX5_18 (by omega) (by omega) hH0 rfl ?_
    refine xa_alen (pc := 19) dX5_addPicture_19 (by omega) hH3 ?_
    refine xa_top (y := 120) rfl ?_
    refine xa_iconst (pc := 20) dX5_addPicture_20 ?_
    refine xa_isub (pc := 21) dX5_addPicture_21 ?_
    refine xa_icmp_le (pc := 22) (tgt := 27) dX5_addPicture_22 (by decide) ⟨by omega, by omega⟩ ⟨by omega, by omega⟩ (fun c_22 => ?_) (fun c_22 => ?_)
    · skip
      refine xa_aload_n (pc := 27) dX5_addPicture_27 rfl ?_
      refine xa_getfield (pc := 28) dX5_addPicture_28 flRX5_18 (by omega) (by omega) hH0 rfl ?_
      refine xa_iload (pc := 31) dX5_addPicture_31 rfl ?_
      refine xa_iload_n (pc := 33) dX5_addPicture_33 rfl ?_
      refine xa_iastw (pc := 34) (pc * 4) dX5_addPicture_34 (by omega) (by omega) hH3 (by omega) (by omega) (by omega) (fun h1 nh1 ch1 oh1 => ?_)
      have hH3 : h1.1 (k + 3) = xa_a 120 (xa_upf fi (pc * 4) a) := ch1
      have hH0 : h1.1 k = xa_o 5 [xa_r (k + 1), xa_r (k + 2), xa_r (k + 3), xa_i ((pc : Nat) : Int)] := (oh1 _ (by omega)).trans hH0
      have hH1 : h1.1 (k + 1) = xa_a 240 mv := (oh1 _ (by omega)).trans hH1
      have hH2 : h1.1 (k + 2) = xa_a 4 le := (oh1 _ (by omega)).trans hH2
      have hn : h1.2 = h.2 := nh1.trans hn
      have fr : ∀ i, (i < k ∨ k + 4 ≤ i) → h1.1 i = h.1 i := fun i hi => (oh1 i (by omega)).trans (fr i hi)
      refine xa_aload_n (pc := 35) dX5_addPicture_35 rfl ?_
      refine xa_getfield (pc := 36) dX5_addPicture_36 flRX5_18 (by omega) (by omega) hH0 rfl ?_
      refine xa_iload (pc := 39) dX5_addPicture_39 rfl ?_
      refine xa_iconst (pc := 41) dX5_addPicture_41 ?_
      refine xa_iadd (pc := 42) dX5_addPicture_42 ?_
      refine xa_iload_n (pc := 43) dX5_addPicture_43 rfl ?_
      refine xa_iastw (pc := 44) (pc * 4 + 1) dX5_addPicture_44 (by omega) (by omega) hH3 (by omega) (by omega) (by omega) (fun h2 nh2 ch2 oh2 => ?_)
      have hH3 : h2.1 (k + 3) = xa_a 120 (xa_upf (xa_upf fi (pc * 4) a) (pc * 4 + 1) b) := ch2
      have hH0 : h2.1 k = xa_o 5 [xa_r (k + 1), xa_r (k + 2), xa_r (k + 3), xa_i ((pc : Nat) : Int)] := (oh2 _ (by omega)).trans hH0
      have hH1 : h2.1 (k + 1) = xa_a 240 mv := (oh2 _ (by omega)).trans hH1
      have hH2 : h2.1 (k + 2) = xa_a 4 le := (oh2 _ (by omega)).trans hH2
      have hn : h2.2 = h.2 := nh2.trans hn
      have fr : ∀ i, (i < k ∨ k + 4 ≤ i) → h2.1 i = h.1 i := fun i hi => (oh2 i (by omega)).trans (fr i hi)
      refine xa_aload_n (pc := 45) dX5_addPicture_45 rfl ?_
      refine xa_getfield (pc := 46) dX5_addPicture_46 flRX5_18 (by omega) (by omega) hH0 rfl ?_
      refine xa_iload (pc := 49) dX5_addPicture_49 rfl ?_
      refine xa_iconst (pc := 51) dX5_addPicture_51 ?_
      refine xa_iadd (pc := 52) dX5_addPicture_52 ?_
      refine xa_iload_n (pc := 53) dX5_addPicture_53 rfl ?_
      refine xa_iastw (pc := 54) (pc * 4 + 2) dX5_addPicture_54 (by omega) (by omega) hH3 (by omega) (by omega) (by omega) (fun h3 nh3 ch3 oh3 => ?_)
      have hH3 : h3.1 (k + 3) = xa_a 120 (xa_upf (xa_upf (xa_upf fi (pc * 4) a) (pc * 4 + 1) b) (pc * 4 + 2) c) := ch3
      have hH0 : h3.1 k = xa_o 5 [xa_r (k + 1), xa_r (k + 2), xa_r (k + 3), xa_i ((pc : Nat) : Int)] := (oh3 _ (by omega)).trans hH0
      have hH1 : h3.1 (k + 1) = xa_a 240 mv := (oh3 _ (by omega)).trans hH1
      have hH2 : h3.1 (k + 2) = xa_a 4 le := (oh3 _ (by omega)).trans hH2
      have hn : h3.2 = h.2 := nh3.trans hn
      have fr : ∀ i, (i < k ∨ k + 4 ≤ i) → h3.1 i = h.1 i := fun i hi => (oh3 i (by omega)).trans (fr i hi)
      refine xa_aload_n (pc := 55) dX5_addPicture_55 rfl ?_
      refine xa_getfield (pc := 56) dX5_addPicture_56 flRX5_18 (by omega) (by omega) hH0 rfl ?_
      refine xa_iload (pc := 59) dX5_addPicture_59 rfl ?_
      refine xa_iconst (pc := 61) dX5_addPicture_61 ?_
      refine xa_iadd (pc := 62) dX5_addPicture_62 ?_
      refine xa_iload (pc := 63) dX5_addPicture_63 rfl ?_
      refine xa_iastw (pc := 65) (pc * 4 + 3) dX5_addPicture_65 (by omega) (by omega) hH3 (by omega) (by omega) (by omega) (fun h4 nh4 ch4 oh4 => ?_)
      have hH3 : h4.1 (k + 3) = xa_a 120 (xa_upf (xa_upf (xa_upf (xa_upf fi (pc * 4) a) (pc * 4 + 1) b) (pc * 4 + 2) c) (pc * 4 + 3) d) := ch4
      have hH0 : h4.1 k = xa_o 5 [xa_r (k + 1), xa_r (k + 2), xa_r (k + 3), xa_i ((pc : Nat) : Int)] := (oh4 _ (by omega)).trans hH0
      have hH1 : h4.1 (k + 1) = xa_a 240 mv := (oh4 _ (by omega)).trans hH1
      have hH2 : h4.1 (k + 2) = xa_a 4 le := (oh4 _ (by omega)).trans hH2
      have hn : h4.2 = h.2 := nh4.trans hn
      have fr : ∀ i, (i < k ∨ k + 4 ≤ i) → h4.1 i = h.1 i := fun i hi => (oh4 i (by omega)).trans (fr i hi)
      refine xa_aload_n (pc := 66) dX5_addPicture_66 rfl ?_
      refine xa_dup (pc := 67) dX5_addPicture_67 rfl ?_
      refine xa_getfield (pc := 68) dX5_addPicture_68 flRX5_27 (by omega) (by omega) hH0 rfl ?_
      refine xa_iconst (pc := 71) dX5_addPicture_71 ?_
      refine xa_iadd (pc := 72) dX5_addPicture_72 ?_
      refine xa_top (y := ((pc + 1 : Nat) : Int)) (by omega) ?_
      refine xa_putw (pc := 73) [xa_r (k + 1), xa_r (k + 2), xa_r (k + 3), xa_i ((pc + 1 : Nat) : Int)] dX5_addPicture_73 flRX5_27 plX5_3 (by omega) (by omega) hH0 trivial rfl (fun h5 nh5 ch5 oh5 => ?_)
      have hH0 : h5.1 k = xa_o 5 [xa_r (k + 1), xa_r (k + 2), xa_r (k + 3), xa_i ((pc + 1 : Nat) : Int)] := ch5
      have hH1 : h5.1 (k + 1) = xa_a 240 mv := (oh5 _ (by omega)).trans hH1
      have hH2 : h5.1 (k + 2) = xa_a 4 le := (oh5 _ (by omega)).trans hH2
      have hH3 : h5.1 (k + 3) = xa_a 120 (xa_upf (xa_upf (xa_upf (xa_upf fi (pc * 4) a) (pc * 4 + 1) b) (pc * 4 + 2) c) (pc * 4 + 3) d) := (oh5 _ (by omega)).trans hH3
      have hn : h5.2 = h.2 := nh5.trans hn
      have fr : ∀ i, (i < k ∨ k + 4 ≤ i) → h5.1 i = h.1 i := fun i hi => (oh5 i (by omega)).trans (fr i hi)
      refine xa_iconst (pc := 76) dX5_addPicture_76 ?_
      refine xa_ireturn (pc := 77) dX5_addPicture_77 rfl (Or.inr rfl) ?_
      exact ⟨Or.inl ⟨by omega, rfl, ⟨hH0, hH1, hH2, hH3, by omega, by omega⟩⟩, hn, fr⟩
    · skip
      refine xa_iconst (pc := 25) dX5_addPicture_25 ?_
      refine xa_ireturn (pc := 26) dX5_addPicture_26 rfl (Or.inl rfl) ?_
      exact ⟨Or.inr ⟨by omega, rfl, ⟨hH0, hH1, hH2, hH3, by omega, by omega⟩⟩, hn, fr⟩
theorem c_addMove {G : xa_G} {h : xa_H} (k : Nat) (mv le fi : Nat → Int) (pc : Nat) (w : Nat) (a : Int) (hw : w ≤ 3) (hle : ∀ i, 0 ≤ le i ∧ le i ≤ 60) (hH : xH h k mv le fi pc)  : xa_M G mX5_addMove [xa_r k, xa_i ((w : Nat) : Int), xa_i a] h 0 0 (fun r h' => (le w < 60 ∧ r = some (xa_i 1) ∧ xH h' k (xa_upf mv (w * 60 + (le w).toNat) a) (xa_upf le w (le w + 1)) fi pc ∨ ¬ le w < 60 ∧ r = some (xa_i 0) ∧ xH h' k mv le fi pc) ∧ h'.2 = h.2 ∧ ∀ i, (i < k ∨ k + 4 ≤ i) → h'.1 i = h.1 i) := by
  refine xa_enter (by decide +kernel) (Nat.le_of_ble_eq_true rfl) ?_
  refine xa_locals (ls' := [some (xa_r k), some (xa_i ((w : Nat) : Int)), some (xa_i a), none]) rfl ?_
  have hn : h.2 = h.2 := rfl
  have fr : ∀ i, (i < k ∨ k + 4 ≤ i) → h.1 i = h.1 i := fun _ _ => rfl
  obtain ⟨hH0, hH1, hH2, hH3, hHk, hHn⟩ := hH
  refine xa_iload_n (pc := 0) dX5_addMove_0 rfl ?_
  refine xa_if_lt (pc := 1) (tgt := 24) dX5_addMove_1 (by decide) ⟨by omega, by omega⟩ (fun c_1 => ?_) (fun c_1 => ?_)
  · skip
    refine xa_iconst (pc := 24) dX5_addMove_24 ?_
    refine xa_ireturn (pc := 25) dX5_addMove_25 rfl (Or.inl rfl) ?_
    exact ⟨Or.inr ⟨by omega, rfl, ⟨hH0, hH1, hH2, hH3, by omega, by omega⟩⟩, hn, fr⟩
  · skip
    refine xa_iload_n (pc := 4) dX5_addMove_4 rfl ?_
    refine xa_aload_n (pc := 5) dX5_addMove_5 rfl ?_
    refine xa_getfield (pc := 6) dX5_addMove_6 flRX5_15 (by omega) (by omega) hH0 rfl ?_
    refine xa_alen (pc := 9) dX5_addMove_9 (by omega) hH2 ?_
    refine xa_top (y := 4) rfl ?_
    refine xa_icmp_ge (pc := 10) (tgt := 24) dX5_addMove_10 (by decide) ⟨by omega, by omega⟩ (by decide) (fun c_10 => ?_) (fun c_10 => ?_)
    · skip
      refine xa_iconst (pc := 24) dX5_addMove_24 ?_
      refine xa_ireturn (pc := 25) dX5_addMove_25 rfl (Or.inl rfl) ?_
      exact ⟨Or.inr ⟨by omega, rfl, ⟨hH0, hH1, hH2, hH3, by omega, by omega⟩⟩, hn, fr⟩
    · skip
      refine xa_aload_n (pc := 13) dX5_addMove_13 rfl ?_
      refine xa_getfield (pc := 14) dX5_addMove_14 flRX5_15 (by omega) (by omega) hH0 rfl ?_
      refine xa_iload_n (pc := 17) dX5_addMove_17 rfl ?_
      refine xa_ialdw (pc := 18) w dX5_addMove_18 (by omega) hH2 (by omega) (by omega) (Int.toNat_natCast _) ?_
      have b_18 := hle w
      refine xa_bipush (pc := 19) dX5_addMove_19 rfl ?_
      refine xa_icmp_lt (pc := 21) (tgt := 26) dX5_addMove_21 (by decide) ⟨by omega, by omega⟩ (by decide) (fun c_21 => ?_) (fun c_21 => ?_)
      · skip
        refine xa_iload_n (pc := 26) dX5_addMove_26 rfl ?_
        refine xa_bipush (pc := 27) dX5_addMove_27 rfl ?_
        refine xa_imul (pc := 29) dX5_addMove_29 ?_
        refine xa_aload_n (pc := 30) dX5_addMove_30 rfl ?_
        refine xa_getfield (pc := 31) dX5_addMove_31 flRX5_15 (by omega) (by omega) hH0 rfl ?_
        refine xa_iload_n (pc := 34) dX5_addMove_34 rfl ?_
        refine xa_ialdw (pc := 35) w dX5_addMove_35 (by omega) hH2 (by omega) (by omega) (Int.toNat_natCast _) ?_
        have b_35 := hle w
        refine xa_iadd (pc := 36) dX5_addMove_36 ?_
        refine xa_istoren (pc := 37) [some (xa_r k), some (xa_i ((w : Nat) : Int)), some (xa_i a), some (xa_i ((((w : Nat) : Int) * 60) + (le w)))] dX5_addMove_37 (by decide) (by simp) rfl rfl ?_
        refine xa_iload_n (pc := 38) dX5_addMove_38 rfl ?_
        refine xa_if_lt (pc := 39) (tgt := 51) dX5_addMove_39 (by decide) ⟨by omega, by omega⟩ (fun c_39 => ?_) (fun c_39 => ?_)
        · skip
          refine xa_iconst (pc := 51) dX5_addMove_51 ?_
          refine xa_ireturn (pc := 52) dX5_addMove_52 rfl (Or.inl rfl) ?_
          exact ⟨Or.inr ⟨by omega, rfl, ⟨hH0, hH1, hH2, hH3, by omega, by omega⟩⟩, hn, fr⟩
        · skip
          refine xa_iload_n (pc := 42) dX5_addMove_42 rfl ?_
          refine xa_aload_n (pc := 43) dX5_addMove_43 rfl ?_
          refine xa_getfield (pc := 44) dX5_addMove_44 flRX5_9 (by omega) (by omega) hH0 rfl ?_
          refine xa_alen (pc := 47) dX5_addMove_47 (by omega) hH1 ?_
          refine xa_top (y := 240) rfl ?_
          refine xa_icmp_lt (pc := 48) (tgt := 53) dX5_addMove_48 (by decide) ⟨by omega, by omega⟩ (by decide) (fun c_48 => ?_) (fun c_48 => ?_)
          · skip
            refine xa_aload_n (pc := 53) dX5_addMove_53 rfl ?_
            refine xa_getfield (pc := 54) dX5_addMove_54 flRX5_9 (by omega) (by omega) hH0 rfl ?_
            refine xa_iload_n (pc := 57) dX5_addMove_57 rfl ?_
            refine xa_iload_n (pc := 58) dX5_addMove_58 rfl ?_
            refine xa_iastw (pc := 59) (w * 60 + (le w).toNat) dX5_addMove_59 (by omega) (by omega) hH1 (by omega) (by omega) (by omega) (fun h1 nh1 ch1 oh1 => ?_)
            have hH1 : h1.1 (k + 1) = xa_a 240 (xa_upf mv (w * 60 + (le w).toNat) a) := ch1
            have hH0 : h1.1 k = xa_o 5 [xa_r (k + 1), xa_r (k + 2), xa_r (k + 3), xa_i ((pc : Nat) : Int)] := (oh1 _ (by omega)).trans hH0
            have hH2 : h1.1 (k + 2) = xa_a 4 le := (oh1 _ (by omega)).trans hH2
            have hH3 : h1.1 (k + 3) = xa_a 120 fi := (oh1 _ (by omega)).trans hH3
            have hn : h1.2 = h.2 := nh1.trans hn
            have fr : ∀ i, (i < k ∨ k + 4 ≤ i) → h1.1 i = h.1 i := fun i hi => (oh1 i (by omega)).trans (fr i hi)
            refine xa_aload_n (pc := 60) dX5_addMove_60 rfl ?_
            refine xa_getfield (pc := 61) dX5_addMove_61 flRX5_15 (by omega) (by omega) hH0 rfl ?_
            refine xa_iload_n (pc := 64) dX5_addMove_64 rfl ?_
            refine xa_dup2 (pc := 65) dX5_addMove_65 rfl rfl ?_
            refine xa_ialdw (pc := 66) w dX5_addMove_66 (by omega) hH2 (by omega) (by omega) (Int.toNat_natCast _) ?_
            have b_66 := hle w
            refine xa_iconst (pc := 67) dX5_addMove_67 ?_
            refine xa_iadd (pc := 68) dX5_addMove_68 ?_
            refine xa_iastw (pc := 69) w dX5_addMove_69 (by omega) (by omega) hH2 (by omega) (by omega) (Int.toNat_natCast _) (fun h2 nh2 ch2 oh2 => ?_)
            have hH2 : h2.1 (k + 2) = xa_a 4 (xa_upf le w ((le w) + 1)) := ch2
            have hH0 : h2.1 k = xa_o 5 [xa_r (k + 1), xa_r (k + 2), xa_r (k + 3), xa_i ((pc : Nat) : Int)] := (oh2 _ (by omega)).trans hH0
            have hH1 : h2.1 (k + 1) = xa_a 240 (xa_upf mv (w * 60 + (le w).toNat) a) := (oh2 _ (by omega)).trans hH1
            have hH3 : h2.1 (k + 3) = xa_a 120 fi := (oh2 _ (by omega)).trans hH3
            have hn : h2.2 = h.2 := nh2.trans hn
            have fr : ∀ i, (i < k ∨ k + 4 ≤ i) → h2.1 i = h.1 i := fun i hi => (oh2 i (by omega)).trans (fr i hi)
            refine xa_iconst (pc := 70) dX5_addMove_70 ?_
            refine xa_ireturn (pc := 71) dX5_addMove_71 rfl (Or.inr rfl) ?_
            exact ⟨Or.inl ⟨by omega, rfl, ⟨hH0, hH1, hH2, hH3, by omega, by omega⟩⟩, hn, fr⟩
          · skip
            refine xa_iconst (pc := 51) dX5_addMove_51 ?_
            refine xa_ireturn (pc := 52) dX5_addMove_52 rfl (Or.inl rfl) ?_
            exact ⟨Or.inr ⟨by omega, rfl, ⟨hH0, hH1, hH2, hH3, by omega, by omega⟩⟩, hn, fr⟩
      · skip
        refine xa_iconst (pc := 24) dX5_addMove_24 ?_
        refine xa_ireturn (pc := 25) dX5_addMove_25 rfl (Or.inl rfl) ?_
        exact ⟨Or.inr ⟨by omega, rfl, ⟨hH0, hH1, hH2, hH3, by omega, by omega⟩⟩, hn, fr⟩
theorem c_clearWay {G : xa_G} {h : xa_H} (k : Nat) (mv le fi : Nat → Int) (pc : Nat) (w : Nat) (hw : w ≤ 3) (hH : xH h k mv le fi pc)  : xa_M G mX5_clearWay [xa_r k, xa_i ((w : Nat) : Int)] h 0 0 (fun r h' => r = some (xa_i (le w)) ∧ xH h' k mv (xa_upf le w 0) fi pc ∧ h'.2 = h.2 ∧ ∀ i, (i < k ∨ k + 4 ≤ i) → h'.1 i = h.1 i) := by
  refine xa_enter (by decide +kernel) (Nat.le_of_ble_eq_true rfl) ?_
  refine xa_locals (ls' := [some (xa_r k), some (xa_i ((w : Nat) : Int)), none]) rfl ?_
  have hn : h.2 = h.2 := rfl
  have fr : ∀ i, (i < k ∨ k + 4 ≤ i) → h.1 i = h.1 i := fun _ _ => rfl
  obtain ⟨hH0, hH1, hH2, hH3, hHk, hHn⟩ := hH
  refine xa_aload_n (pc := 0) dX5_clearWay_0 rfl ?_
  refine xa_iload_n (pc := 1) dX5_clearWay_1 rfl ?_
  refine xa_callV (pc := 2) (as := [xa_i ((w : Nat) : Int)]) (rest := []) dX5_clearWay_2 ⟨qX5_lengthOf.1, qX5_lengthOf.2.1, qX5_lengthOf.2.2, by decide, by decide⟩ lkRX5_31 imX5_lengthOf seX5_lengthOf rfl rfl (by omega) (by omega) hH0 rfl (Nat.le_of_ble_eq_true rfl) (Nat.zero_le _) (Nat.zero_le _) (c_lengthOf _ _ _ _ _ _ ⟨by omega, by omega⟩ ⟨hH0, hH1, hH2, hH3, by omega, by omega⟩) (fun r h' hq => ?_)
  obtain ⟨rfl, hq⟩ := hq
  have hq := hq.symm
  subst hq
  refine xa_istoren (pc := 5) [some (xa_r k), some (xa_i ((w : Nat) : Int)), some (xa_i (sp_len le ((w : Nat) : Int)))] dX5_clearWay_5 (by decide) (by simp) rfl rfl ?_
  refine xa_iload_n (pc := 6) dX5_clearWay_6 rfl ?_
  refine xa_if_lt (pc := 7) (tgt := 26) dX5_clearWay_7 (by decide) ⟨by omega, by omega⟩ (fun c_7 => ?_) (fun c_7 => ?_)
  · skip
    exfalso; omega
  · skip
    refine xa_iload_n (pc := 10) dX5_clearWay_10 rfl ?_
    refine xa_aload_n (pc := 11) dX5_clearWay_11 rfl ?_
    refine xa_getfield (pc := 12) dX5_clearWay_12 flRX5_15 (by omega) (by omega) hH0 rfl ?_
    refine xa_alen (pc := 15) dX5_clearWay_15 (by omega) hH2 ?_
    refine xa_top (y := 4) rfl ?_
    refine xa_icmp_ge (pc := 16) (tgt := 26) dX5_clearWay_16 (by decide) ⟨by omega, by omega⟩ (by decide) (fun c_16 => ?_) (fun c_16 => ?_)
    · skip
      exfalso; omega
    · skip
      refine xa_aload_n (pc := 19) dX5_clearWay_19 rfl ?_
      refine xa_getfield (pc := 20) dX5_clearWay_20 flRX5_15 (by omega) (by omega) hH0 rfl ?_
      refine xa_iload_n (pc := 23) dX5_clearWay_23 rfl ?_
      refine xa_iconst (pc := 24) dX5_clearWay_24 ?_
      refine xa_iastw (pc := 25) w dX5_clearWay_25 (by omega) (by omega) hH2 (by omega) (by omega) (Int.toNat_natCast _) (fun h1 nh1 ch1 oh1 => ?_)
      have hH2 : h1.1 (k + 2) = xa_a 4 (xa_upf le w 0) := ch1
      have hH0 : h1.1 k = xa_o 5 [xa_r (k + 1), xa_r (k + 2), xa_r (k + 3), xa_i ((pc : Nat) : Int)] := (oh1 _ (by omega)).trans hH0
      have hH1 : h1.1 (k + 1) = xa_a 240 mv := (oh1 _ (by omega)).trans hH1
      have hH3 : h1.1 (k + 3) = xa_a 120 fi := (oh1 _ (by omega)).trans hH3
      have hn : h1.2 = h.2 := nh1.trans hn
      have fr : ∀ i, (i < k ∨ k + 4 ≤ i) → h1.1 i = h.1 i := fun i hi => (oh1 i (by omega)).trans (fr i hi)
      refine xa_iload_n (pc := 26) dX5_clearWay_26 rfl ?_
      refine xa_ireturn (pc := 27) dX5_clearWay_27 rfl trivial ?_
      exact ⟨congrArg (fun z => some (xa_i z)) (show sp_len le ((w : Nat) : Int) = le w from if_pos (by omega)), ⟨hH0, hH1, hH2, hH3, by omega, by omega⟩, hn, fr⟩
theorem c_copyS3 {G : xa_G} {h0 : xa_H} {k k2 : Nat} {mv le fi mv2 le2 fi2 : Nat → Int} {pc pc2 : Nat} (hk : 2 ≤ k) (hk2 : 2 ≤ k2) (hkk : k2 + 4 ≤ k ∨ k + 4 ≤ k2) : ∀ (d : Nat) (m : Nat) (h : xa_H), 120 - m < d → (m ≤ 120) → (h.2 = h0.2) → (k + 3 < h.2) → (k2 + 3 < h.2) → (h.1 k = xa_o 5 [xa_r (k + 1), xa_r (k + 2), xa_r (k + 3), xa_i ((pc : Nat) : Int)]) → (h.1 (k + 1) = xa_a 240 (sp_cp mv mv2 240)) → (h.1 (k + 2) = xa_a 4 (sp_cp le le2 4)) → (h.1 (k + 3) = xa_a 120 (sp_cp fi fi2 m)) → (h.1 k2 = xa_o 5 [xa_r (k2 + 1), xa_r (k2 + 2), xa_r (k2 + 3), xa_i ((pc2 : Nat) : Int)]) → (h.1 (k2 + 1) = xa_a 240 mv2) → (h.1 (k2 + 2) = xa_a 4 le2) → (h.1 (k2 + 3) = xa_a 120 fi2) → (∀ i, (i < k ∨ k + 4 ≤ i) → h.1 i = h0.1 i) → xa_W G mX5_copySheet (xa_Z G (fun r h' => r = none ∧ xH h' k (sp_cp mv mv2 240) (sp_cp le le2 4) (sp_cp fi fi2 120) pc2 ∧ h'.2 = h0.2 ∧ ∀ i, (i < k ∨ k + 4 ≤ i) → h'.1 i = h0.1 i)) 78 [some (xa_r k), some (xa_r k2), some (xa_i ((m : Nat) : Int))] [] h 0 0 := by
  intro d
  induction d with
  | zero => intros; exfalso; omega
  | succ d ih =>
    intro m h hd hm hn0 hkn hkn2 hH0 hH1 hH2 hH3 hO0 hO1 hO2 hO3 fr0
    have hn : h.2 = h.2 := rfl
    have fr : ∀ i, (i < k ∨ k + 4 ≤ i) → h.1 i = h.1 i := fun _ _ => rfl
    refine xa_iload_n (pc := 78) dX5_copySheet_78 rfl ?_
    refine xa_aload_n (pc := 79) dX5_copySheet_79 rfl ?_
    refine xa_getfield (pc := 80) dX5_copySheet_80 flRX5_18 (by omega) (by omega) hH0 rfl ?_
    refine xa_alen (pc := 83) dX5_copySheet_83 (by omega) hH3 ?_
    refine xa_top (y := 120) rfl ?_
    refine xa_icmp_ge (pc := 84) (tgt := 114) dX5_copySheet_84 (by decide) ⟨by omega, by omega⟩ (by decide) (fun c_84 => ?_) (fun c_84 => ?_)
    · skip
      refine xa_aload_n (pc := 114) dX5_copySheet_114 rfl ?_
      refine xa_aload_n (pc := 115) dX5_copySheet_115 rfl ?_
      refine xa_getfield (pc := 116) dX5_copySheet_116 flRX5_27 (by omega) (by omega) hO0 rfl ?_
      refine xa_putw (pc := 119) [xa_r (k + 1), xa_r (k + 2), xa_r (k + 3), xa_i ((pc2 : Nat) : Int)] dX5_copySheet_119 flRX5_27 plX5_3 (by omega) (by omega) hH0 trivial rfl (fun h1 nh1 ch1 oh1 => ?_)
      have hH0 : h1.1 k = xa_o 5 [xa_r (k + 1), xa_r (k + 2), xa_r (k + 3), xa_i ((pc2 : Nat) : Int)] := ch1
      have hH1 : h1.1 (k + 1) = xa_a 240 (sp_cp mv mv2 240) := (oh1 _ (by omega)).trans hH1
      have hH2 : h1.1 (k + 2) = xa_a 4 (sp_cp le le2 4) := (oh1 _ (by omega)).trans hH2
      have hH3 : h1.1 (k + 3) = xa_a 120 (sp_cp fi fi2 m) := (oh1 _ (by omega)).trans hH3
      have hO0 : h1.1 k2 = xa_o 5 [xa_r (k2 + 1), xa_r (k2 + 2), xa_r (k2 + 3), xa_i ((pc2 : Nat) : Int)] := (oh1 _ (by omega)).trans hO0
      have hO1 : h1.1 (k2 + 1) = xa_a 240 mv2 := (oh1 _ (by omega)).trans hO1
      have hO2 : h1.1 (k2 + 2) = xa_a 4 le2 := (oh1 _ (by omega)).trans hO2
      have hO3 : h1.1 (k2 + 3) = xa_a 120 fi2 := (oh1 _ (by omega)).trans hO3
      have hn : h1.2 = h.2 := nh1.trans hn
      have fr : ∀ i, (i < k ∨ k + 4 ≤ i) → h1.1 i = h.1 i := fun i hi => (oh1 i (by omega)).trans (fr i hi)
      refine xa_return (pc := 122) dX5_copySheet_122 rfl ?_
      have hme : m = 120 := by omega
      subst hme
      exact ⟨rfl, ⟨hH0, hH1, hH2, hH3, by omega, by omega⟩, by omega, fun i hi => (fr i hi).trans (fr0 i hi)⟩
    · skip
      refine xa_iload_n (pc := 87) dX5_copySheet_87 rfl ?_
      refine xa_aload_n (pc := 88) dX5_copySheet_88 rfl ?_
      refine xa_getfield (pc := 89) dX5_copySheet_89 flRX5_18 (by omega) (by omega) hO0 rfl ?_
      refine xa_alen (pc := 92) dX5_copySheet_92 (by omega) hO3 ?_
      refine xa_top (y := 120) rfl ?_
      refine xa_icmp_ge (pc := 93) (tgt := 114) dX5_copySheet_93 (by decide) ⟨by omega, by omega⟩ (by decide) (fun c_93 => ?_) (fun c_93 => ?_)
      · skip
        exfalso; omega
      · skip
        refine xa_aload_n (pc := 96) dX5_copySheet_96 rfl ?_
        refine xa_getfield (pc := 97) dX5_copySheet_97 flRX5_18 (by omega) (by omega) hH0 rfl ?_
        refine xa_iload_n (pc := 100) dX5_copySheet_100 rfl ?_
        refine xa_aload_n (pc := 101) dX5_copySheet_101 rfl ?_
        refine xa_getfield (pc := 102) dX5_copySheet_102 flRX5_18 (by omega) (by omega) hO0 rfl ?_
        refine xa_iload_n (pc := 105) dX5_copySheet_105 rfl ?_
        refine xa_ialdw (pc := 106) m dX5_copySheet_106 (by omega) hO3 (by omega) (by omega) (Int.toNat_natCast _) ?_
        refine xa_iastw (pc := 107) m dX5_copySheet_107 (by omega) (by omega) hH3 (by omega) (by omega) (Int.toNat_natCast _) (fun h2 nh2 ch2 oh2 => ?_)
        have hH3 : h2.1 (k + 3) = xa_a 120 (xa_upf (sp_cp fi fi2 m) m (fi2 m)) := ch2
        have hH0 : h2.1 k = xa_o 5 [xa_r (k + 1), xa_r (k + 2), xa_r (k + 3), xa_i ((pc : Nat) : Int)] := (oh2 _ (by omega)).trans hH0
        have hH1 : h2.1 (k + 1) = xa_a 240 (sp_cp mv mv2 240) := (oh2 _ (by omega)).trans hH1
        have hH2 : h2.1 (k + 2) = xa_a 4 (sp_cp le le2 4) := (oh2 _ (by omega)).trans hH2
        have hO0 : h2.1 k2 = xa_o 5 [xa_r (k2 + 1), xa_r (k2 + 2), xa_r (k2 + 3), xa_i ((pc2 : Nat) : Int)] := (oh2 _ (by omega)).trans hO0
        have hO1 : h2.1 (k2 + 1) = xa_a 240 mv2 := (oh2 _ (by omega)).trans hO1
        have hO2 : h2.1 (k2 + 2) = xa_a 4 le2 := (oh2 _ (by omega)).trans hO2
        have hO3 : h2.1 (k2 + 3) = xa_a 120 fi2 := (oh2 _ (by omega)).trans hO3
        have hn : h2.2 = h.2 := nh2.trans hn
        have fr : ∀ i, (i < k ∨ k + 4 ≤ i) → h2.1 i = h.1 i := fun i hi => (oh2 i (by omega)).trans (fr i hi)
        refine xa_iincw (pc := 108) (y := ((m + 1 : Nat) : Int)) [some (xa_r k), some (xa_r k2), some (xa_i ((m + 1 : Nat) : Int))] dX5_copySheet_108 (by decide) rfl rfl (by omega) rfl ?_
        refine xa_goto (pc := 111) (tgt := 78) dX5_copySheet_111 (by decide) ?_
        exact ih (m + 1) _ (by omega) (by omega) (by omega) (by omega) (by omega) hH0 hH1 hH2 (by rw [hH3, sp_cp_s]) hO0 hO1 hO2 hO3 (fun i hi => (fr i hi).trans (fr0 i hi))
theorem c_copyS2 {G : xa_G} {h0 : xa_H} {k k2 : Nat} {mv le fi mv2 le2 fi2 : Nat → Int} {pc pc2 : Nat} (hk : 2 ≤ k) (hk2 : 2 ≤ k2) (hkk : k2 + 4 ≤ k ∨ k + 4 ≤ k2) : ∀ (d : Nat) (m : Nat) (h : xa_H), 4 - m < d → (m ≤ 4) → (h.2 = h0.2) → (k + 3 < h.2) → (k2 + 3 < h.2) → (h.1 k = xa_o 5 [xa_r (k + 1), xa_r (k + 2), xa_r (k + 3), xa_i ((pc : Nat) : Int)]) → (h.1 (k + 1) = xa_a 240 (sp_cp mv mv2 240)) → (h.1 (k + 2) = xa_a 4 (sp_cp le le2 m)) → (h.1 (k + 3) = xa_a 120 fi) → (h.1 k2 = xa_o 5 [xa_r (k2 + 1), xa_r (k2 + 2), xa_r (k2 + 3), xa_i ((pc2 : Nat) : Int)]) → (h.1 (k2 + 1) = xa_a 240 mv2) → (h.1 (k2 + 2) = xa_a 4 le2) → (h.1 (k2 + 3) = xa_a 120 fi2) → (∀ i, (i < k ∨ k + 4 ≤ i) → h.1 i = h0.1 i) → xa_W G mX5_copySheet (xa_Z G (fun r h' => r = none ∧ xH h' k (sp_cp mv mv2 240) (sp_cp le le2 4) (sp_cp fi fi2 120) pc2 ∧ h'.2 = h0.2 ∧ ∀ i, (i < k ∨ k + 4 ≤ i) → h'.1 i = h0.1 i)) 40 [some (xa_r k), some (xa_r k2), some (xa_i ((m : Nat) : Int))] [] h 0 0 := by
  intro d
  induction d with
  | zero => intros; exfalso; omega
  | succ d ih =>
    intro m h hd hm hn0 hkn hkn2 hH0 hH1 hH2 hH3 hO0 hO1 hO2 hO3 fr0
    have hn : h.2 = h.2 := rfl
    have fr : ∀ i, (i < k ∨ k + 4 ≤ i) → h.1 i = h.1 i := fun _ _ => rfl
    refine xa_iload_n (pc := 40) dX5_copySheet_40 rfl ?_
    refine xa_aload_n (pc := 41) dX5_copySheet_41 rfl ?_
    refine xa_getfield (pc := 42) dX5_copySheet_42 flRX5_15 (by omega) (by omega) hH0 rfl ?_
    refine xa_alen (pc := 45) dX5_copySheet_45 (by omega) hH2 ?_
    refine xa_top (y := 4) rfl ?_
    refine xa_icmp_ge (pc := 46) (tgt := 76) dX5_copySheet_46 (by decide) ⟨by omega, by omega⟩ (by decide) (fun c_46 => ?_) (fun c_46 => ?_)
    · skip
      refine xa_iconst (pc := 76) dX5_copySheet_76 ?_
      refine xa_istoren (pc := 77) [some (xa_r k), some (xa_r k2), some (xa_i 0)] dX5_copySheet_77 (by decide) (by simp) rfl rfl ?_
      have hme : m = 4 := by omega
      subst hme
      exact c_copyS3 hk hk2 hkk 121 0 h (by omega) (by omega) hn0 hkn hkn2 hH0 hH1 hH2 (by rw [sp_cp_0]; exact hH3) hO0 hO1 hO2 hO3 fr0
    · skip
      refine xa_iload_n (pc := 49) dX5_copySheet_49 rfl ?_
      refine xa_aload_n (pc := 50) dX5_copySheet_50 rfl ?_
      refine xa_getfield (pc := 51) dX5_copySheet_51 flRX5_15 (by omega) (by omega) hO0 rfl ?_
      refine xa_alen (pc := 54) dX5_copySheet_54 (by omega) hO2 ?_
      refine xa_top (y := 4) rfl ?_
      refine xa_icmp_ge (pc := 55) (tgt := 76) dX5_copySheet_55 (by decide) ⟨by omega, by omega⟩ (by decide) (fun c_55 => ?_) (fun c_55 => ?_)
      · skip
        exfalso; omega
      · skip
        refine xa_aload_n (pc := 58) dX5_copySheet_58 rfl ?_
        refine xa_getfield (pc := 59) dX5_copySheet_59 flRX5_15 (by omega) (by omega) hH0 rfl ?_
        refine xa_iload_n (pc := 62) dX5_copySheet_62 rfl ?_
        refine xa_aload_n (pc := 63) dX5_copySheet_63 rfl ?_
        refine xa_getfield (pc := 64) dX5_copySheet_64 flRX5_15 (by omega) (by omega) hO0 rfl ?_
        refine xa_iload_n (pc := 67) dX5_copySheet_67 rfl ?_
        refine xa_ialdw (pc := 68) m dX5_copySheet_68 (by omega) hO2 (by omega) (by omega) (Int.toNat_natCast _) ?_
        refine xa_iastw (pc := 69) m dX5_copySheet_69 (by omega) (by omega) hH2 (by omega) (by omega) (Int.toNat_natCast _) (fun h1 nh1 ch1 oh1 => ?_)
        have hH2 : h1.1 (k + 2) = xa_a 4 (xa_upf (sp_cp le le2 m) m (le2 m)) := ch1
        have hH0 : h1.1 k = xa_o 5 [xa_r (k + 1), xa_r (k + 2), xa_r (k + 3), xa_i ((pc : Nat) : Int)] := (oh1 _ (by omega)).trans hH0
        have hH1 : h1.1 (k + 1) = xa_a 240 (sp_cp mv mv2 240) := (oh1 _ (by omega)).trans hH1
        have hH3 : h1.1 (k + 3) = xa_a 120 fi := (oh1 _ (by omega)).trans hH3
        have hO0 : h1.1 k2 = xa_o 5 [xa_r (k2 + 1), xa_r (k2 + 2), xa_r (k2 + 3), xa_i ((pc2 : Nat) : Int)] := (oh1 _ (by omega)).trans hO0
        have hO1 : h1.1 (k2 + 1) = xa_a 240 mv2 := (oh1 _ (by omega)).trans hO1
        have hO2 : h1.1 (k2 + 2) = xa_a 4 le2 := (oh1 _ (by omega)).trans hO2
        have hO3 : h1.1 (k2 + 3) = xa_a 120 fi2 := (oh1 _ (by omega)).trans hO3
        have hn : h1.2 = h.2 := nh1.trans hn
        have fr : ∀ i, (i < k ∨ k + 4 ≤ i) → h1.1 i = h.1 i := fun i hi => (oh1 i (by omega)).trans (fr i hi)
        refine xa_iincw (pc := 70) (y := ((m + 1 : Nat) : Int)) [some (xa_r k), some (xa_r k2), some (xa_i ((m + 1 : Nat) : Int))] dX5_copySheet_70 (by decide) rfl rfl (by omega) rfl ?_
        refine xa_goto (pc := 73) (tgt := 40) dX5_copySheet_73 (by decide) ?_
        exact ih (m + 1) _ (by omega) (by omega) (by omega) (by omega) (by omega) hH0 hH1 (by rw [hH2, sp_cp_s]) hH3 hO0 hO1 hO2 hO3 (fun i hi => (fr i hi).trans (fr0 i hi))
theorem c_copyS1 {G : xa_G} {h0 : xa_H} {k k2 : Nat} {mv le fi mv2 le2 fi2 : Nat → Int} {pc pc2 : Nat} (hk : 2 ≤ k) (hk2 : 2 ≤ k2) (hkk : k2 + 4 ≤ k ∨ k + 4 ≤ k2) : ∀ (d : Nat) (m : Nat) (h : xa_H), 240 - m < d → (m ≤ 240) → (h.2 = h0.2) → (k + 3 < h.2) → (k2 + 3 < h.2) → (h.1 k = xa_o 5 [xa_r (k + 1), xa_r (k + 2), xa_r (k + 3), xa_i ((pc : Nat) : Int)]) → (h.1 (k + 1) = xa_a 240 (sp_cp mv mv2 m)) → (h.1 (k + 2) = xa_a 4 le) → (h.1 (k + 3) = xa_a 120 fi) → (h.1 k2 = xa_o 5 [xa_r (k2 + 1), xa_r (k2 + 2), xa_r (k2 + 3), xa_i ((pc2 : Nat) : Int)]) → (h.1 (k2 + 1) = xa_a 240 mv2) → (h.1 (k2 + 2) = xa_a 4 le2) → (h.1 (k2 + 3) = xa_a 120 fi2) → (∀ i, (i < k ∨ k + 4 ≤ i) → h.1 i = h0.1 i) → xa_W G mX5_copySheet (xa_Z G (fun r h' => r = none ∧ xH h' k (sp_cp mv mv2 240) (sp_cp le le2 4) (sp_cp fi fi2 120) pc2 ∧ h'.2 = h0.2 ∧ ∀ i, (i < k ∨ k + 4 ≤ i) → h'.1 i = h0.1 i)) 2 [some (xa_r k), some (xa_r k2), some (xa_i ((m : Nat) : Int))] [] h 0 0 := by
  intro d
  induction d with
  | zero => intros; exfalso; omega
  | succ d ih =>
    intro m h hd hm hn0 hkn hkn2 hH0 hH1 hH2 hH3 hO0 hO1 hO2 hO3 fr0
    have hn : h.2 = h.2 := rfl
    have fr : ∀ i, (i < k ∨ k + 4 ≤ i) → h.1 i = h.1 i := fun _ _ => rfl
    refine xa_iload_n (pc := 2) dX5_copySheet_2 rfl ?_
    refine xa_aload_n (pc := 3) dX5_copySheet_3 rfl ?_
    refine xa_getfield (pc := 4) dX5_copySheet_4 flRX5_9 (by omega) (by omega) hH0 rfl ?_
    refine xa_alen (pc := 7) dX5_copySheet_7 (by omega) hH1 ?_
    refine xa_top (y := 240) rfl ?_
    refine xa_icmp_ge (pc := 8) (tgt := 38) dX5_copySheet_8 (by decide) ⟨by omega, by omega⟩ (by decide) (fun c_8 => ?_) (fun c_8 => ?_)
    · skip
      refine xa_iconst (pc := 38) dX5_copySheet_38 ?_
      refine xa_istoren (pc := 39) [some (xa_r k), some (xa_r k2), some (xa_i 0)] dX5_copySheet_39 (by decide) (by simp) rfl rfl ?_
      have hme : m = 240 := by omega
      subst hme
      exact c_copyS2 hk hk2 hkk 5 0 h (by omega) (by omega) hn0 hkn hkn2 hH0 hH1 (by rw [sp_cp_0]; exact hH2) hH3 hO0 hO1 hO2 hO3 fr0
    · skip
      refine xa_iload_n (pc := 11) dX5_copySheet_11 rfl ?_
      refine xa_aload_n (pc := 12) dX5_copySheet_12 rfl ?_
      refine xa_getfield (pc := 13) dX5_copySheet_13 flRX5_9 (by omega) (by omega) hO0 rfl ?_
      refine xa_alen (pc := 16) dX5_copySheet_16 (by omega) hO1 ?_
      refine xa_top (y := 240) rfl ?_
      refine xa_icmp_ge (pc := 17) (tgt := 38) dX5_copySheet_17 (by decide) ⟨by omega, by omega⟩ (by decide) (fun c_17 => ?_) (fun c_17 => ?_)
      · skip
        exfalso; omega
      · skip
        refine xa_aload_n (pc := 20) dX5_copySheet_20 rfl ?_
        refine xa_getfield (pc := 21) dX5_copySheet_21 flRX5_9 (by omega) (by omega) hH0 rfl ?_
        refine xa_iload_n (pc := 24) dX5_copySheet_24 rfl ?_
        refine xa_aload_n (pc := 25) dX5_copySheet_25 rfl ?_
        refine xa_getfield (pc := 26) dX5_copySheet_26 flRX5_9 (by omega) (by omega) hO0 rfl ?_
        refine xa_iload_n (pc := 29) dX5_copySheet_29 rfl ?_
        refine xa_ialdw (pc := 30) m dX5_copySheet_30 (by omega) hO1 (by omega) (by omega) (Int.toNat_natCast _) ?_
        refine xa_iastw (pc := 31) m dX5_copySheet_31 (by omega) (by omega) hH1 (by omega) (by omega) (Int.toNat_natCast _) (fun h1 nh1 ch1 oh1 => ?_)
        have hH1 : h1.1 (k + 1) = xa_a 240 (xa_upf (sp_cp mv mv2 m) m (mv2 m)) := ch1
        have hH0 : h1.1 k = xa_o 5 [xa_r (k + 1), xa_r (k + 2), xa_r (k + 3), xa_i ((pc : Nat) : Int)] := (oh1 _ (by omega)).trans hH0
        have hH2 : h1.1 (k + 2) = xa_a 4 le := (oh1 _ (by omega)).trans hH2
        have hH3 : h1.1 (k + 3) = xa_a 120 fi := (oh1 _ (by omega)).trans hH3
        have hO0 : h1.1 k2 = xa_o 5 [xa_r (k2 + 1), xa_r (k2 + 2), xa_r (k2 + 3), xa_i ((pc2 : Nat) : Int)] := (oh1 _ (by omega)).trans hO0
        have hO1 : h1.1 (k2 + 1) = xa_a 240 mv2 := (oh1 _ (by omega)).trans hO1
        have hO2 : h1.1 (k2 + 2) = xa_a 4 le2 := (oh1 _ (by omega)).trans hO2
        have hO3 : h1.1 (k2 + 3) = xa_a 120 fi2 := (oh1 _ (by omega)).trans hO3
        have hn : h1.2 = h.2 := nh1.trans hn
        have fr : ∀ i, (i < k ∨ k + 4 ≤ i) → h1.1 i = h.1 i := fun i hi => (oh1 i (by omega)).trans (fr i hi)
        refine xa_iincw (pc := 32) (y := ((m + 1 : Nat) : Int)) [some (xa_r k), some (xa_r k2), some (xa_i ((m + 1 : Nat) : Int))] dX5_copySheet_32 (by decide) rfl rfl (by omega) rfl ?_
        refine xa_goto (pc := 35) (tgt := 2) dX5_copySheet_35 (by decide) ?_
        exact ih (m + 1) _ (by omega) (by omega) (by omega) (by omega) (by omega) hH0 (by rw [hH1, sp_cp_s]) hH2 hH3 hO0 hO1 hO2 hO3 (fun i hi => (fr i hi).trans (fr0 i hi))
theorem c_copySheet {G : xa_G} {h : xa_H} (k k2 : Nat) (mv le fi mv2 le2 fi2 : Nat → Int) (pc pc2 : Nat) (hkk : k2 + 4 ≤ k ∨ k + 4 ≤ k2) (hH : xH h k mv le fi pc) (hO : xH h k2 mv2 le2 fi2 pc2)  : xa_M G mX5_copySheet [xa_r k, xa_r k2] h 0 0 (fun r h' => r = none ∧ xH h' k (sp_cp mv mv2 240) (sp_cp le le2 4) (sp_cp fi fi2 120) pc2 ∧ h'.2 = h.2 ∧ ∀ i, (i < k ∨ k + 4 ≤ i) → h'.1 i = h.1 i) := by
  refine xa_enter (by decide +kernel) (Nat.le_of_ble_eq_true rfl) ?_
  refine xa_locals (ls' := [some (xa_r k), some (xa_r k2), none]) rfl ?_
  obtain ⟨hH0, hH1, hH2, hH3, hHk, hHn⟩ := hH
  obtain ⟨hO0, hO1, hO2, hO3, hOk, hOn⟩ := hO
  refine xa_iconst (pc := 0) dX5_copySheet_0 ?_
  refine xa_istoren (pc := 1) [some (xa_r k), some (xa_r k2), some (xa_i 0)] dX5_copySheet_1 (by decide) (by simp) rfl rfl ?_
  exact c_copyS1 hHk hOk hkk 241 0 h (by omega) (by omega) rfl hHn hOn hH0 (by rw [sp_cp_0]; exact hH1) hH2 hH3 hO0 hO1 hO2 hO3 (fun _ _ => rfl)
