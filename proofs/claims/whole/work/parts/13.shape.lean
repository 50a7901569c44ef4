/-! Shape -/
def xS (h : xa_H) (k kb : Nat) (po sp : Nat → Int) (tj tb : Int) : Prop := h.1 k = xa_o 4 [xa_r kb, xa_r (k + 1), xa_r (k + 2), xa_i tj, xa_i tb] ∧ h.1 (k + 1) = xa_a 3 po ∧ h.1 (k + 2) = xa_a 2 sp ∧ 2 ≤ k ∧ k + 2 < h.2
def sp_str (sp : Nat → Int) (jo : Nat) : Prop := (0 < jo → sp 0 = 0) ∧ (1 < jo → sp 1 = 0)
def sp_rest (po sp : Nat → Int) (pa jo : Nat) : Prop := ((0 < pa → po 0 = 1) ∧ (1 < pa → po 1 = 1) ∧ (2 < pa → po 2 = 1)) ∧ (0 < jo → sp 0 = 0) ∧ (1 < jo → sp 1 = 0)
def sp_from (ld po : Nat → Int) (pa : Nat) (p : Int) : Int := (if p ≤ 0 ∧ 0 < pa then sp_ld ld 0 (po 0) else 0) + (if p ≤ 1 ∧ 1 < pa then sp_ld ld 1 (po 1) else 0) + (if p ≤ 2 ∧ 2 < pa then sp_ld ld 2 (po 2) else 0)
def sp_bent (dg sp : Nat → Int) (jo : Nat) (p : Int) : Int := (if 0 < jo ∧ 0 < p then sp_dg dg 0 * sp 0 else 0) + (if 1 < jo ∧ 1 < p then sp_dg dg 1 * sp 1 else 0)
theorem sp_ld_b {ld : Nat → Int} (hl : ∀ i, 0 ≤ ld i ∧ ld i ≤ 99) (p q : Int) : 0 ≤ sp_ld ld p q ∧ sp_ld ld p q ≤ 99 := by
  unfold sp_ld
  split
  · exact hl _
  · omega
theorem sp_from_b {ld : Nat → Int} (hl : ∀ i, 0 ≤ ld i ∧ ld i ≤ 99) (po : Nat → Int) (pa : Nat) (p : Int) : 0 ≤ sp_from ld po pa p ∧ sp_from ld po pa p ≤ 297 := by
  have h0 := sp_ld_b hl 0 (po 0)
  have h1 := sp_ld_b hl 1 (po 1)
  have h2 := sp_ld_b hl 2 (po 2)
  unfold sp_from
  repeat' split
  all_goals omega
abbrev xSt : Type := (Nat → Int) × (Nat → Int) × Int × Int
def sp_pose (pa : Nat) (t : xSt) (p q : Int) : Option xSt := if (0 ≤ p ∧ p < 3) ∧ p < pa ∧ t.1 p.toNat ≠ q then some (xa_upf t.1 p.toNat q, t.2.1, t.2.2.1, 0) else none
def sp_nstep (wa sr : Int) (j s : Int) : Int := if j = wa then s % max sr 1 else s
def sp_step (dg : Nat → Int) (jo : Nat) (wa sr : Int) (t : xSt) (j b : Int) : Option xSt := if ((0 ≤ j ∧ j < 2) ∧ j < jo) ∧ (j = wa ∨ -2 ≤ t.2.1 j.toNat + b ∧ t.2.1 j.toNat + b ≤ 2) then some (t.1, xa_upf t.2.1 j.toNat (sp_nstep wa sr j (t.2.1 j.toNat + b)), j, b * sp_dg dg j) else none
def sp_make (dg : Nat → Int) (pa jo : Nat) (wa sr : Int) (t : xSt) (mv : Int) : Option xSt := if mv < 0 ∨ 18 < mv then none else if 10 ≤ mv then sp_pose pa t ((mv - 10) / 3) ((mv - 10) % 3) else if 0 < mv then sp_step dg jo wa sr t ((mv - 1) / 2) (if mv % 2 = 1 then 1 else -1) else some (t.1, t.2.1, t.2.2.1, 0)
theorem xa_okm {a b : Int} (ha : -200 ≤ a ∧ a ≤ 200) (hb : 0 ≤ b ∧ b ≤ 300) : xa_ok (a * b) := by
  have h1 : a * b ≤ 200 * b := Int.mul_le_mul_of_nonneg_right ha.2 hb.1
  have h2 : -200 * b ≤ a * b := Int.mul_le_mul_of_nonneg_right ha.1 hb.1
  exact ⟨by omega, by omega⟩
theorem sp_dg_b {dg : Nat → Int} (hd : ∀ i, 0 ≤ dg i ∧ dg i ≤ 120) (j : Int) : 0 ≤ sp_dg dg j ∧ sp_dg dg j ≤ 120 := by
  unfold sp_dg
  split
  · exact hd _
  · omega

def sp_strB (sp : Nat → Int) (jo : Nat) : Bool := (decide (jo ≤ 0) || sp 0 == 0) && (decide (jo ≤ 1) || sp 1 == 0)
theorem sp_strB_iff (sp : Nat → Int) (jo : Nat) : sp_strB sp jo = true ↔ sp_str sp jo := by
  unfold sp_strB sp_str
  simp only [Bool.and_eq_true, Bool.or_eq_true, decide_eq_true_eq, beq_iff_eq]
  omega
def sp_restB (po sp : Nat → Int) (pa jo : Nat) : Bool := (decide (pa ≤ 0) || po 0 == 1) && (decide (pa ≤ 1) || po 1 == 1) && (decide (pa ≤ 2) || po 2 == 1) && sp_strB sp jo
theorem sp_restB_iff (po sp : Nat → Int) (pa jo : Nat) : sp_restB po sp pa jo = true ↔ sp_rest po sp pa jo := by
  unfold sp_restB sp_rest
  simp only [Bool.and_eq_true, Bool.or_eq_true, decide_eq_true_eq, beq_iff_eq, sp_strB_iff, sp_str]
  omega
theorem c_isStraight {G : xa_G} {h : xa_H} (k kb : Nat) (po sp : Nat → Int) (tj tb : Int) (ld dg : Nat → Int) (pa jo : Nat) (wa sr pu ri : Int) (hS : xS h k kb po sp tj tb) (hB : xB h kb ld dg pa jo wa sr pu ri) (hkk : kb + 3 ≤ k) (hpa : pa ≤ 3) (hjo : jo ≤ 2) (hsp : ∀ i, -2 ≤ sp i ∧ sp i ≤ 12)  : xa_M G mX4_isStraight [xa_r k] h 0 0 (fun r h' => r = some (xa_i (xa_b (sp_strB sp jo = true))) ∧ h' = h) := by
  refine xa_enter (by decide +kernel) (Nat.le_of_ble_eq_true rfl) ?_
  refine xa_locals (ls' := [some (xa_r k), none]) rfl ?_
  obtain ⟨hS0, hS1, hS2, hSk, hSn⟩ := hS
  obtain ⟨hB0, hB1, hB2, hBk, hBn⟩ := hB
  refine xa_iconst (pc := 0) dX4_isStraight_0 ?_
  refine xa_istoren (pc := 1) [some (xa_r k), some (xa_i 0)] dX4_isStraight_1 (by decide) (by simp) rfl rfl ?_
  refine xa_iload_n (pc := 2) dX4_isStraight_2 rfl ?_
  refine xa_aload_n (pc := 3) dX4_isStraight_3 rfl ?_
  refine xa_getfield (pc := 4) dX4_isStraight_4 flRX4_15 (by omega) (by omega) hS0 rfl ?_
  refine xa_alen (pc := 7) dX4_isStraight_7 (by omega) hS2 ?_
  refine xa_top (y := 2) rfl ?_
  refine xa_icmp_ge (pc := 8) (tgt := 39) dX4_isStraight_8 (by decide) (by decide) (by decide) (fun c_8 => ?_) (fun c_8 => ?_)
  · skip
    exfalso; omega
  · skip
    refine xa_iload_n (pc := 11) dX4_isStraight_11 rfl ?_
    refine xa_aload_n (pc := 12) dX4_isStraight_12 rfl ?_
    refine xa_getfield (pc := 13) dX4_isStraight_13 flRX4_18 (by omega) (by omega) hS0 rfl ?_
    refine xa_getfield (pc := 16) dX4_isStraight_16 flRX4_32 (by omega) (by omega) hB0 rfl ?_
    refine xa_icmp_ge (pc := 19) (tgt := 39) dX4_isStraight_19 (by decide) (by decide) ⟨by omega, by omega⟩ (fun c_19 => ?_) (fun c_19 => ?_)
    · skip
      refine xa_iconst (pc := 39) dX4_isStraight_39 ?_
      refine xa_ireturn (pc := 40) dX4_isStraight_40 rfl (Or.inr rfl) ?_
      exact ⟨congrArg (fun z => some (xa_i z)) (xa_bt (by (rw [sp_strB_iff]; unfold sp_str; omega))), rfl⟩
    · skip
      refine xa_aload_n (pc := 22) dX4_isStraight_22 rfl ?_
      refine xa_getfield (pc := 23) dX4_isStraight_23 flRX4_15 (by omega) (by omega) hS0 rfl ?_
      refine xa_iload_n (pc := 26) dX4_isStraight_26 rfl ?_
      refine xa_ialdw (pc := 27) 0 dX4_isStraight_27 (by omega) hS2 (by omega) (by omega) rfl ?_
      have b_27 := hsp 0
      refine xa_if_eq (pc := 28) (tgt := 33) dX4_isStraight_28 (by decide) ⟨by omega, by omega⟩ (fun c_28 => ?_) (fun c_28 => ?_)
      · skip
        refine xa_iincw (pc := 33) (y := 1) [some (xa_r k), some (xa_i 1)] dX4_isStraight_33 (by decide) rfl rfl rfl rfl ?_
        refine xa_goto (pc := 36) (tgt := 2) dX4_isStraight_36 (by decide) ?_
        refine xa_iload_n (pc := 2) dX4_isStraight_2 rfl ?_
        refine xa_aload_n (pc := 3) dX4_isStraight_3 rfl ?_
        refine xa_getfield (pc := 4) dX4_isStraight_4 flRX4_15 (by omega) (by omega) hS0 rfl ?_
        refine xa_alen (pc := 7) dX4_isStraight_7 (by omega) hS2 ?_
        refine xa_top (y := 2) rfl ?_
        refine xa_icmp_ge (pc := 8) (tgt := 39) dX4_isStraight_8 (by decide) (by decide) (by decide) (fun c_8 => ?_) (fun c_8 => ?_)
        · skip
          exfalso; omega
        · skip
          refine xa_iload_n (pc := 11) dX4_isStraight_11 rfl ?_
          refine xa_aload_n (pc := 12) dX4_isStraight_12 rfl ?_
          refine xa_getfield (pc := 13) dX4_isStraight_13 flRX4_18 (by omega) (by omega) hS0 rfl ?_
          refine xa_getfield (pc := 16) dX4_isStraight_16 flRX4_32 (by omega) (by omega) hB0 rfl ?_
          refine xa_icmp_ge (pc := 19) (tgt := 39) dX4_isStraight_19 (by decide) (by decide) ⟨by omega, by omega⟩ (fun c_19 => ?_) (fun c_19 => ?_)
          · skip
            refine xa_iconst (pc := 39) dX4_isStraight_39 ?_
            refine xa_ireturn (pc := 40) dX4_isStraight_40 rfl (Or.inr rfl) ?_
            exact ⟨congrArg (fun z => some (xa_i z)) (xa_bt (by (rw [sp_strB_iff]; unfold sp_str; omega))), rfl⟩
          · skip
            refine xa_aload_n (pc := 22) dX4_isStraight_22 rfl ?_
            refine xa_getfield (pc := 23) dX4_isStraight_23 flRX4_15 (by omega) (by omega) hS0 rfl ?_
            refine xa_iload_n (pc := 26) dX4_isStraight_26 rfl ?_
            refine xa_ialdw (pc := 27) 1 dX4_isStraight_27 (by omega) hS2 (by omega) (by omega) rfl ?_
            have b_27 := hsp 1
            refine xa_if_eq (pc := 28) (tgt := 33) dX4_isStraight_28 (by decide) ⟨by omega, by omega⟩ (fun c_28 => ?_) (fun c_28 => ?_)
            · skip
              refine xa_iincw (pc := 33) (y := 2) [some (xa_r k), some (xa_i 2)] dX4_isStraight_33 (by decide) rfl rfl rfl rfl ?_
              refine xa_goto (pc := 36) (tgt := 2) dX4_isStraight_36 (by decide) ?_
              refine xa_iload_n (pc := 2) dX4_isStraight_2 rfl ?_
              refine xa_aload_n (pc := 3) dX4_isStraight_3 rfl ?_
              refine xa_getfield (pc := 4) dX4_isStraight_4 flRX4_15 (by omega) (by omega) hS0 rfl ?_
              refine xa_alen (pc := 7) dX4_isStraight_7 (by omega) hS2 ?_
              refine xa_top (y := 2) rfl ?_
              refine xa_icmp_ge (pc := 8) (tgt := 39) dX4_isStraight_8 (by decide) (by decide) (by decide) (fun c_8 => ?_) (fun c_8 => ?_)
              · skip
                refine xa_iconst (pc := 39) dX4_isStraight_39 ?_
                refine xa_ireturn (pc := 40) dX4_isStraight_40 rfl (Or.inr rfl) ?_
                exact ⟨congrArg (fun z => some (xa_i z)) (xa_bt (by (rw [sp_strB_iff]; unfold sp_str; omega))), rfl⟩
              · skip
                exfalso; omega
            · skip
              refine xa_iconst (pc := 31) dX4_isStraight_31 ?_
              refine xa_ireturn (pc := 32) dX4_isStraight_32 rfl (Or.inl rfl) ?_
              exact ⟨congrArg (fun z => some (xa_i z)) (xa_bf (by (rw [sp_strB_iff]; unfold sp_str; omega))), rfl⟩
      · skip
        refine xa_iconst (pc := 31) dX4_isStraight_31 ?_
        refine xa_ireturn (pc := 32) dX4_isStraight_32 rfl (Or.inl rfl) ?_
        exact ⟨congrArg (fun z => some (xa_i z)) (xa_bf (by (rw [sp_strB_iff]; unfold sp_str; omega))), rfl⟩
theorem c_isAtRest {G : xa_G} {h : xa_H} (k kb : Nat) (po sp : Nat → Int) (tj tb : Int) (ld dg : Nat → Int) (pa jo : Nat) (wa sr pu ri : Int) (hS : xS h k kb po sp tj tb) (hB : xB h kb ld dg pa jo wa sr pu ri) (hkk : kb + 3 ≤ k) (hpa : pa ≤ 3) (hjo : jo ≤ 2) (hsp : ∀ i, -2 ≤ sp i ∧ sp i ≤ 12) (hpo : ∀ i, 0 ≤ po i ∧ po i ≤ 2)  : xa_M G mX4_isAtRest [xa_r k] h 0 0 (fun r h' => r = some (xa_i (xa_b (sp_restB po sp pa jo = true))) ∧ h' = h) := by
  refine xa_enter (by decide +kernel) (Nat.le_of_ble_eq_true rfl) ?_
  refine xa_locals (ls' := [some (xa_r k), none]) rfl ?_
  obtain ⟨hS0, hS1, hS2, hSk, hSn⟩ := hS
  obtain ⟨hB0, hB1, hB2, hBk, hBn⟩ := hB
  refine xa_iconst (pc := 0) dX4_isAtRest_0 ?_
  refine xa_istoren (pc := 1) [some (xa_r k), some (xa_i 0)] dX4_isAtRest_1 (by decide) (by simp) rfl rfl ?_
  refine xa_iload_n (pc := 2) dX4_isAtRest_2 rfl ?_
  refine xa_aload_n (pc := 3) dX4_isAtRest_3 rfl ?_
  refine xa_getfield (pc := 4) dX4_isAtRest_4 flRX4_9 (by omega) (by omega) hS0 rfl ?_
  refine xa_alen (pc := 7) dX4_isAtRest_7 (by omega) hS1 ?_
  refine xa_top (y := 3) rfl ?_
  refine xa_icmp_ge (pc := 8) (tgt := 40) dX4_isAtRest_8 (by decide) (by decide) (by decide) (fun c_8 => ?_) (fun c_8 => ?_)
  · skip
    exfalso; omega
  · skip
    refine xa_iload_n (pc := 11) dX4_isAtRest_11 rfl ?_
    refine xa_aload_n (pc := 12) dX4_isAtRest_12 rfl ?_
    refine xa_getfield (pc := 13) dX4_isAtRest_13 flRX4_18 (by omega) (by omega) hS0 rfl ?_
    refine xa_getfield (pc := 16) dX4_isAtRest_16 flRX4_37 (by omega) (by omega) hB0 rfl ?_
    refine xa_icmp_ge (pc := 19) (tgt := 40) dX4_isAtRest_19 (by decide) (by decide) ⟨by omega, by omega⟩ (fun c_19 => ?_) (fun c_19 => ?_)
    · skip
      refine xa_aload_n (pc := 40) dX4_isAtRest_40 rfl ?_
      refine xa_callV (pc := 41) (as := []) (rest := []) dX4_isAtRest_41 ⟨qX4_isStraight.1, qX4_isStraight.2.1, qX4_isStraight.2.2, by decide, by decide⟩ lkRX4_40 imX4_isStraight seX4_isStraight rfl rfl (by omega) (by omega) hS0 rfl (Nat.le_of_ble_eq_true rfl) (Nat.zero_le _) (Nat.zero_le _) (c_isStraight _ _ _ _ _ _ _ _ _ _ _ _ _ _ ⟨hS0, hS1, hS2, by omega, by omega⟩ ⟨hB0, hB1, hB2, by omega, by omega⟩ hkk hpa hjo hsp) (fun r h' hq => ?_)
      obtain ⟨rfl, hq⟩ := hq
      have hq := hq.symm
      subst hq
      refine xa_ireturn (pc := 44) dX4_isAtRest_44 rfl xa_bq ?_
      exact ⟨congrArg (fun z => some (xa_i z)) (xa_bc (show (sp_strB sp jo = true) ↔ (sp_restB po sp pa jo = true) by (first | (rw [sp_restB_iff]; unfold sp_rest; omega) | (rw [sp_restB_iff, sp_strB_iff]; unfold sp_rest sp_str; omega)))), rfl⟩
    · skip
      refine xa_aload_n (pc := 22) dX4_isAtRest_22 rfl ?_
      refine xa_getfield (pc := 23) dX4_isAtRest_23 flRX4_9 (by omega) (by omega) hS0 rfl ?_
      refine xa_iload_n (pc := 26) dX4_isAtRest_26 rfl ?_
      refine xa_ialdw (pc := 27) 0 dX4_isAtRest_27 (by omega) hS1 (by omega) (by omega) rfl ?_
      have b_27 := hpo 0
      refine xa_iconst (pc := 28) dX4_isAtRest_28 ?_
      refine xa_icmp_eq (pc := 29) (tgt := 34) dX4_isAtRest_29 (by decide) ⟨by omega, by omega⟩ (by decide) (fun c_29 => ?_) (fun c_29 => ?_)
      · skip
        refine xa_iincw (pc := 34) (y := 1) [some (xa_r k), some (xa_i 1)] dX4_isAtRest_34 (by decide) rfl rfl rfl rfl ?_
        refine xa_goto (pc := 37) (tgt := 2) dX4_isAtRest_37 (by decide) ?_
        refine xa_iload_n (pc := 2) dX4_isAtRest_2 rfl ?_
        refine xa_aload_n (pc := 3) dX4_isAtRest_3 rfl ?_
        refine xa_getfield (pc := 4) dX4_isAtRest_4 flRX4_9 (by omega) (by omega) hS0 rfl ?_
        refine xa_alen (pc := 7) dX4_isAtRest_7 (by omega) hS1 ?_
        refine xa_top (y := 3) rfl ?_
        refine xa_icmp_ge (pc := 8) (tgt := 40) dX4_isAtRest_8 (by decide) (by decide) (by decide) (fun c_8 => ?_) (fun c_8 => ?_)
        · skip
          exfalso; omega
        · skip
          refine xa_iload_n (pc := 11) dX4_isAtRest_11 rfl ?_
          refine xa_aload_n (pc := 12) dX4_isAtRest_12 rfl ?_
          refine xa_getfield (pc := 13) dX4_isAtRest_13 flRX4_18 (by omega) (by omega) hS0 rfl ?_
          refine xa_getfield (pc := 16) dX4_isAtRest_16 flRX4_37 (by omega) (by omega) hB0 rfl ?_
          refine xa_icmp_ge (pc := 19) (tgt := 40) dX4_isAtRest_19 (by decide) (by decide) ⟨by omega, by omega⟩ (fun c_19 => ?_) (fun c_19 => ?_)
          · skip
            refine xa_aload_n (pc := 40) dX4_isAtRest_40 rfl ?_
            refine xa_callV (pc := 41) (as := []) (rest := []) dX4_isAtRest_41 ⟨qX4_isStraight.1, qX4_isStraight.2.1, qX4_isStraight.2.2, by decide, by decide⟩ lkRX4_40 imX4_isStraight seX4_isStraight rfl rfl (by omega) (by omega) hS0 rfl (Nat.le_of_ble_eq_true rfl) (Nat.zero_le _) (Nat.zero_le _) (c_isStraight _ _ _ _ _ _ _ _ _ _ _ _ _ _ ⟨hS0, hS1, hS2, by omega, by omega⟩ ⟨hB0, hB1, hB2, by omega, by omega⟩ hkk hpa hjo hsp) (fun r h' hq => ?_)
            obtain ⟨rfl, hq⟩ := hq
            have hq := hq.symm
            subst hq
            refine xa_ireturn (pc := 44) dX4_isAtRest_44 rfl xa_bq ?_
            exact ⟨congrArg (fun z => some (xa_i z)) (xa_bc (show (sp_strB sp jo = true) ↔ (sp_restB po sp pa jo = true) by (first | (rw [sp_restB_iff]; unfold sp_rest; omega) | (rw [sp_restB_iff, sp_strB_iff]; unfold sp_rest sp_str; omega)))), rfl⟩
          · skip
            refine xa_aload_n (pc := 22) dX4_isAtRest_22 rfl ?_
            refine xa_getfield (pc := 23) dX4_isAtRest_23 flRX4_9 (by omega) (by omega) hS0 rfl ?_
            refine xa_iload_n (pc := 26) dX4_isAtRest_26 rfl ?_
            refine xa_ialdw (pc := 27) 1 dX4_isAtRest_27 (by omega) hS1 (by omega) (by omega) rfl ?_
            have b_27 := hpo 1
            refine xa_iconst (pc := 28) dX4_isAtRest_28 ?_
            refine xa_icmp_eq (pc := 29) (tgt := 34) dX4_isAtRest_29 (by decide) ⟨by omega, by omega⟩ (by decide) (fun c_29 => ?_) (fun c_29 => ?_)
            · skip
              refine xa_iincw (pc := 34) (y := 2) [some (xa_r k), some (xa_i 2)] dX4_isAtRest_34 (by decide) rfl rfl rfl rfl ?_
              refine xa_goto (pc := 37) (tgt := 2) dX4_isAtRest_37 (by decide) ?_
              refine xa_iload_n (pc := 2) dX4_isAtRest_2 rfl ?_
              refine xa_aload_n (pc := 3) dX4_isAtRest_3 rfl ?_
              refine xa_getfield (pc := 4) dX4_isAtRest_4 flRX4_9 (by omega) (by omega) hS0 rfl ?_
              refine xa_alen (pc := 7) dX4_isAtRest_7 (by omega) hS1 ?_
              refine xa_top (y := 3) rfl ?_
              refine xa_icmp_ge (pc := 8) (tgt := 40) dX4_isAtRest_8 (by decide) (by decide) (by decide) (fun c_8 => ?_) (fun c_8 => ?_)
              · skip
                exfalso; omega
              · skip
                refine xa_iload_n (pc := 11) dX4_isAtRest_11 rfl ?_
                refine xa_aload_n (pc := 12) dX4_isAtRest_12 rfl ?_
                refine xa_getfield (pc := 13) dX4_isAtRest_13 flRX4_18 (by omega) (by omega) hS0 rfl ?_
                refine xa_getfield (pc := 16) dX4_isAtRest_16 flRX4_37 (by omega) (by omega) hB0 rfl ?_
                refine xa_icmp_ge (pc := 19) (tgt := 40) dX4_isAtRest_19 (by decide) (by decide) ⟨by omega, by omega⟩ (fun c_19 => ?_) (fun c_19 => ?_)
                · skip
                  refine xa_aload_n (pc := 40) dX4_isAtRest_40 rfl ?_
                  refine xa_callV (pc := 41) (as := []) (rest := []) dX4_isAtRest_41 ⟨qX4_isStraight.1, qX4_isStraight.2.1, qX4_isStraight.2.2, by decide, by decide⟩ lkRX4_40 imX4_isStraight seX4_isStraight rfl rfl (by omega) (by omega) hS0 rfl (Nat.le_of_ble_eq_true rfl) (Nat.zero_le _) (Nat.zero_le _) (c_isStraight _ _ _ _ _ _ _ _ _ _ _ _ _ _ ⟨hS0, hS1, hS2, by omega, by omega⟩ ⟨hB0, hB1, hB2, by omega, by omega⟩ hkk hpa hjo hsp) (fun r h' hq => ?_)
                  obtain ⟨rfl, hq⟩ := hq
                  have hq := hq.symm
                  subst hq
                  refine xa_ireturn (pc := 44) dX4_isAtRest_44 rfl xa_bq ?_
                  exact ⟨congrArg (fun z => some (xa_i z)) (xa_bc (show (sp_strB sp jo = true) ↔ (sp_restB po sp pa jo = true) by (first | (rw [sp_restB_iff]; unfold sp_rest; omega) | (rw [sp_restB_iff, sp_strB_iff]; unfold sp_rest sp_str; omega)))), rfl⟩
                · skip
                  refine xa_aload_n (pc := 22) dX4_isAtRest_22 rfl ?_
                  refine xa_getfield (pc := 23) dX4_isAtRest_23 flRX4_9 (by omega) (by omega) hS0 rfl ?_
                  refine xa_iload_n (pc := 26) dX4_isAtRest_26 rfl ?_
                  refine xa_ialdw (pc := 27) 2 dX4_isAtRest_27 (by omega) hS1 (by omega) (by omega) rfl ?_
                  have b_27 := hpo 2
                  refine xa_iconst (pc := 28) dX4_isAtRest_28 ?_
                  refine xa_icmp_eq (pc := 29) (tgt := 34) dX4_isAtRest_29 (by decide) ⟨by omega, by omega⟩ (by decide) (fun c_29 => ?_) (fun c_29 => ?_)
                  · skip
                    refine xa_iincw (pc := 34) (y := 3) [some (xa_r k), some (xa_i 3)] dX4_isAtRest_34 (by decide) rfl rfl rfl rfl ?_
                    refine xa_goto (pc := 37) (tgt := 2) dX4_isAtRest_37 (by decide) ?_
                    refine xa_iload_n (pc := 2) dX4_isAtRest_2 rfl ?_
                    refine xa_aload_n (pc := 3) dX4_isAtRest_3 rfl ?_
                    refine xa_getfield (pc := 4) dX4_isAtRest_4 flRX4_9 (by omega) (by omega) hS0 rfl ?_
                    refine xa_alen (pc := 7) dX4_isAtRest_7 (by omega) hS1 ?_
                    refine xa_top (y := 3) rfl ?_
                    refine xa_icmp_ge (pc := 8) (tgt := 40) dX4_isAtRest_8 (by decide) (by decide) (by decide) (fun c_8 => ?_) (fun c_8 => ?_)
                    · skip
                      refine xa_aload_n (pc := 40) dX4_isAtRest_40 rfl ?_
                      refine xa_callV (pc := 41) (as := []) (rest := []) dX4_isAtRest_41 ⟨qX4_isStraight.1, qX4_isStraight.2.1, qX4_isStraight.2.2, by decide, by decide⟩ lkRX4_40 imX4_isStraight seX4_isStraight rfl rfl (by omega) (by omega) hS0 rfl (Nat.le_of_ble_eq_true rfl) (Nat.zero_le _) (Nat.zero_le _) (c_isStraight _ _ _ _ _ _ _ _ _ _ _ _ _ _ ⟨hS0, hS1, hS2, by omega, by omega⟩ ⟨hB0, hB1, hB2, by omega, by omega⟩ hkk hpa hjo hsp) (fun r h' hq => ?_)
                      obtain ⟨rfl, hq⟩ := hq
                      have hq := hq.symm
                      subst hq
                      refine xa_ireturn (pc := 44) dX4_isAtRest_44 rfl xa_bq ?_
                      exact ⟨congrArg (fun z => some (xa_i z)) (xa_bc (show (sp_strB sp jo = true) ↔ (sp_restB po sp pa jo = true) by (first | (rw [sp_restB_iff]; unfold sp_rest; omega) | (rw [sp_restB_iff, sp_strB_iff]; unfold sp_rest sp_str; omega)))), rfl⟩
                    · skip
                      exfalso; omega
                  · skip
                    refine xa_iconst (pc := 32) dX4_isAtRest_32 ?_
                    refine xa_ireturn (pc := 33) dX4_isAtRest_33 rfl (Or.inl rfl) ?_
                    exact ⟨congrArg (fun z => some (xa_i z)) (xa_bf (by (first | (rw [sp_restB_iff]; unfold sp_rest; omega) | (rw [sp_restB_iff, sp_strB_iff]; unfold sp_rest sp_str; omega)))), rfl⟩
            · skip
              refine xa_iconst (pc := 32) dX4_isAtRest_32 ?_
              refine xa_ireturn (pc := 33) dX4_isAtRest_33 rfl (Or.inl rfl) ?_
              exact ⟨congrArg (fun z => some (xa_i z)) (xa_bf (by (first | (rw [sp_restB_iff]; unfold sp_rest; omega) | (rw [sp_restB_iff, sp_strB_iff]; unfold sp_rest sp_str; omega)))), rfl⟩
      · skip
        refine xa_iconst (pc := 32) dX4_isAtRest_32 ?_
        refine xa_ireturn (pc := 33) dX4_isAtRest_33 rfl (Or.inl rfl) ?_
        exact ⟨congrArg (fun z => some (xa_i z)) (xa_bf (by (first | (rw [sp_restB_iff]; unfold sp_rest; omega) | (rw [sp_restB_iff, sp_strB_iff]; unfold sp_rest sp_str; omega)))), rfl⟩



