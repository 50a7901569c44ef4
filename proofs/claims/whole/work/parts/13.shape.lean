/-! Shape -/
def xS (h : xa_H) (k kb : Nat) (po sp : Nat → Int) (tj tb : Int) : Prop := h.1 k = xa_o 4 [xa_r kb, xa_r (k + 1), xa_r (k + 2), xa_i tj, xa_i tb] ∧ h.1 (k + 1) = xa_a 3 po ∧ h.1 (k + 2) = xa_a 2 sp ∧ 2 ≤ k ∧ k + 2 < h.2
def sp_str (sp : Nat → Int) (jo : Nat) : Prop := (0 < jo → sp 0 = 0) ∧ (1 < jo → sp 1 = 0)
def sp_rest (po sp : Nat → Int) (pa jo : Nat) : Prop := ((0 < pa → po 0 = 1) ∧ (1 < pa → po 1 = 1) ∧ (2 < pa → po 2 = 1)) ∧ (0 < jo → sp 0 = 0) ∧ (1 < jo → sp 1 = 0)
def sp_from (ld po : Nat → Int) (pa : Nat) (p : Int) : Int := (if p ≤ 0 ∧ 0 < pa then sp_ld ld 0 (po 0) else 0) + (if p ≤ 1 ∧ 1 < pa then sp_ld ld 1 (po 1) else 0) + (if p ≤ 2 ∧ 2 < pa then sp_ld ld 2 (po 2) else 0)
def sp_bent (dg sp : Nat → Int) (jo : Nat) (p : Int) : Int := (if 0 < jo ∧ 0 < p then sp_dg dg 0 * sp 0 else 0) + (if 1 < jo ∧ 1 < p then sp_dg dg 1 * sp 1 else 0)
theorem sp_ld_b {ld : Nat → Int} (hl : ∀ i, 0 ≤ ld i ∧ ld i ≤ 99) (p q : Int) : 0 ≤ sp_ld ld p q ∧ sp_ld ld p q ≤ 99 := by
  unfold sp_ld
  split
  · exact hl _
  · omega
theorem sp_from_b {ld : Nat → Int} (hl : ∀ i, 0 ≤ ld i ∧ ld i ≤ 99) (po : Nat → Int) (pa : Nat) (p : Int) : 0 ≤ sp_from ld po pa p ∧ sp_from ld po pa p ≤ 297 := by
  have h0 := sp_ld_b hl 0 (po 0)
  have h1 := sp_ld_b hl 1 (po 1)
  have h2 := sp_ld_b hl 2 (po 2)
  unfold sp_from
  repeat' split
  all_goals omega
abbrev xSt : Type := (Nat → Int) × (Nat → Int) × Int × Int
def sp_pose (pa : Nat) (t : xSt) (p q : Int) : Option xSt := if (0 ≤ p ∧ p < 3) ∧ p < pa ∧ t.1 p.toNat ≠ q then some (xa_upf t.1 p.toNat q, t.2.1, t.2.2.1, 0) else none
def sp_nstep (wa sr : Int) (j s : Int) : Int := if j = wa then s % max sr 1 else s
def sp_step (dg : Nat → Int) (jo : Nat) (wa sr : Int) (t : xSt) (j b : Int) : Option xSt := if ((0 ≤ j ∧ j < 2) ∧ j < jo) ∧ (j = wa ∨ -2 ≤ t.2.1 j.toNat + b ∧ t.2.1 j.toNat + b ≤ 2) then some (t.1, xa_upf t.2.1 j.toNat (sp_nstep wa sr j (t.2.1 j.toNat + b)), j, b * sp_dg dg j) else none
def sp_make (dg : Nat → Int) (pa jo : Nat) (wa sr : Int) (t : xSt) (mv : Int) : Option xSt := if mv < 0 ∨ 18 < mv then none else if 10 ≤ mv then sp_pose pa t ((mv - 10) / 3) ((mv - 10) % 3) else if 0 < mv then sp_step dg jo wa sr t ((mv - 1) / 2) (if mv % 2 = 1 then 1 else -1) else some (t.1, t.2.1, t.2.2.1, 0)
theorem xa_okm {a b : Int} (ha : -200 ≤ a ∧ a ≤ 200) (hb : 0 ≤ b ∧ b ≤ 300) : xa_ok (a * b) := by
  have h1 : a * b ≤ 200 * b := Int.mul_le_mul_of_nonneg_right ha.2 hb.1
  have h2 : -200 * b ≤ a * b := Int.mul_le_mul_of_nonneg_right ha.1 hb.1
  exact ⟨by omega, by omega⟩
theorem sp_dg_b {dg : Nat → Int} (hd : ∀ i, 0 ≤ dg i ∧ dg i ≤ 120) (j : Int) : 0 ≤ sp_dg dg j ∧ sp_dg dg j ≤ 120 := by
  unfold sp_dg
  split
  · exact hd _
  · omega

def sp_strB (sp : Nat → Int) (jo : Nat) : Bool := (decide (jo ≤ 0) || sp 0 == 0) && (decide (jo ≤ 1) || sp 1 == 0)
theorem sp_strB_iff (sp : Nat → Int) (jo : Nat) : sp_strB sp jo = true ↔ sp_str sp jo := by
  unfold sp_strB sp_str
  simp only [Bool.and_eq_true, Bool.or_eq_true, decide_eq_true_eq, beq_iff_eq]
  omega
def sp_restB (po sp : Nat → Int) (pa jo : Nat) : Bool := (decide (pa ≤ 0) || po 0 == 1) && (decide (pa ≤ 1) || po 1 == 1) && (decide (pa ≤ 2) || po 2 == 1) && sp_strB sp jo
theorem sp_restB_iff (po sp : Nat → Int) (pa jo : Nat) : sp_restB po sp pa jo = true ↔ sp_rest po sp pa jo := by
  unfold sp_restB sp_rest
  simp only [Bool.and_eq_true, Bool.or_eq_true, decide_eq_true_eq, beq_iff_eq, sp_strB_iff, sp_str]
  omega
theorem c_isStraight {G : xa_G} {h : xa_H} (k kb : Nat) (po sp : Nat → Int) (tj tb : Int) (ld dg : Nat → Int) (pa jo : Nat) (wa sr pu ri : Int) (hS : xS h k kb po sp tj tb) (hB : xB h kb ld dg pa jo wa sr pu ri) (hkk : kb + 3 ≤ k) (hpa : pa ≤ 3) (hjo : jo ≤ 2) (hsp : ∀ i, -2 ≤ sp i ∧ sp i ≤ 12)  : xa_M G mX4_isStraight [xa_r k] h 0 0 (fun r h' => r = some (xa_i (xa_b (sp_strB sp jo = true))) ∧ h' = h) := by
  refine xa_enter (by decide +kernel) (Nat.le_of_ble_eq_true rfl) ?_
  refine xa_locals (ls' := [some (xa_r k), none]) rfl ?_
  obtain ⟨hS0, hS1, hS2, hSk, hSn⟩ := hS
  obtain ⟨hB0, hB1, hB2, hBk, hBn⟩ := hB
  refine xa_iconst (pc := 0) dX4_isStraight_0 ?_
  refine xa_istoren (pc := 1) [some (xa_r k), some (xa_i 0)] dX4_isStraight_1 (by decide) (by simp) rfl rfl ?_
  refine xa_iload_n (pc := 2) dX4_isStraight_2 rfl ?_
  refine xa_aload_n (pc := 3) dX4_isStraight_3 rfl ?_
  refine xa_getfield (pc := 4) dX4_isStraight_4 flRX4_15 (by omega) (by omega) hS0 rfl ?_
  refine xa_alen (pc := 7) dX4_isStraight_7 (by omega) hS2 ?_
  refine xa_top (y := 2) rfl ?_
  refine xa_icmp_ge (pc := 8) (tgt := 39) dX4_isStraight_8 (by decide) (by decide) (by decide) (fun c_8 => ?_) (fun c_8 => ?_)
  · skip
    exfalso; omega
  · skip
    refine xa_iload_n (pc := 11) dX4_isStraight_11 rfl ?_
    refine xa_aload_n (pc := 12) dX4_isStraight_12 rfl ?_
    refine xa_getfield (pc := 13) dX4_isStraight_13 flRX4_18 (by omega) (by omega) hS0 rfl ?_
    refine xa_getfield (pc := 16) dX4_isStraight_16 flRX4_32 (by omega) (by omega) hB0 rfl ?_
    refine xa_icmp_ge (pc := 19) (tgt := 39) dX4_isStraight_19 (by decide) (by decide) ⟨by omega, by omega⟩ (fun c_19 => ?_) (fun c_19 => ?_)
    · skip
      refine xa_iconst (pc := 39) dX4_isStraight_39 ?_
      refine xa_ireturn (pc := 40) dX4_isStraight_40 rfl (Or.inr rfl) ?_
      exact ⟨congrArg (fun z => some (xa_i z)) (xa_bt (by (rw [sp_strB_iff]; unfold sp_str; omega))), rfl⟩
    · skip
      refine xa_aload_n (pc := 22) dX4_isStraight_22 rfl ?_
      refine xa_getfield (pc := 23) dX4_isStraight_23 flRX4_15 (by omega) (by omega) hS0 rfl ?_
      refine xa_iload_n (pc := 26) dX4_isStraight_26 rfl ?_
      refine xa_ialdw (pc := 27) 0 dX4_isStraight_27 (by omega) hS2 (by omega) (by omega) rfl ?_
      have b_27 := hsp 0
      refine xa_if_eq (pc := 28) (tgt := 33) dX4_isStraight_28 (by decide) ⟨by omega, by omega⟩ (fun c_28 => ?_) (fun c_28 => ?_)
      · skip
        refine xa_iincw (pc := 33) (y := 1) [some (xa_r k), some (xa_i 1)] dX4_isStraight_33 (by decide) rfl rfl rfl rfl ?_
        refine xa_goto (pc := 36) (tgt := 2) dX4_isStraight_36 (by decide) ?_
        refine xa_iload_n (pc := 2) dX4_isStraight_2 rfl ?_
        refine xa_aload_n (pc := 3) dX4_isStraight_3 rfl ?_
        refine xa_getfield (pc := 4) dX4_isStraight_4 flRX4_15 (by omega) (by omega) hS0 rfl ?_
        refine xa_alen (pc := 7) dX4_isStraight_7 (by omega) hS2 ?_
        refine xa_top (y := 2) rfl ?_
        refine xa_icmp_ge (pc := 8) (tgt := 39) dX4_isStraight_8 (by decide) (by decide) (by decide) (fun c_8 => ?_) (fun c_8 => ?_)
        · skip
          exfalso; omega
        · skip
          refine xa_iload_n (pc := 11) dX4_isStraight_11 rfl ?_
          refine xa_aload_n (pc := 12) dX4_isStraight_12 rfl ?_
          refine xa_getfield (pc := 13) dX4_isStraight_13 flRX4_18 (by omega) (by omega) hS0 rfl ?_
          refine xa_getfield (pc := 16) dX4_isStraight_16 flRX4_32 (by omega) (by omega) hB0 rfl ?_
          refine xa_icmp_ge (pc := 19) (tgt := 39) dX4_isStraight_19 (by decide) (by decide) ⟨by omega, by omega⟩ (fun c_19 => ?_) (fun c_19 => ?_)
          · skip
            refine xa_iconst (pc := 39) dX4_isStraight_39 ?_
            refine xa_ireturn (pc := 40) dX4_isStraight_40 rfl (Or.inr rfl) ?_
            exact ⟨congrArg (fun z => some (xa_i z)) (xa_bt (by (rw [sp_strB_iff]; unfold sp_str; omega))), rfl⟩
          · skip
            refine xa_aload_n (pc := 22) dX4_isStraight_22 rfl ?_
            refine xa_getfield (pc := 23) dX4_isStraight_23 flRX4_15 (by omega) (by omega) hS0 rfl ?_
            refine xa_iload_n (pc := 26) dX4_isStraight_26 rfl ?_
            refine xa_ialdw (pc := 27) 1 dX4_isStraight_27 (by omega) hS2 (by omega) (by omega) rfl ?_
            have b_27 := hsp 1
            refine xa_if_eq (pc := 28) (tgt := 33) dX4_isStraight_28 (by decide) ⟨by omega, by omega⟩ (fun c_28 => ?_) (fun c_28 => ?_)
            · skip
              refine xa_iincw (pc := 33) (y := 2) [some (xa_r k), some (xa_i 2)] dX4_isStraight_33 (by decide) rfl rfl rfl rfl ?_
              refine xa_goto (pc := 36) (tgt := 2) dX4_isStraight_36 (by decide) ?_
              refine xa_iload_n (pc := 2) dX4_isStraight_2 rfl ?_
              refine xa_aload_n (pc := 3) dX4_isStraight_3 rfl ?_
              refine xa_getfield (pc := 4) dX4_isStraight_4 flRX4_15 (by omega) (by omega) hS0 rfl ?_
              refine xa_alen (pc := 7) dX4_isStraight_7 (by omega) hS2 ?_
              refine xa_top (y := 2) rfl ?_
              refine xa_icmp_ge (pc := 8) (tgt := 39) dX4_isStraight_8 (by decide) (by decide) (by decide) (fun c_8 => ?_) (fun c_8 => ?_)
              · skip
                refine xa_iconst (pc := 39) dX4_isStraight_39 ?_
                refine xa_ireturn (pc := 40) dX4_isStraight_40 rfl (Or.inr rfl) ?_
                exact ⟨congrArg (fun z => some (xa_i z)) (xa_bt (by (rw [sp_strB_iff]; unfold sp_str; omega))), rfl⟩
              · skip
                exfalso; omega
            · skip
              refine xa_iconst (pc := 31) dX4_isStraight_31 ?_
              refine xa_ireturn (pc := 32) dX4_isStraight_32 rfl (Or.inl rfl) ?_
              exact ⟨congrArg (fun z => some (xa_i z)) (xa_bf (by (rw [sp_strB_iff]; unfold sp_str; omega))), rfl⟩
      · skip
        refine xa_iconst (pc := 31) dX4_isStraight_31 ?_
        refine xa_ireturn (pc := 32) dX4_isStraight_32 rfl (Or.inl rfl) ?_
        exact ⟨congrArg (fun z => some (xa_i z)) (xa_bf (by (rw [sp_strB_iff]; unfold sp_str; omega))), rfl⟩
theorem c_isAtRest {G : xa_G} {h : xa_H} (k kb : Nat) (po sp : Nat → Int) (tj tb : Int) (ld dg : Nat → Int) (pa jo : Nat) (wa sr pu ri : Int) (hS : xS h k kb po sp tj tb) (hB : xB h kb ld dg pa jo wa sr pu ri) (hkk : kb + 3 ≤ k) (hpa : pa ≤ 3) (hjo : jo ≤ 2) (hsp : ∀ i, -2 ≤ sp i ∧ sp i ≤ 12) (hpo : ∀ i, 0 ≤ po i ∧ po i ≤ 2)  : xa_M G mX4_isAtRest [xa_r k] h 0 0 (fun r h' => r = some (xa_i (xa_b (sp_restB po sp pa jo = true))) ∧ h' = h) := by
  refine xa_enter (by decide +kernel) (Nat.le_of_ble_eq_true rfl) ?_
  refine xa_locals (ls' := [some (xa_r k), none]) rfl ?_
  obtain ⟨hS0, hS1, hS2, hSk, hSn⟩ := hS
  obtain ⟨hB0, hB1, hB2, hBk, hBn⟩ := hB
  refine xa_iconst (pc := 0) dX4_isAtRest_0 ?_
  refine xa_istoren (pc := 1) [some (xa_r k), some (xa_i 0)] dX4_isAtRest_1 (by decide) (by simp) rfl rfl ?_
  refine xa_iload_n (pc := 2) dX4_isAtRest_2 rfl ?_
  refine xa_aload_n (pc := 3) dX4_isAtRest_3 rfl ?_
  refine xa_getfield (pc := 4) dX4_isAtRest_4 flRX4_9 (by omega) (by omega) hS0 rfl ?_
  refine xa_alen (pc := 7) dX4_isAtRest_7 (by omega) hS1 ?_
  refine xa_top (y := 3) rfl ?_
  refine xa_icmp_ge (pc := 8) (tgt := 40) dX4_isAtRest_8 (by decide) (by decide) (by decide) (fun c_8 => ?_) (fun c_8 => ?_)
  · skip
    exfalso; omega
  · skip
    refine xa_iload_n (pc := 11) dX4_isAtRest_11 rfl ?_
    refine xa_aload_n (pc := 12) dX4_isAtRest_12 rfl ?_
    refine xa_getfield (pc := 13) dX4_isAtRest_13 flRX4_18 (by omega) (by omega) hS0 rfl ?_
    refine xa_getfield (pc := 16) dX4_isAtRest_16 flRX4_37 (by omega) (by omega) hB0 rfl ?_
    refine xa_icmp_ge (pc := 19) (tgt := 40) dX4_isAtRest_19 (by decide) (by decide) ⟨by omega, by omega⟩ (fun c_19 => ?_) (fun c_19 => ?_)
    · skip
      refine xa_aload_n (pc := 40) dX4_isAtRest_40 rfl ?_
      refine xa_callV (pc := 41) (as := []) (rest := []) dX4_isAtRest_41 ⟨qX4_isStraight.1, qX4_isStraight.2.1, qX4_isStraight.2.2, by decide, by decide⟩ lkRX4_40 imX4_isStraight seX4_isStraight rfl rfl (by omega) (by omega) hS0 rfl (Nat.le_of_ble_eq_true rfl) (Nat.zero_le _) (Nat.zero_le _) (c_isStraight _ _ _ _ _ _ _ _ _ _ _ _ _ _ ⟨hS0, hS1, hS2, by omega, by omega⟩ ⟨hB0, hB1, hB2, by omega, by omega⟩ hkk hpa hjo hsp) (fun r h' hq => ?_)
      obtain ⟨rfl, hq⟩ := hq
      have hq := hq.symm
      subst hq
      refine xa_ireturn (pc := 44) dX4_isAtRest_44 rfl xa_bq ?_
      exact ⟨congrArg (fun z => some (xa_i z)) (xa_bc (show (sp_strB sp jo = true) ↔ (sp_restB po sp pa jo = true) by (first | (rw [sp_restB_iff]; unfold sp_rest; omega) | (rw [sp_restB_iff, sp_strB_iff]; unfold sp_rest sp_str; omega)))), rfl⟩
    · skip
      refine xa_aload_n (pc := 22) dX4_isAtRest_22 rfl ?_
      refine xa_getfield (pc := 23) dX4_isAtRest_23 flRX4_9 (by omega) (by omega) hS0 rfl ?_
      refine xa_iload_n (pc := 26) dX4_isAtRest_26 rfl ?_
      refine xa_ialdw (pc := 27) 0 dX4_isAtRest_27 (by omega) hS1 (by omega) (by omega) rfl ?_
      have b_27 := hpo 0
      refine xa_iconst (pc := 28) dX4_isAtRest_28 ?_
      refine xa_icmp_eq (pc := 29) (tgt := 34) dX4_isAtRest_29 (by decide) ⟨by omega, by omega⟩ (by decide) (fun c_29 => ?_) (fun c_29 => ?_)
      · skip
        refine xa_iincw (pc := 34) (y := 1) [some (xa_r k), some (xa_i 1)] dX4_isAtRest_34 (by decide) rfl rfl rfl rfl ?_
        refine xa_goto (pc := 37) (tgt := 2) dX4_isAtRest_37 (by decide) ?_
        refine xa_iload_n (pc := 2) dX4_isAtRest_2 rfl ?_
        refine xa_aload_n (pc := 3) dX4_isAtRest_3 rfl ?_
        refine xa_getfield (pc := 4) dX4_isAtRest_4 flRX4_9 (by omega) (by omega) hS0 rfl ?_
        refine xa_alen (pc := 7) dX4_isAtRest_7 (by omega) hS1 ?_
        refine xa_top (y := 3) rfl ?_
        refine xa_icmp_ge (pc := 8) (tgt := 40) dX4_isAtRest_8 (by decide) (by decide) (by decide) (fun c_8 => ?_) (fun c_8 => ?_)
        · skip
          exfalso; omega
        · skip
          refine xa_iload_n (pc := 11) dX4_isAtRest_11 rfl ?_
          refine xa_aload_n (pc := 12) dX4_isAtRest_12 rfl ?_
          refine xa_getfield (pc := 13) dX4_isAtRest_13 flRX4_18 (by omega) (by omega) hS0 rfl ?_
          refine xa_getfield (pc := 16) dX4_isAtRest_16 flRX4_37 (by omega) (by omega) hB0 rfl ?_
          refine xa_icmp_ge (pc := 19) (tgt := 40) dX4_isAtRest_19 (by decide) (by decide) ⟨by omega, by omega⟩ (fun c_19 => ?_) (fun c_19 => ?_)
          · skip
            refine xa_aload_n (pc := 40) dX4_isAtRest_40 rfl ?_
            refine xa_callV (pc := 41) (as := []) (rest := []) dX4_isAtRest_41 ⟨qX4_isStraight.1, qX4_isStraight.2.1, qX4_isStraight.2.2, by decide, by decide⟩ lkRX4_40 imX4_isStraight seX4_isStraight rfl rfl (by omega) (by omega) hS0 rfl (Nat.le_of_ble_eq_true rfl) (Nat.zero_le _) (Nat.zero_le _) (c_isStraight _ _ _ _ _ _ _ _ _ _ _ _ _ _ ⟨hS0, hS1, hS2, by omega, by omega⟩ ⟨hB0, hB1, hB2, by omega, by omega⟩ hkk hpa hjo hsp) (fun r h' hq => ?_)
            obtain ⟨rfl, hq⟩ := hq
            have hq := hq.symm
            subst hq
            refine xa_ireturn (pc := 44) dX4_isAtRest_44 rfl xa_bq ?_
            exact ⟨congrArg (fun z => some (xa_i z)) (xa_bc (show (sp_strB sp jo = true) ↔ (sp_restB po sp pa jo = true) by (first | (rw [sp_restB_iff]; unfold sp_rest; omega) | (rw [sp_restB_iff, sp_strB_iff]; unfold sp_rest sp_str; omega)))), rfl⟩
          · skip
            refine xa_aload_n (pc := 22) dX4_isAtRest_22 rfl ?_
            refine xa_getfield (pc := 23) dX4_isAtRest_23 flRX4_9 (by omega) (by omega) hS0 rfl ?_
            refine xa_iload_n (pc := 26) dX4_isAtRest_26 rfl ?_
            refine xa_ialdw (pc := 27) 1 dX4_isAtRest_27 (by omega) hS1 (by omega) (by omega) rfl ?_
            have b_27 := hpo 1
            refine xa_iconst (pc := 28) dX4_isAtRest_28 ?_
            refine xa_icmp_eq (pc := 29) (tgt := 34) dX4_isAtRest_29 (by decide) ⟨by omega, by omega⟩ (by decide) (fun c_29 => ?_) (fun c_29 => ?_)
            · skip
              refine xa_iincw (pc := 34) (y := 2) [some (xa_r k), some (xa_i 2)] dX4_isAtRest_34 (by decide) rfl rfl rfl rfl ?_
              refine xa_goto (pc := 37) (tgt := 2) dX4_isAtRest_37 (by decide) ?_
              refine xa_iload_n (pc := 2) dX4_isAtRest_2 rfl ?_
              refine xa_aload_n (pc := 3) dX4_isAtRest_3 rfl ?_
              refine xa_getfield (pc := 4) dX4_isAtRest_4 flRX4_9 (by omega) (by omega) hS0 rfl ?_
              refine xa_alen (pc := 7) dX4_isAtRest_7 (by omega) hS1 ?_
              refine xa_top (y := 3) rfl ?_
              refine xa_icmp_ge (pc := 8) (tgt := 40) dX4_isAtRest_8 (by decide) (by decide) (by decide) (fun c_8 => ?_) (fun c_8 => ?_)
              · skip
                exfalso; omega
              · skip
                refine xa_iload_n (pc := 11) dX4_isAtRest_11 rfl ?_
                refine xa_aload_n (pc := 12) dX4_isAtRest_12 rfl ?_
                refine xa_getfield (pc := 13) dX4_isAtRest_13 flRX4_18 (by omega) (by omega) hS0 rfl ?_
                refine xa_getfield (pc := 16) dX4_isAtRest_16 flRX4_37 (by omega) (by omega) hB0 rfl ?_
                refine xa_icmp_ge (pc := 19) (tgt := 40) dX4_isAtRest_19 (by decide) (by decide) ⟨by omega, by omega⟩ (fun c_19 => ?_) (fun c_19 => ?_)
                · skip
                  refine xa_aload_n (pc := 40) dX4_isAtRest_40 rfl ?_
                  refine xa_callV (pc := 41) (as := []) (rest := []) dX4_isAtRest_41 ⟨qX4_isStraight.1, qX4_isStraight.2.1, qX4_isStraight.2.2, by decide, by decide⟩ lkRX4_40 imX4_isStraight seX4_isStraight rfl rfl (by omega) (by omega) hS0 rfl (Nat.le_of_ble_eq_true rfl) (Nat.zero_le _) (Nat.zero_le _) (c_isStraight _ _ _ _ _ _ _ _ _ _ _ _ _ _ ⟨hS0, hS1, hS2, by omega, by omega⟩ ⟨hB0, hB1, hB2, by omega, by omega⟩ hkk hpa hjo hsp) (fun r h' hq => ?_)
                  obtain ⟨rfl, hq⟩ := hq
                  have hq := hq.symm
                  subst hq
                  refine xa_ireturn (pc := 44) dX4_isAtRest_44 rfl xa_bq ?_
                  exact ⟨congrArg (fun z => some (xa_i z)) (xa_bc (show (sp_strB sp jo = true) ↔ (sp_restB po sp pa jo = true) by (first | (rw [sp_restB_iff]; unfold sp_rest; omega) | (rw [sp_restB_iff, sp_strB_iff]; unfold sp_rest sp_str; omega)))), rfl⟩
                · skip
                  refine xa_aload_n (pc := 22) dX4_isAtRest_22 rfl ?_
                  refine xa_getfield (pc := 23) dX4_isAtRest_23 flRX4_9 (by omega) (by omega) hS0 rfl ?_
                  refine xa_iload_n (pc := 26) dX4_isAtRest_26 rfl ?_
                  refine xa_ialdw (pc := 27) 2 dX4_isAtRest_27 (by omega) hS1 (by omega) (by omega) rfl ?_
                  have b_27 := hpo 2
                  refine xa_iconst (pc := 28) dX4_isAtRest_28 ?_
                  refine xa_icmp_eq (pc := 29) (tgt := 34) dX4_isAtRest_29 (by decide) ⟨by omega, by omega⟩ (by decide) (fun c_29 => ?_) (fun c_29 => ?_)
                  · skip
                    refine xa_iincw (pc := 34) (y := 3) [some (xa_r k), some (xa_i 3)] dX4_isAtRest_34 (by decide) rfl rfl rfl rfl ?_
                    refine xa_goto (pc := 37) (tgt := 2) dX4_isAtRest_37 (by decide) ?_
                    refine xa_iload_n (pc := 2) dX4_isAtRest_2 rfl ?_
                    refine xa_aload_n (pc := 3) dX4_isAtRest_3 rfl ?_
                    refine xa_getfield (pc := 4) dX4_isAtRest_4 flRX4_9 (by omega) (by omega) hS0 rfl ?_
                    refine xa_alen (pc := 7) dX4_isAtRest_7 (by omega) hS1 ?_
                    refine xa_top (y := 3) rfl ?_
                    refine xa_icmp_ge (pc := 8) (tgt := 40) dX4_isAtRest_8 (by decide) (by decide) (by decide) (fun c_8 => ?_) (fun c_8 => ?_)
                    · skip
                      refine xa_aload_n (pc := 40) dX4_isAtRest_40 rfl ?_
                      refine xa_callV (pc := 41) (as := []) (rest := []) dX4_isAtRest_41 ⟨qX4_isStraight.1, qX4_isStraight.2.1, qX4_isStraight.2.2, by decide, by decide⟩ lkRX4_40 imX4_isStraight seX4_isStraight rfl rfl (by omega) (by omega) hS0 rfl (Nat.le_of_ble_eq_true rfl) (Nat.zero_le _) (Nat.zero_le _) (c_isStraight _ _ _ _ _ _ _ _ _ _ _ _ _ _ ⟨hS0, hS1, hS2, by omega, by omega⟩ ⟨hB0, hB1, hB2, by omega, by omega⟩ hkk hpa hjo hsp) (fun r h' hq => ?_)
                      obtain ⟨rfl, hq⟩ := hq
                      have hq := hq.symm
                      subst hq
                      refine xa_ireturn (pc := 44) dX4_isAtRest_44 rfl xa_bq ?_
                      exact ⟨congrArg (fun z => some (xa_i z)) (xa_bc (show (sp_strB sp jo = true) ↔ (sp_restB po sp pa jo = true) by (first | (rw [sp_restB_iff]; unfold sp_rest; omega) | (rw [sp_restB_iff, sp_strB_iff]; unfold sp_rest sp_str; omega)))), rfl⟩
                    · skip
                      exfalso; omega
                  · skip
                    refine xa_iconst (pc := 32) dX4_isAtRest_32 ?_
                    refine xa_ireturn (pc := 33) dX4_isAtRest_33 rfl (Or.inl rfl) ?_
                    exact ⟨congrArg (fun z => some (xa_i z)) (xa_bf (by (first | (rw [sp_restB_iff]; unfold sp_rest; omega) | (rw [sp_restB_iff, sp_strB_iff]; unfold sp_rest sp_str; omega)))), rfl⟩
            · skip
              refine xa_iconst (pc := 32) dX4_isAtRest_32 ?_
              refine xa_ireturn (pc := 33) dX4_isAtRest_33 rfl (Or.inl rfl) ?_
              exact ⟨congrArg (fun z => some (xa_i z)) (xa_bf (by (first | (rw [sp_restB_iff]; unfold sp_rest; omega) | (rw [sp_restB_iff, sp_strB_iff]; unfold sp_rest sp_str; omega)))), rfl⟩
      · skip
        refine xa_iconst (pc := 32) dX4_isAtRest_32 ?_
        refine xa_ireturn (pc := 33) dX4_isAtRest_33 rfl (Or.inl rfl) ?_
        exact ⟨congrArg (fun z => some (xa_i z)) (xa_bf (by (first | (rw [sp_restB_iff]; unfold sp_rest; omega) | (rw [sp_restB_iff, sp_strB_iff]; unfold sp_rest sp_str; omega)))), rfl⟩
theorem c_loadFrom0 {G : xa_G} {h : xa_H} (k kb : Nat) (po sp : Nat → Int) (tj tb : Int) (ld dg : Nat → Int) (pa jo : Nat) (wa sr pu ri : Int) (hS : xS h k kb po sp tj tb) (hB : xB h kb ld dg pa jo wa sr pu ri) (hkk : kb + 3 ≤ k) (hpa : pa ≤ 3) (hjo : jo ≤ 2) (hpo : ∀ i, 0 ≤ po i ∧ po i ≤ 2)  : xa_M G mX4_loadFrom [xa_r k, xa_i 0] h 0 0 (fun r h' => r = some (xa_i (sp_from ld po pa 0)) ∧ h' = h) := by
  refine xa_enter (by decide +kernel) (Nat.le_of_ble_eq_true rfl) ?_
  refine xa_locals (ls' := [some (xa_r k), some (xa_i 0), none, none]) rfl ?_
  obtain ⟨hS0, hS1, hS2, hSk, hSn⟩ := hS
  obtain ⟨hB0, hB1, hB2, hBk, hBn⟩ := hB
  refine xa_iconst (pc := 0) dX4_loadFrom_0 ?_
  refine xa_istoren (pc := 1) [some (xa_r k), some (xa_i 0), some (xa_i 0), none] dX4_loadFrom_1 (by decide) (by simp) rfl rfl ?_
  refine xa_iload_n (pc := 2) dX4_loadFrom_2 rfl ?_
  refine xa_iconst (pc := 3) dX4_loadFrom_3 ?_
  refine xa_callS (pc := 4) (as := [xa_i 0, xa_i 0]) (rest := []) dX4_loadFrom_4 ⟨qJ9_max_7cf53.1, qJ9_max_7cf53.2.1, qJ9_max_7cf53.2.2, by decide, by decide⟩ lkRX4_44 smJ9_max_7cf53 rfl rfl (Nat.le_of_ble_eq_true rfl) (Nat.zero_le _) (Nat.zero_le _) (c_max _ _ (by decide) (by decide)) (fun r h' hq => ?_)
  obtain ⟨rfl, hq⟩ := hq
  have hq := hq.symm
  subst hq
  refine xa_top (y := 0) (by decide) ?_
  refine xa_istoren (pc := 7) [some (xa_r k), some (xa_i 0), some (xa_i 0), some (xa_i 0)] dX4_loadFrom_7 (by decide) (by simp) rfl rfl ?_
  refine xa_iload_n (pc := 8) dX4_loadFrom_8 rfl ?_
  refine xa_aload_n (pc := 9) dX4_loadFrom_9 rfl ?_
  refine xa_getfield (pc := 10) dX4_loadFrom_10 flRX4_9 (by omega) (by omega) hS0 rfl ?_
  refine xa_alen (pc := 13) dX4_loadFrom_13 (by omega) hS1 ?_
  refine xa_top (y := 3) rfl ?_
  refine xa_icmp_ge (pc := 14) (tgt := 51) dX4_loadFrom_14 (by decide) (by decide) (by decide) (fun c_14 => ?_) (fun c_14 => ?_)
  · skip
    exfalso; omega
  · skip
    refine xa_iload_n (pc := 17) dX4_loadFrom_17 rfl ?_
    refine xa_aload_n (pc := 18) dX4_loadFrom_18 rfl ?_
    refine xa_getfield (pc := 19) dX4_loadFrom_19 flRX4_18 (by omega) (by omega) hS0 rfl ?_
    refine xa_getfield (pc := 22) dX4_loadFrom_22 flRX4_37 (by omega) (by omega) hB0 rfl ?_
    refine xa_icmp_ge (pc := 25) (tgt := 51) dX4_loadFrom_25 (by decide) (by decide) ⟨by omega, by omega⟩ (fun c_25 => ?_) (fun c_25 => ?_)
    · skip
      refine xa_iload_n (pc := 51) dX4_loadFrom_51 rfl ?_
      refine xa_ireturn (pc := 52) dX4_loadFrom_52 rfl trivial ?_
      exact ⟨congrArg (fun z => some (xa_i z)) (show 0 = sp_from ld po pa 0 by unfold sp_from; (repeat' split) <;> omega), rfl⟩
    · skip
      refine xa_iload_n (pc := 28) dX4_loadFrom_28 rfl ?_
      refine xa_aload_n (pc := 29) dX4_loadFrom_29 rfl ?_
      refine xa_getfield (pc := 30) dX4_loadFrom_30 flRX4_18 (by omega) (by omega) hS0 rfl ?_
      refine xa_iload_n (pc := 33) dX4_loadFrom_33 rfl ?_
      refine xa_aload_n (pc := 34) dX4_loadFrom_34 rfl ?_
      refine xa_getfield (pc := 35) dX4_loadFrom_35 flRX4_9 (by omega) (by omega) hS0 rfl ?_
      refine xa_iload_n (pc := 38) dX4_loadFrom_38 rfl ?_
      refine xa_ialdw (pc := 39) 0 dX4_loadFrom_39 (by omega) hS1 (by omega) (by omega) rfl ?_
      have b_39 := hpo 0
      refine xa_callV (pc := 40) (as := [xa_i 0, xa_i (po 0)]) (rest := [xa_i 0]) dX4_loadFrom_40 ⟨qX0_loadOf.1, qX0_loadOf.2.1, qX0_loadOf.2.2, by decide, by decide⟩ lkRX4_50 imX0_loadOf seX0_loadOf rfl rfl (by omega) (by omega) hB0 rfl (Nat.le_of_ble_eq_true rfl) (Nat.zero_le _) (Nat.zero_le _) (c_loadOf _ _ _ _ _ _ _ _ _ _ _ (by omega) ⟨by omega, by omega⟩ ⟨hB0, hB1, hB2, by omega, by omega⟩) (fun r h' hq => ?_)
      obtain ⟨rfl, hq⟩ := hq
      have hq := hq.symm
      subst hq
      refine xa_iadd (pc := 43) dX4_loadFrom_43 ?_
      refine xa_istoren (pc := 44) [some (xa_r k), some (xa_i 0), some (xa_i (0 + (sp_ld ld 0 (po 0)))), some (xa_i 0)] dX4_loadFrom_44 (by decide) (by simp) rfl rfl ?_
      refine xa_iincw (pc := 45) (y := 1) [some (xa_r k), some (xa_i 0), some (xa_i (0 + (sp_ld ld 0 (po 0)))), some (xa_i 1)] dX4_loadFrom_45 (by decide) rfl rfl rfl rfl ?_
      refine xa_goto (pc := 48) (tgt := 8) dX4_loadFrom_48 (by decide) ?_
      refine xa_iload_n (pc := 8) dX4_loadFrom_8 rfl ?_
      refine xa_aload_n (pc := 9) dX4_loadFrom_9 rfl ?_
      refine xa_getfield (pc := 10) dX4_loadFrom_10 flRX4_9 (by omega) (by omega) hS0 rfl ?_
      refine xa_alen (pc := 13) dX4_loadFrom_13 (by omega) hS1 ?_
      refine xa_top (y := 3) rfl ?_
      refine xa_icmp_ge (pc := 14) (tgt := 51) dX4_loadFrom_14 (by decide) (by decide) (by decide) (fun c_14 => ?_) (fun c_14 => ?_)
      · skip
        exfalso; omega
      · skip
        refine xa_iload_n (pc := 17) dX4_loadFrom_17 rfl ?_
        refine xa_aload_n (pc := 18) dX4_loadFrom_18 rfl ?_
        refine xa_getfield (pc := 19) dX4_loadFrom_19 flRX4_18 (by omega) (by omega) hS0 rfl ?_
        refine xa_getfield (pc := 22) dX4_loadFrom_22 flRX4_37 (by omega) (by omega) hB0 rfl ?_
        refine xa_icmp_ge (pc := 25) (tgt := 51) dX4_loadFrom_25 (by decide) (by decide) ⟨by omega, by omega⟩ (fun c_25 => ?_) (fun c_25 => ?_)
        · skip
          refine xa_iload_n (pc := 51) dX4_loadFrom_51 rfl ?_
          refine xa_ireturn (pc := 52) dX4_loadFrom_52 rfl trivial ?_
          exact ⟨congrArg (fun z => some (xa_i z)) (show 0 + (sp_ld ld 0 (po 0)) = sp_from ld po pa 0 by unfold sp_from; (repeat' split) <;> omega), rfl⟩
        · skip
          refine xa_iload_n (pc := 28) dX4_loadFrom_28 rfl ?_
          refine xa_aload_n (pc := 29) dX4_loadFrom_29 rfl ?_
          refine xa_getfield (pc := 30) dX4_loadFrom_30 flRX4_18 (by omega) (by omega) hS0 rfl ?_
          refine xa_iload_n (pc := 33) dX4_loadFrom_33 rfl ?_
          refine xa_aload_n (pc := 34) dX4_loadFrom_34 rfl ?_
          refine xa_getfield (pc := 35) dX4_loadFrom_35 flRX4_9 (by omega) (by omega) hS0 rfl ?_
          refine xa_iload_n (pc := 38) dX4_loadFrom_38 rfl ?_
          refine xa_ialdw (pc := 39) 1 dX4_loadFrom_39 (by omega) hS1 (by omega) (by omega) rfl ?_
          have b_39 := hpo 1
          refine xa_callV (pc := 40) (as := [xa_i 1, xa_i (po 1)]) (rest := [xa_i (0 + (sp_ld ld 0 (po 0)))]) dX4_loadFrom_40 ⟨qX0_loadOf.1, qX0_loadOf.2.1, qX0_loadOf.2.2, by decide, by decide⟩ lkRX4_50 imX0_loadOf seX0_loadOf rfl rfl (by omega) (by omega) hB0 rfl (Nat.le_of_ble_eq_true rfl) (Nat.zero_le _) (Nat.zero_le _) (c_loadOf _ _ _ _ _ _ _ _ _ _ _ (by omega) ⟨by omega, by omega⟩ ⟨hB0, hB1, hB2, by omega, by omega⟩) (fun r h' hq => ?_)
          obtain ⟨rfl, hq⟩ := hq
          have hq := hq.symm
          subst hq
          refine xa_iadd (pc := 43) dX4_loadFrom_43 ?_
          refine xa_istoren (pc := 44) [some (xa_r k), some (xa_i 0), some (xa_i ((0 + (sp_ld ld 0 (po 0))) + (sp_ld ld 1 (po 1)))), some (xa_i 1)] dX4_loadFrom_44 (by decide) (by simp) rfl rfl ?_
          refine xa_iincw (pc := 45) (y := 2) [some (xa_r k), some (xa_i 0), some (xa_i ((0 + (sp_ld ld 0 (po 0))) + (sp_ld ld 1 (po 1)))), some (xa_i 2)] dX4_loadFrom_45 (by decide) rfl rfl rfl rfl ?_
          refine xa_goto (pc := 48) (tgt := 8) dX4_loadFrom_48 (by decide) ?_
          refine xa_iload_n (pc := 8) dX4_loadFrom_8 rfl ?_
          refine xa_aload_n (pc := 9) dX4_loadFrom_9 rfl ?_
          refine xa_getfield (pc := 10) dX4_loadFrom_10 flRX4_9 (by omega) (by omega) hS0 rfl ?_
          refine xa_alen (pc := 13) dX4_loadFrom_13 (by omega) hS1 ?_
          refine xa_top (y := 3) rfl ?_
          refine xa_icmp_ge (pc := 14) (tgt := 51) dX4_loadFrom_14 (by decide) (by decide) (by decide) (fun c_14 => ?_) (fun c_14 => ?_)
          · skip
            exfalso; omega
          · skip
            refine xa_iload_n (pc := 17) dX4_loadFrom_17 rfl ?_
            refine xa_aload_n (pc := 18) dX4_loadFrom_18 rfl ?_
            refine xa_getfield (pc := 19) dX4_loadFrom_19 flRX4_18 (by omega) (by omega) hS0 rfl ?_
            refine xa_getfield (pc := 22) dX4_loadFrom_22 flRX4_37 (by omega) (by omega) hB0 rfl ?_
            refine xa_icmp_ge (pc := 25) (tgt := 51) dX4_loadFrom_25 (by decide) (by decide) ⟨by omega, by omega⟩ (fun c_25 => ?_) (fun c_25 => ?_)
            · skip
              refine xa_iload_n (pc := 51) dX4_loadFrom_51 rfl ?_
              refine xa_ireturn (pc := 52) dX4_loadFrom_52 rfl trivial ?_
              exact ⟨congrArg (fun z => some (xa_i z)) (show (0 + (sp_ld ld 0 (po 0))) + (sp_ld ld 1 (po 1)) = sp_from ld po pa 0 by unfold sp_from; (repeat' split) <;> omega), rfl⟩
            · skip
              refine xa_iload_n (pc := 28) dX4_loadFrom_28 rfl ?_
              refine xa_aload_n (pc := 29) dX4_loadFrom_29 rfl ?_
              refine xa_getfield (pc := 30) dX4_loadFrom_30 flRX4_18 (by omega) (by omega) hS0 rfl ?_
              refine xa_iload_n (pc := 33) dX4_loadFrom_33 rfl ?_
              refine xa_aload_n (pc := 34) dX4_loadFrom_34 rfl ?_
              refine xa_getfield (pc := 35) dX4_loadFrom_35 flRX4_9 (by omega) (by omega) hS0 rfl ?_
              refine xa_iload_n (pc := 38) dX4_loadFrom_38 rfl ?_
              refine xa_ialdw (pc := 39) 2 dX4_loadFrom_39 (by omega) hS1 (by omega) (by omega) rfl ?_
              have b_39 := hpo 2
              refine xa_callV (pc := 40) (as := [xa_i 2, xa_i (po 2)]) (rest := [xa_i ((0 + (sp_ld ld 0 (po 0))) + (sp_ld ld 1 (po 1)))]) dX4_loadFrom_40 ⟨qX0_loadOf.1, qX0_loadOf.2.1, qX0_loadOf.2.2, by decide, by decide⟩ lkRX4_50 imX0_loadOf seX0_loadOf rfl rfl (by omega) (by omega) hB0 rfl (Nat.le_of_ble_eq_true rfl) (Nat.zero_le _) (Nat.zero_le _) (c_loadOf _ _ _ _ _ _ _ _ _ _ _ (by omega) ⟨by omega, by omega⟩ ⟨hB0, hB1, hB2, by omega, by omega⟩) (fun r h' hq => ?_)
              obtain ⟨rfl, hq⟩ := hq
              have hq := hq.symm
              subst hq
              refine xa_iadd (pc := 43) dX4_loadFrom_43 ?_
              refine xa_istoren (pc := 44) [some (xa_r k), some (xa_i 0), some (xa_i (((0 + (sp_ld ld 0 (po 0))) + (sp_ld ld 1 (po 1))) + (sp_ld ld 2 (po 2)))), some (xa_i 2)] dX4_loadFrom_44 (by decide) (by simp) rfl rfl ?_
              refine xa_iincw (pc := 45) (y := 3) [some (xa_r k), some (xa_i 0), some (xa_i (((0 + (sp_ld ld 0 (po 0))) + (sp_ld ld 1 (po 1))) + (sp_ld ld 2 (po 2)))), some (xa_i 3)] dX4_loadFrom_45 (by decide) rfl rfl rfl rfl ?_
              refine xa_goto (pc := 48) (tgt := 8) dX4_loadFrom_48 (by decide) ?_
              refine xa_iload_n (pc := 8) dX4_loadFrom_8 rfl ?_
              refine xa_aload_n (pc := 9) dX4_loadFrom_9 rfl ?_
              refine xa_getfield (pc := 10) dX4_loadFrom_10 flRX4_9 (by omega) (by omega) hS0 rfl ?_
              refine xa_alen (pc := 13) dX4_loadFrom_13 (by omega) hS1 ?_
              refine xa_top (y := 3) rfl ?_
              refine xa_icmp_ge (pc := 14) (tgt := 51) dX4_loadFrom_14 (by decide) (by decide) (by decide) (fun c_14 => ?_) (fun c_14 => ?_)
              · skip
                refine xa_iload_n (pc := 51) dX4_loadFrom_51 rfl ?_
                refine xa_ireturn (pc := 52) dX4_loadFrom_52 rfl trivial ?_
                exact ⟨congrArg (fun z => some (xa_i z)) (show ((0 + (sp_ld ld 0 (po 0))) + (sp_ld ld 1 (po 1))) + (sp_ld ld 2 (po 2)) = sp_from ld po pa 0 by unfold sp_from; (repeat' split) <;> omega), rfl⟩
              · skip
                exfalso; omega
theorem c_loadFrom1 {G : xa_G} {h : xa_H} (k kb : Nat) (po sp : Nat → Int) (tj tb : Int) (ld dg : Nat → Int) (pa jo : Nat) (wa sr pu ri : Int) (hS : xS h k kb po sp tj tb) (hB : xB h kb ld dg pa jo wa sr pu ri) (hkk : kb + 3 ≤ k) (hpa : pa ≤ 3) (hjo : jo ≤ 2) (hpo : ∀ i, 0 ≤ po i ∧ po i ≤ 2)  : xa_M G mX4_loadFrom [xa_r k, xa_i 1] h 0 0 (fun r h' => r = some (xa_i (sp_from ld po pa 1)) ∧ h' = h) := by
  refine xa_enter (by decide +kernel) (Nat.le_of_ble_eq_true rfl) ?_
  refine xa_locals (ls' := [some (xa_r k), some (xa_i 1), none, none]) rfl ?_
  obtain ⟨hS0, hS1, hS2, hSk, hSn⟩ := hS
  obtain ⟨hB0, hB1, hB2, hBk, hBn⟩ := hB
  refine xa_iconst (pc := 0) dX4_loadFrom_0 ?_
  refine xa_istoren (pc := 1) [some (xa_r k), some (xa_i 1), some (xa_i 0), none] dX4_loadFrom_1 (by decide) (by simp) rfl rfl ?_
  refine xa_iload_n (pc := 2) dX4_loadFrom_2 rfl ?_
  refine xa_iconst (pc := 3) dX4_loadFrom_3 ?_
  refine xa_callS (pc := 4) (as := [xa_i 1, xa_i 0]) (rest := []) dX4_loadFrom_4 ⟨qJ9_max_7cf53.1, qJ9_max_7cf53.2.1, qJ9_max_7cf53.2.2, by decide, by decide⟩ lkRX4_44 smJ9_max_7cf53 rfl rfl (Nat.le_of_ble_eq_true rfl) (Nat.zero_le _) (Nat.zero_le _) (c_max _ _ (by decide) (by decide)) (fun r h' hq => ?_)
  obtain ⟨rfl, hq⟩ := hq
  have hq := hq.symm
  subst hq
  refine xa_top (y := 1) (by decide) ?_
  refine xa_istoren (pc := 7) [some (xa_r k), some (xa_i 1), some (xa_i 0), some (xa_i 1)] dX4_loadFrom_7 (by decide) (by simp) rfl rfl ?_
  refine xa_iload_n (pc := 8) dX4_loadFrom_8 rfl ?_
  refine xa_aload_n (pc := 9) dX4_loadFrom_9 rfl ?_
  refine xa_getfield (pc := 10) dX4_loadFrom_10 flRX4_9 (by omega) (by omega) hS0 rfl ?_
  refine xa_alen (pc := 13) dX4_loadFrom_13 (by omega) hS1 ?_
  refine xa_top (y := 3) rfl ?_
  refine xa_icmp_ge (pc := 14) (tgt := 51) dX4_loadFrom_14 (by decide) (by decide) (by decide) (fun c_14 => ?_) (fun c_14 => ?_)
  · skip
    exfalso; omega
  · skip
    refine xa_iload_n (pc := 17) dX4_loadFrom_17 rfl ?_
    refine xa_aload_n (pc := 18) dX4_loadFrom_18 rfl ?_
    refine xa_getfield (pc := 19) dX4_loadFrom_19 flRX4_18 (by omega) (by omega) hS0 rfl ?_
    refine xa_getfield (pc := 22) dX4_loadFrom_22 flRX4_37 (by omega) (by omega) hB0 rfl ?_
    refine xa_icmp_ge (pc := 25) (tgt := 51) dX4_loadFrom_25 (by decide) (by decide) ⟨by omega, by omega⟩ (fun c_25 => ?_) (fun c_25 => ?_)
    · skip
      refine xa_iload_n (pc := 51) dX4_loadFrom_51 rfl ?_
      refine xa_ireturn (pc := 52) dX4_loadFrom_52 rfl trivial ?_
      exact ⟨congrArg (fun z => some (xa_i z)) (show 0 = sp_from ld po pa 1 by unfold sp_from; (repeat' split) <;> omega), rfl⟩
    · skip
      refine xa_iload_n (pc := 28) dX4_loadFrom_28 rfl ?_
      refine xa_aload_n (pc := 29) dX4_loadFrom_29 rfl ?_
      refine xa_getfield (pc := 30) dX4_loadFrom_30 flRX4_18 (by omega) (by omega) hS0 rfl ?_
      refine xa_iload_n (pc := 33) dX4_loadFrom_33 rfl ?_
      refine xa_aload_n (pc := 34) dX4_loadFrom_34 rfl ?_
      refine xa_getfield (pc := 35) dX4_loadFrom_35 flRX4_9 (by omega) (by omega) hS0 rfl ?_
      refine xa_iload_n (pc := 38) dX4_loadFrom_38 rfl ?_
      refine xa_ialdw (pc := 39) 1 dX4_loadFrom_39 (by omega) hS1 (by omega) (by omega) rfl ?_
      have b_39 := hpo 1
      refine xa_callV (pc := 40) (as := [xa_i 1, xa_i (po 1)]) (rest := [xa_i 0]) dX4_loadFrom_40 ⟨qX0_loadOf.1, qX0_loadOf.2.1, qX0_loadOf.2.2, by decide, by decide⟩ lkRX4_50 imX0_loadOf seX0_loadOf rfl rfl (by omega) (by omega) hB0 rfl (Nat.le_of_ble_eq_true rfl) (Nat.zero_le _) (Nat.zero_le _) (c_loadOf _ _ _ _ _ _ _ _ _ _ _ (by omega) ⟨by omega, by omega⟩ ⟨hB0, hB1, hB2, by omega, by omega⟩) (fun r h' hq => ?_)
      obtain ⟨rfl, hq⟩ := hq
      have hq := hq.symm
      subst hq
      refine xa_iadd (pc := 43) dX4_loadFrom_43 ?_
      refine xa_istoren (pc := 44) [some (xa_r k), some (xa_i 1), some (xa_i (0 + (sp_ld ld 1 (po 1)))), some (xa_i 1)] dX4_loadFrom_44 (by decide) (by simp) rfl rfl ?_
      refine xa_iincw (pc := 45) (y := 2) [some (xa_r k), some (xa_i 1), some (xa_i (0 + (sp_ld ld 1 (po 1)))), some (xa_i 2)] dX4_loadFrom_45 (by decide) rfl rfl rfl rfl ?_
      refine xa_goto (pc := 48) (tgt := 8) dX4_loadFrom_48 (by decide) ?_
      refine xa_iload_n (pc := 8) dX4_loadFrom_8 rfl ?_
      refine xa_aload_n (pc := 9) dX4_loadFrom_9 rfl ?_
      refine xa_getfield (pc := 10) dX4_loadFrom_10 flRX4_9 (by omega) (by omega) hS0 rfl ?_
      refine xa_alen (pc := 13) dX4_loadFrom_13 (by omega) hS1 ?_
      refine xa_top (y := 3) rfl ?_
      refine xa_icmp_ge (pc := 14) (tgt := 51) dX4_loadFrom_14 (by decide) (by decide) (by decide) (fun c_14 => ?_) (fun c_14 => ?_)
      · skip
        exfalso; omega
      · skip
        refine xa_iload_n (pc := 17) dX4_loadFrom_17 rfl ?_
        refine xa_aload_n (pc := 18) dX4_loadFrom_18 rfl ?_
        refine xa_getfield (pc := 19) dX4_loadFrom_19 flRX4_18 (by omega) (by omega) hS0 rfl ?_
        refine xa_getfield (pc := 22) dX4_loadFrom_22 flRX4_37 (by omega) (by omega) hB0 rfl ?_
        refine xa_icmp_ge (pc := 25) (tgt := 51) dX4_loadFrom_25 (by decide) (by decide) ⟨by omega, by omega⟩ (fun c_25 => ?_) (fun c_25 => ?_)
        · skip
          refine xa_iload_n (pc := 51) dX4_loadFrom_51 rfl ?_
          refine xa_ireturn (pc := 52) dX4_loadFrom_52 rfl trivial ?_
          exact ⟨congrArg (fun z => some (xa_i z)) (show 0 + (sp_ld ld 1 (po 1)) = sp_from ld po pa 1 by unfold sp_from; (repeat' split) <;> omega), rfl⟩
        · skip
          refine xa_iload_n (pc := 28) dX4_loadFrom_28 rfl ?_
          refine xa_aload_n (pc := 29) dX4_loadFrom_29 rfl ?_
          refine xa_getfield (pc := 30) dX4_loadFrom_30 flRX4_18 (by omega) (by omega) hS0 rfl ?_
          refine xa_iload_n (pc := 33) dX4_loadFrom_33 rfl ?_
          refine xa_aload_n (pc := 34) dX4_loadFrom_34 rfl ?_
          refine xa_getfield (pc := 35) dX4_loadFrom_35 flRX4_9 (by omega) (by omega) hS0 rfl ?_
          refine xa_iload_n (pc := 38) dX4_loadFrom_38 rfl ?_
          refine xa_ialdw (pc := 39) 2 dX4_loadFrom_39 (by omega) hS1 (by omega) (by omega) rfl ?_
          have b_39 := hpo 2
          refine xa_callV (pc := 40) (as := [xa_i 2, xa_i (po 2)]) (rest := [xa_i (0 + (sp_ld ld 1 (po 1)))]) dX4_loadFrom_40 ⟨qX0_loadOf.1, qX0_loadOf.2.1, qX0_loadOf.2.2, by decide, by decide⟩ lkRX4_50 imX0_loadOf seX0_loadOf rfl rfl (by omega) (by omega) hB0 rfl (Nat.le_of_ble_eq_true rfl) (Nat.zero_le _) (Nat.zero_le _) (c_loadOf _ _ _ _ _ _ _ _ _ _ _ (by omega) ⟨by omega, by omega⟩ ⟨hB0, hB1, hB2, by omega, by omega⟩) (fun r h' hq => ?_)
          obtain ⟨rfl, hq⟩ := hq
          have hq := hq.symm
          subst hq
          refine xa_iadd (pc := 43) dX4_loadFrom_43 ?_
          refine xa_istoren (pc := 44) [some (xa_r k), some (xa_i 1), some (xa_i ((0 + (sp_ld ld 1 (po 1))) + (sp_ld ld 2 (po 2)))), some (xa_i 2)] dX4_loadFrom_44 (by decide) (by simp) rfl rfl ?_
          refine xa_iincw (pc := 45) (y := 3) [some (xa_r k), some (xa_i 1), some (xa_i ((0 + (sp_ld ld 1 (po 1))) + (sp_ld ld 2 (po 2)))), some (xa_i 3)] dX4_loadFrom_45 (by decide) rfl rfl rfl rfl ?_
          refine xa_goto (pc := 48) (tgt := 8) dX4_loadFrom_48 (by decide) ?_
          refine xa_iload_n (pc := 8) dX4_loadFrom_8 rfl ?_
          refine xa_aload_n (pc := 9) dX4_loadFrom_9 rfl ?_
          refine xa_getfield (pc := 10) dX4_loadFrom_10 flRX4_9 (by omega) (by omega) hS0 rfl ?_
          refine xa_alen (pc := 13) dX4_loadFrom_13 (by omega) hS1 ?_
          refine xa_top (y := 3) rfl ?_
          refine xa_icmp_ge (pc := 14) (tgt := 51) dX4_loadFrom_14 (by decide) (by decide) (by decide) (fun c_14 => ?_) (fun c_14 => ?_)
          · skip
            refine xa_iload_n (pc := 51) dX4_loadFrom_51 rfl ?_
            refine xa_ireturn (pc := 52) dX4_loadFrom_52 rfl trivial ?_
            exact ⟨congrArg (fun z => some (xa_i z)) (show (0 + (sp_ld ld 1 (po 1))) + (sp_ld ld 2 (po 2)) = sp_from ld po pa 1 by unfold sp_from; (repeat' split) <;> omega), rfl⟩
          · skip
            exfalso; omega
theorem c_loadFrom2 {G : xa_G} {h : xa_H} (k kb : Nat) (po sp : Nat → Int) (tj tb : Int) (ld dg : Nat → Int) (pa jo : Nat) (wa sr pu ri : Int) (hS : xS h k kb po sp tj tb) (hB : xB h kb ld dg pa jo wa sr pu ri) (hkk : kb + 3 ≤ k) (hpa : pa ≤ 3) (hjo : jo ≤ 2) (hpo : ∀ i, 0 ≤ po i ∧ po i ≤ 2)  : xa_M G mX4_loadFrom [xa_r k, xa_i 2] h 0 0 (fun r h' => r = some (xa_i (sp_from ld po pa 2)) ∧ h' = h) := by
  refine xa_enter (by decide +kernel) (Nat.le_of_ble_eq_true rfl) ?_
  refine xa_locals (ls' := [some (xa_r k), some (xa_i 2), none, none]) rfl ?_
  obtain ⟨hS0, hS1, hS2, hSk, hSn⟩ := hS
  obtain ⟨hB0, hB1, hB2, hBk, hBn⟩ := hB
  refine xa_iconst (pc := 0) dX4_loadFrom_0 ?_
  refine xa_istoren (pc := 1) [some (xa_r k), some (xa_i 2), some (xa_i 0), none] dX4_loadFrom_1 (by decide) (by simp) rfl rfl ?_
  refine xa_iload_n (pc := 2) dX4_loadFrom_2 rfl ?_
  refine xa_iconst (pc := 3) dX4_loadFrom_3 ?_
  refine xa_callS (pc := 4) (as := [xa_i 2, xa_i 0]) (rest := []) dX4_loadFrom_4 ⟨qJ9_max_7cf53.1, qJ9_max_7cf53.2.1, qJ9_max_7cf53.2.2, by decide, by decide⟩ lkRX4_44 smJ9_max_7cf53 rfl rfl (Nat.le_of_ble_eq_true rfl) (Nat.zero_le _) (Nat.zero_le _) (c_max _ _ (by decide) (by decide)) (fun r h' hq => ?_)
  obtain ⟨rfl, hq⟩ := hq
  have hq := hq.symm
  subst hq
  refine xa_top (y := 2) (by decide) ?_
  refine xa_istoren (pc := 7) [some (xa_r k), some (xa_i 2), some (xa_i 0), some (xa_i 2)] dX4_loadFrom_7 (by decide) (by simp) rfl rfl ?_
  refine xa_iload_n (pc := 8) dX4_loadFrom_8 rfl ?_
  refine xa_aload_n (pc := 9) dX4_loadFrom_9 rfl ?_
  refine xa_getfield (pc := 10) dX4_loadFrom_10 flRX4_9 (by omega) (by omega) hS0 rfl ?_
  refine xa_alen (pc := 13) dX4_loadFrom_13 (by omega) hS1 ?_
  refine xa_top (y := 3) rfl ?_
  refine xa_icmp_ge (pc := 14) (tgt := 51) dX4_loadFrom_14 (by decide) (by decide) (by decide) (fun c_14 => ?_) (fun c_14 => ?_)
  · skip
    exfalso; omega
  · skip
    refine xa_iload_n (pc := 17) dX4_loadFrom_17 rfl ?_
    refine xa_aload_n (pc := 18) dX4_loadFrom_18 rfl ?_
    refine xa_getfield (pc := 19) dX4_loadFrom_19 flRX4_18 (by omega) (by omega) hS0 rfl ?_
    refine xa_getfield (pc := 22) dX4_loadFrom_22 flRX4_37 (by omega) (by omega) hB0 rfl ?_
    refine xa_icmp_ge (pc := 25) (tgt := 51) dX4_loadFrom_25 (by decide) (by decide) ⟨by omega, by omega⟩ (fun c_25 => ?_) (fun c_25 => ?_)
    · skip
      refine xa_iload_n (pc := 51) dX4_loadFrom_51 rfl ?_
      refine xa_ireturn (pc := 52) dX4_loadFrom_52 rfl trivial ?_
      exact ⟨congrArg (fun z => some (xa_i z)) (show 0 = sp_from ld po pa 2 by unfold sp_from; (repeat' split) <;> omega), rfl⟩
    · skip
      refine xa_iload_n (pc := 28) dX4_loadFrom_28 rfl ?_
      refine xa_aload_n (pc := 29) dX4_loadFrom_29 rfl ?_
      refine xa_getfield (pc := 30) dX4_loadFrom_30 flRX4_18 (by omega) (by omega) hS0 rfl ?_
      refine xa_iload_n (pc := 33) dX4_loadFrom_33 rfl ?_
      refine xa_aload_n (pc := 34) dX4_loadFrom_34 rfl ?_
      refine xa_getfield (pc := 35) dX4_loadFrom_35 flRX4_9 (by omega) (by omega) hS0 rfl ?_
      refine xa_iload_n (pc := 38) dX4_loadFrom_38 rfl ?_
      refine xa_ialdw (pc := 39) 2 dX4_loadFrom_39 (by omega) hS1 (by omega) (by omega) rfl ?_
      have b_39 := hpo 2
      refine xa_callV (pc := 40) (as := [xa_i 2, xa_i (po 2)]) (rest := [xa_i 0]) dX4_loadFrom_40 ⟨qX0_loadOf.1, qX0_loadOf.2.1, qX0_loadOf.2.2, by decide, by decide⟩ lkRX4_50 imX0_loadOf seX0_loadOf rfl rfl (by omega) (by omega) hB0 rfl (Nat.le_of_ble_eq_true rfl) (Nat.zero_le _) (Nat.zero_le _) (c_loadOf _ _ _ _ _ _ _ _ _ _ _ (by omega) ⟨by omega, by omega⟩ ⟨hB0, hB1, hB2, by omega, by omega⟩) (fun r h' hq => ?_)
      obtain ⟨rfl, hq⟩ := hq
      have hq := hq.symm
      subst hq
      refine xa_iadd (pc := 43) dX4_loadFrom_43 ?_
      refine xa_istoren (pc := 44) [some (xa_r k), some (xa_i 2), some (xa_i (0 + (sp_ld ld 2 (po 2)))), some (xa_i 2)] dX4_loadFrom_44 (by decide) (by simp) rfl rfl ?_
      refine xa_iincw (pc := 45) (y := 3) [some (xa_r k), some (xa_i 2), some (xa_i (0 + (sp_ld ld 2 (po 2)))), some (xa_i 3)] dX4_loadFrom_45 (by decide) rfl rfl rfl rfl ?_
      refine xa_goto (pc := 48) (tgt := 8) dX4_loadFrom_48 (by decide) ?_
      refine xa_iload_n (pc := 8) dX4_loadFrom_8 rfl ?_
      refine xa_aload_n (pc := 9) dX4_loadFrom_9 rfl ?_
      refine xa_getfield (pc := 10) dX4_loadFrom_10 flRX4_9 (by omega) (by omega) hS0 rfl ?_
      refine xa_alen (pc := 13) dX4_loadFrom_13 (by omega) hS1 ?_
      refine xa_top (y := 3) rfl ?_
      refine xa_icmp_ge (pc := 14) (tgt := 51) dX4_loadFrom_14 (by decide) (by decide) (by decide) (fun c_14 => ?_) (fun c_14 => ?_)
      · skip
        refine xa_iload_n (pc := 51) dX4_loadFrom_51 rfl ?_
        refine xa_ireturn (pc := 52) dX4_loadFrom_52 rfl trivial ?_
        exact ⟨congrArg (fun z => some (xa_i z)) (show 0 + (sp_ld ld 2 (po 2)) = sp_from ld po pa 2 by unfold sp_from; (repeat' split) <;> omega), rfl⟩
      · skip
        exfalso; omega
theorem c_loadFrom {G : xa_G} {h : xa_H} (k kb : Nat) (po sp : Nat → Int) (tj tb : Int) (ld dg : Nat → Int) (pa jo : Nat) (wa sr pu ri : Int) (p : Int) (hp : p = 0 ∨ p = 1 ∨ p = 2) (hS : xS h k kb po sp tj tb) (hB : xB h kb ld dg pa jo wa sr pu ri) (hkk : kb + 3 ≤ k) (hpa : pa ≤ 3) (hjo : jo ≤ 2) (hpo : ∀ i, 0 ≤ po i ∧ po i ≤ 2) : xa_M G mX4_loadFrom [xa_r k, xa_i p] h 0 0 (fun r h' => r = some (xa_i (sp_from ld po pa p)) ∧ h' = h) := by
  rcases hp with rfl | rfl | rfl
  · exact c_loadFrom0 _ _ _ _ _ _ _ _ _ _ _ _ _ _ hS hB hkk hpa hjo hpo
  · exact c_loadFrom1 _ _ _ _ _ _ _ _ _ _ _ _ _ _ hS hB hkk hpa hjo hpo
  · exact c_loadFrom2 _ _ _ _ _ _ _ _ _ _ _ _ _ _ hS hB hkk hpa hjo hpo

theorem c_bentTo {G : xa_G} {h : xa_H} (k kb : Nat) (po sp : Nat → Int) (tj tb : Int) (ld dg : Nat → Int) (pa jo : Nat) (wa sr pu ri : Int) (p : Int) (hp : 0 ≤ p ∧ p ≤ 2) (hS : xS h k kb po sp tj tb) (hB : xB h kb ld dg pa jo wa sr pu ri) (hkk : kb + 3 ≤ k) (hpa : pa ≤ 3) (hjo : jo ≤ 2) (hsp : ∀ i, -2 ≤ sp i ∧ sp i ≤ 12)  : xa_M G mX4_bentTo [xa_r k, xa_i p] h 0 0 (fun r h' => r = some (xa_i (sp_bent dg sp jo p)) ∧ h' = h) := by
  refine xa_enter (by decide +kernel) (Nat.le_of_ble_eq_true rfl) ?_
  refine xa_locals (ls' := [some (xa_r k), some (xa_i p), none, none]) rfl ?_
  obtain ⟨hS0, hS1, hS2, hSk, hSn⟩ := hS
  obtain ⟨hB0, hB1, hB2, hBk, hBn⟩ := hB
  refine xa_iconst (pc := 0) dX4_bentTo_0 ?_
  refine xa_istoren (pc := 1) [some (xa_r k), some (xa_i p), some (xa_i 0), none] dX4_bentTo_1 (by decide) (by simp) rfl rfl ?_
  refine xa_iconst (pc := 2) dX4_bentTo_2 ?_
  refine xa_istoren (pc := 3) [some (xa_r k), some (xa_i p), some (xa_i 0), some (xa_i 0)] dX4_bentTo_3 (by decide) (by simp) rfl rfl ?_
  refine xa_iload_n (pc := 4) dX4_bentTo_4 rfl ?_
  refine xa_aload_n (pc := 5) dX4_bentTo_5 rfl ?_
  refine xa_getfield (pc := 6) dX4_bentTo_6 flRX4_15 (by omega) (by omega) hS0 rfl ?_
  refine xa_alen (pc := 9) dX4_bentTo_9 (by omega) hS2 ?_
  refine xa_top (y := 2) rfl ?_
  refine xa_icmp_ge (pc := 10) (tgt := 53) dX4_bentTo_10 (by decide) (by decide) (by decide) (fun c_10 => ?_) (fun c_10 => ?_)
  · skip
    exfalso; omega
  · skip
    refine xa_iload_n (pc := 13) dX4_bentTo_13 rfl ?_
    refine xa_aload_n (pc := 14) dX4_bentTo_14 rfl ?_
    refine xa_getfield (pc := 15) dX4_bentTo_15 flRX4_18 (by omega) (by omega) hS0 rfl ?_
    refine xa_getfield (pc := 18) dX4_bentTo_18 flRX4_32 (by omega) (by omega) hB0 rfl ?_
    refine xa_icmp_ge (pc := 21) (tgt := 53) dX4_bentTo_21 (by decide) (by decide) ⟨by omega, by omega⟩ (fun c_21 => ?_) (fun c_21 => ?_)
    · skip
      refine xa_iload_n (pc := 53) dX4_bentTo_53 rfl ?_
      refine xa_ireturn (pc := 54) dX4_bentTo_54 rfl trivial ?_
      exact ⟨congrArg (fun z => some (xa_i z)) (show 0 = sp_bent dg sp jo p by unfold sp_bent; (repeat' split) <;> omega), rfl⟩
    · skip
      refine xa_iload_n (pc := 24) dX4_bentTo_24 rfl ?_
      refine xa_iload_n (pc := 25) dX4_bentTo_25 rfl ?_
      refine xa_icmp_ge (pc := 26) (tgt := 53) dX4_bentTo_26 (by decide) (by decide) ⟨by omega, by omega⟩ (fun c_26 => ?_) (fun c_26 => ?_)
      · skip
        refine xa_iload_n (pc := 53) dX4_bentTo_53 rfl ?_
        refine xa_ireturn (pc := 54) dX4_bentTo_54 rfl trivial ?_
        exact ⟨congrArg (fun z => some (xa_i z)) (show 0 = sp_bent dg sp jo p by unfold sp_bent; (repeat' split) <;> omega), rfl⟩
      · skip
        refine xa_iload_n (pc := 29) dX4_bentTo_29 rfl ?_
        refine xa_aload_n (pc := 30) dX4_bentTo_30 rfl ?_
        refine xa_getfield (pc := 31) dX4_bentTo_31 flRX4_18 (by omega) (by omega) hS0 rfl ?_
        refine xa_iload_n (pc := 34) dX4_bentTo_34 rfl ?_
        refine xa_callV (pc := 35) (as := [xa_i 0]) (rest := [xa_i 0]) dX4_bentTo_35 ⟨qX0_stepOf.1, qX0_stepOf.2.1, qX0_stepOf.2.2, by decide, by decide⟩ lkRX4_53 imX0_stepOf seX0_stepOf rfl rfl (by omega) (by omega) hB0 rfl (Nat.le_of_ble_eq_true rfl) (Nat.zero_le _) (Nat.zero_le _) (c_stepOf _ _ _ _ _ _ _ _ _ _ (by decide) ⟨hB0, hB1, hB2, by omega, by omega⟩) (fun r h' hq => ?_)
        obtain ⟨rfl, hq⟩ := hq
        have hq := hq.symm
        subst hq
        refine xa_aload_n (pc := 38) dX4_bentTo_38 rfl ?_
        refine xa_getfield (pc := 39) dX4_bentTo_39 flRX4_15 (by omega) (by omega) hS0 rfl ?_
        refine xa_iload_n (pc := 42) dX4_bentTo_42 rfl ?_
        refine xa_ialdw (pc := 43) 0 dX4_bentTo_43 (by omega) hS2 (by omega) (by omega) rfl ?_
        have b_43 := hsp 0
        refine xa_imul (pc := 44) dX4_bentTo_44 ?_
        refine xa_iadd (pc := 45) dX4_bentTo_45 ?_
        refine xa_istoren (pc := 46) [some (xa_r k), some (xa_i p), some (xa_i (0 + ((sp_dg dg 0) * (sp 0)))), some (xa_i 0)] dX4_bentTo_46 (by decide) (by simp) rfl rfl ?_
        refine xa_iincw (pc := 47) (y := 1) [some (xa_r k), some (xa_i p), some (xa_i (0 + ((sp_dg dg 0) * (sp 0)))), some (xa_i 1)] dX4_bentTo_47 (by decide) rfl rfl rfl rfl ?_
        refine xa_goto (pc := 50) (tgt := 4) dX4_bentTo_50 (by decide) ?_
        refine xa_iload_n (pc := 4) dX4_bentTo_4 rfl ?_
        refine xa_aload_n (pc := 5) dX4_bentTo_5 rfl ?_
        refine xa_getfield (pc := 6) dX4_bentTo_6 flRX4_15 (by omega) (by omega) hS0 rfl ?_
        refine xa_alen (pc := 9) dX4_bentTo_9 (by omega) hS2 ?_
        refine xa_top (y := 2) rfl ?_
        refine xa_icmp_ge (pc := 10) (tgt := 53) dX4_bentTo_10 (by decide) (by decide) (by decide) (fun c_10 => ?_) (fun c_10 => ?_)
        · skip
          exfalso; omega
        · skip
          refine xa_iload_n (pc := 13) dX4_bentTo_13 rfl ?_
          refine xa_aload_n (pc := 14) dX4_bentTo_14 rfl ?_
          refine xa_getfield (pc := 15) dX4_bentTo_15 flRX4_18 (by omega) (by omega) hS0 rfl ?_
          refine xa_getfield (pc := 18) dX4_bentTo_18 flRX4_32 (by omega) (by omega) hB0 rfl ?_
          refine xa_icmp_ge (pc := 21) (tgt := 53) dX4_bentTo_21 (by decide) (by decide) ⟨by omega, by omega⟩ (fun c_21 => ?_) (fun c_21 => ?_)
          · skip
            refine xa_iload_n (pc := 53) dX4_bentTo_53 rfl ?_
            refine xa_ireturn (pc := 54) dX4_bentTo_54 rfl trivial ?_
            exact ⟨congrArg (fun z => some (xa_i z)) (show 0 + ((sp_dg dg 0) * (sp 0)) = sp_bent dg sp jo p by unfold sp_bent; (repeat' split) <;> omega), rfl⟩
          · skip
            refine xa_iload_n (pc := 24) dX4_bentTo_24 rfl ?_
            refine xa_iload_n (pc := 25) dX4_bentTo_25 rfl ?_
            refine xa_icmp_ge (pc := 26) (tgt := 53) dX4_bentTo_26 (by decide) (by decide) ⟨by omega, by omega⟩ (fun c_26 => ?_) (fun c_26 => ?_)
            · skip
              refine xa_iload_n (pc := 53) dX4_bentTo_53 rfl ?_
              refine xa_ireturn (pc := 54) dX4_bentTo_54 rfl trivial ?_
              exact ⟨congrArg (fun z => some (xa_i z)) (show 0 + ((sp_dg dg 0) * (sp 0)) = sp_bent dg sp jo p by unfold sp_bent; (repeat' split) <;> omega), rfl⟩
            · skip
              refine xa_iload_n (pc := 29) dX4_bentTo_29 rfl ?_
              refine xa_aload_n (pc := 30) dX4_bentTo_30 rfl ?_
              refine xa_getfield (pc := 31) dX4_bentTo_31 flRX4_18 (by omega) (by omega) hS0 rfl ?_
              refine xa_iload_n (pc := 34) dX4_bentTo_34 rfl ?_
              refine xa_callV (pc := 35) (as := [xa_i 1]) (rest := [xa_i (0 + ((sp_dg dg 0) * (sp 0)))]) dX4_bentTo_35 ⟨qX0_stepOf.1, qX0_stepOf.2.1, qX0_stepOf.2.2, by decide, by decide⟩ lkRX4_53 imX0_stepOf seX0_stepOf rfl rfl (by omega) (by omega) hB0 rfl (Nat.le_of_ble_eq_true rfl) (Nat.zero_le _) (Nat.zero_le _) (c_stepOf _ _ _ _ _ _ _ _ _ _ (by decide) ⟨hB0, hB1, hB2, by omega, by omega⟩) (fun r h' hq => ?_)
              obtain ⟨rfl, hq⟩ := hq
              have hq := hq.symm
              subst hq
              refine xa_aload_n (pc := 38) dX4_bentTo_38 rfl ?_
              refine xa_getfield (pc := 39) dX4_bentTo_39 flRX4_15 (by omega) (by omega) hS0 rfl ?_
              refine xa_iload_n (pc := 42) dX4_bentTo_42 rfl ?_
              refine xa_ialdw (pc := 43) 1 dX4_bentTo_43 (by omega) hS2 (by omega) (by omega) rfl ?_
              have b_43 := hsp 1
              refine xa_imul (pc := 44) dX4_bentTo_44 ?_
              refine xa_iadd (pc := 45) dX4_bentTo_45 ?_
              refine xa_istoren (pc := 46) [some (xa_r k), some (xa_i p), some (xa_i ((0 + ((sp_dg dg 0) * (sp 0))) + ((sp_dg dg 1) * (sp 1)))), some (xa_i 1)] dX4_bentTo_46 (by decide) (by simp) rfl rfl ?_
              refine xa_iincw (pc := 47) (y := 2) [some (xa_r k), some (xa_i p), some (xa_i ((0 + ((sp_dg dg 0) * (sp 0))) + ((sp_dg dg 1) * (sp 1)))), some (xa_i 2)] dX4_bentTo_47 (by decide) rfl rfl rfl rfl ?_
              refine xa_goto (pc := 50) (tgt := 4) dX4_bentTo_50 (by decide) ?_
              refine xa_iload_n (pc := 4) dX4_bentTo_4 rfl ?_
              refine xa_aload_n (pc := 5) dX4_bentTo_5 rfl ?_
              refine xa_getfield (pc := 6) dX4_bentTo_6 flRX4_15 (by omega) (by omega) hS0 rfl ?_
              refine xa_alen (pc := 9) dX4_bentTo_9 (by omega) hS2 ?_
              refine xa_top (y := 2) rfl ?_
              refine xa_icmp_ge (pc := 10) (tgt := 53) dX4_bentTo_10 (by decide) (by decide) (by decide) (fun c_10 => ?_) (fun c_10 => ?_)
              · skip
                refine xa_iload_n (pc := 53) dX4_bentTo_53 rfl ?_
                refine xa_ireturn (pc := 54) dX4_bentTo_54 rfl trivial ?_
                exact ⟨congrArg (fun z => some (xa_i z)) (show (0 + ((sp_dg dg 0) * (sp 0))) + ((sp_dg dg 1) * (sp 1)) = sp_bent dg sp jo p by unfold sp_bent; (repeat' split) <;> omega), rfl⟩
              · skip
                exfalso; omega
def sp_last (ld po : Nat → Int) (pa : Nat) (tj tb : Int) : Int := if tb = 0 then 0 else -((tb * sp_from ld po pa (tj + 1)).tdiv (sp_from ld po pa 0))
theorem c_lastTurn {G : xa_G} {h : xa_H} (k kb : Nat) (po sp : Nat → Int) (tj tb : Int) (ld dg : Nat → Int) (pa jo : Nat) (wa sr pu ri : Int) (hS : xS h k kb po sp tj tb) (hB : xB h kb ld dg pa jo wa sr pu ri) (hkk : kb + 3 ≤ k) (hpa : pa ≤ 3) (hjo : jo ≤ 2) (hpo : ∀ i, 0 ≤ po i ∧ po i ≤ 2) (hld : ∀ i, 0 ≤ ld i ∧ ld i ≤ 99) (htj : tj = 0 ∨ tj = 1) (htb : -120 ≤ tb ∧ tb ≤ 120)  : xa_M G mX4_lastTurn [xa_r k] h 0 0 (fun r h' => r = some (xa_i (sp_last ld po pa tj tb)) ∧ h' = h) := by
  refine xa_enter (by decide +kernel) (Nat.le_of_ble_eq_true rfl) ?_
  refine xa_locals (ls' := [some (xa_r k)]) rfl ?_
  obtain ⟨hS0, hS1, hS2, hSk, hSn⟩ := hS
  obtain ⟨hB0, hB1, hB2, hBk, hBn⟩ := hB
  refine xa_aload_n (pc := 0) dX4_lastTurn_0 rfl ?_
  refine xa_getfield (pc := 1) dX4_lastTurn_1 flRX4_28 (by omega) (by omega) hS0 rfl ?_
  refine xa_if_ne (pc := 4) (tgt := 11) dX4_lastTurn_4 (by decide) ⟨by omega, by omega⟩ (fun c_4 => ?_) (fun c_4 => ?_)
  · skip
    refine xa_aload_n (pc := 11) dX4_lastTurn_11 rfl ?_
    refine xa_getfield (pc := 12) dX4_lastTurn_12 flRX4_28 (by omega) (by omega) hS0 rfl ?_
    refine xa_aload_n (pc := 15) dX4_lastTurn_15 rfl ?_
    refine xa_aload_n (pc := 16) dX4_lastTurn_16 rfl ?_
    refine xa_getfield (pc := 17) dX4_lastTurn_17 flRX4_57 (by omega) (by omega) hS0 rfl ?_
    refine xa_iconst (pc := 20) dX4_lastTurn_20 ?_
    refine xa_iadd (pc := 21) dX4_lastTurn_21 ?_
    refine xa_callV (pc := 22) (as := [xa_i (tj + 1)]) (rest := [xa_i tb]) dX4_lastTurn_22 ⟨qX4_loadFrom.1, qX4_loadFrom.2.1, qX4_loadFrom.2.2, by decide, by decide⟩ lkRX4_60 imX4_loadFrom seX4_loadFrom rfl rfl (by omega) (by omega) hS0 rfl (Nat.le_of_ble_eq_true rfl) (Nat.zero_le _) (Nat.zero_le _) (c_loadFrom _ _ _ _ _ _ _ _ _ _ _ _ _ _ _ (by omega) ⟨hS0, hS1, hS2, by omega, by omega⟩ ⟨hB0, hB1, hB2, by omega, by omega⟩ hkk hpa hjo hpo) (fun r h' hq => ?_)
    obtain ⟨rfl, hq⟩ := hq
    have hq := hq.symm
    subst hq
    refine xa_imul (pc := 25) dX4_lastTurn_25 ?_
    refine xa_aload_n (pc := 26) dX4_lastTurn_26 rfl ?_
    refine xa_iconst (pc := 27) dX4_lastTurn_27 ?_
    refine xa_callV (pc := 28) (as := [xa_i 0]) (rest := [xa_i (tb * (sp_from ld po pa (tj + 1)))]) dX4_lastTurn_28 ⟨qX4_loadFrom.1, qX4_loadFrom.2.1, qX4_loadFrom.2.2, by decide, by decide⟩ lkRX4_60 imX4_loadFrom seX4_loadFrom rfl rfl (by omega) (by omega) hS0 rfl (Nat.le_of_ble_eq_true rfl) (Nat.zero_le _) (Nat.zero_le _) (c_loadFrom _ _ _ _ _ _ _ _ _ _ _ _ _ _ _ (by omega) ⟨hS0, hS1, hS2, by omega, by omega⟩ ⟨hB0, hB1, hB2, by omega, by omega⟩ hkk hpa hjo hpo) (fun r h' hq => ?_)
    obtain ⟨rfl, hq⟩ := hq
    have hq := hq.symm
    subst hq
    have f0 := sp_from_b hld po pa 0
    have f1 := sp_from_b hld po pa (tj + 1)
    refine xa_callS (pc := 31) (as := [xa_i (tb * (sp_from ld po pa (tj + 1))), xa_i (sp_from ld po pa 0)]) (rest := []) dX4_lastTurn_31 ⟨qX9_cut.1, qX9_cut.2.1, qX9_cut.2.2, by decide, by decide⟩ lkRX4_63 smX9_cut rfl rfl (Nat.le_of_ble_eq_true rfl) (Nat.zero_le _) (Nat.zero_le _) (c_cut _ _ (xa_okm (by omega) (by omega)) ⟨by omega, by omega⟩) (fun r h' hq => ?_)
    obtain ⟨rfl, hq⟩ := hq
    have hq := hq.symm
    subst hq
    refine xa_ineg (pc := 34) dX4_lastTurn_34 ?_
    refine xa_ireturn (pc := 35) dX4_lastTurn_35 rfl trivial ?_
    exact ⟨congrArg (fun z => some (xa_i z)) (show -((tb * (sp_from ld po pa (tj + 1))).tdiv (sp_from ld po pa 0)) = sp_last ld po pa tj tb by (unfold sp_last; first | (rw [if_pos (by omega)]; done) | (rw [if_neg (by omega)]; done))), rfl⟩
  · skip
    refine xa_iconst (pc := 7) dX4_lastTurn_7 ?_
    refine xa_goto (pc := 8) (tgt := 35) dX4_lastTurn_8 (by decide) ?_
    refine xa_ireturn (pc := 35) dX4_lastTurn_35 rfl trivial ?_
    exact ⟨congrArg (fun z => some (xa_i z)) (show 0 = sp_last ld po pa tj tb by (unfold sp_last; first | (rw [if_pos (by omega)]; done) | (rw [if_neg (by omega)]; done))), rfl⟩
theorem c_rest {G : xa_G} {h : xa_H} (k kb : Nat) (po sp : Nat → Int) (tj tb : Int) (ld dg : Nat → Int) (pa jo : Nat) (wa sr pu ri : Int) (hS : xS h k kb po sp tj tb) (hB : xB h kb ld dg pa jo wa sr pu ri) (hkk : kb + 3 ≤ k) (hpa : pa ≤ 3) (hjo : jo ≤ 2)  : xa_M G mX4_rest [xa_r k] h 0 0 (fun r h' => r = none ∧ xS h' k kb (xa_fl po 3 1) (xa_fl sp 2 0) tj 0 ∧ h'.2 = h.2 ∧ ∀ i, (i < k ∨ k + 3 ≤ i) → h'.1 i = h.1 i) := by
  refine xa_enter (by decide +kernel) (Nat.le_of_ble_eq_true rfl) ?_
  refine xa_locals (ls' := [some (xa_r k)]) rfl ?_
  have hn : h.2 = h.2 := rfl
  have fr : ∀ i, (i < k ∨ k + 3 ≤ i) → h.1 i = h.1 i := fun _ _ => rfl
  obtain ⟨hS0, hS1, hS2, hSk, hSn⟩ := hS
  obtain ⟨hB0, hB1, hB2, hBk, hBn⟩ := hB
  refine xa_aload_n (pc := 0) dX4_rest_0 rfl ?_
  refine xa_getfield (pc := 1) dX4_rest_1 flRX4_9 (by omega) (by omega) hS0 rfl ?_
  refine xa_iconst (pc := 4) dX4_rest_4 ?_
  refine xa_callS (pc := 5) (as := [xa_r (k + 1), xa_i 1]) (rest := []) dX4_rest_5 ⟨qJ7_fill_53178.1, qJ7_fill_53178.2.1, qJ7_fill_53178.2.2, by decide, by decide⟩ lkRX4_22 smJ7_fill_53178 rfl rfl (Nat.le_of_ble_eq_true rfl) (Nat.zero_le _) (Nat.zero_le _) (c_fill _ _ _ _ (by omega) (by omega) (by omega) hS1) (fun r h' hq => ?_)
  obtain ⟨rfl, hqn, hqA, hqf⟩ := hq
  have hS1 : h'.1 (k + 1) = xa_a 3 (xa_fl po 3 1) := hqA
  have hS0 : h'.1 k = xa_o 4 [xa_r kb, xa_r (k + 1), xa_r (k + 2), xa_i tj, xa_i tb] := (hqf _ (by omega)).trans hS0
  have hS2 : h'.1 (k + 2) = xa_a 2 sp := (hqf _ (by omega)).trans hS2
  have hB0 : h'.1 kb = xa_o 0 [xa_r (kb + 1), xa_r (kb + 2), xa_i ((pa : Nat) : Int), xa_i ((jo : Nat) : Int), xa_i wa, xa_i sr, xa_i pu, xa_i ri] := (hqf _ (by omega)).trans hB0
  have hB1 : h'.1 (kb + 1) = xa_a 9 ld := (hqf _ (by omega)).trans hB1
  have hB2 : h'.1 (kb + 2) = xa_a 2 dg := (hqf _ (by omega)).trans hB2
  have hn : h'.2 = h.2 := hqn.trans hn
  have fr : ∀ i, (i < k ∨ k + 3 ≤ i) → h'.1 i = h.1 i := fun i hi => (hqf i (by omega)).trans (fr i hi)
  refine xa_aload_n (pc := 8) dX4_rest_8 rfl ?_
  refine xa_getfield (pc := 9) dX4_rest_9 flRX4_15 (by omega) (by omega) hS0 rfl ?_
  refine xa_iconst (pc := 12) dX4_rest_12 ?_
  refine xa_callS (pc := 13) (as := [xa_r (k + 2), xa_i 0]) (rest := []) dX4_rest_13 ⟨qJ7_fill_53178.1, qJ7_fill_53178.2.1, qJ7_fill_53178.2.2, by decide, by decide⟩ lkRX4_22 smJ7_fill_53178 rfl rfl (Nat.le_of_ble_eq_true rfl) (Nat.zero_le _) (Nat.zero_le _) (c_fill _ _ _ _ (by omega) (by omega) (by omega) hS2) (fun r h' hq => ?_)
  obtain ⟨rfl, hqn, hqA, hqf⟩ := hq
  have hS2 : h'.1 (k + 2) = xa_a 2 (xa_fl sp 2 0) := hqA
  have hS0 : h'.1 k = xa_o 4 [xa_r kb, xa_r (k + 1), xa_r (k + 2), xa_i tj, xa_i tb] := (hqf _ (by omega)).trans hS0
  have hS1 : h'.1 (k + 1) = xa_a 3 (xa_fl po 3 1) := (hqf _ (by omega)).trans hS1
  have hB0 : h'.1 kb = xa_o 0 [xa_r (kb + 1), xa_r (kb + 2), xa_i ((pa : Nat) : Int), xa_i ((jo : Nat) : Int), xa_i wa, xa_i sr, xa_i pu, xa_i ri] := (hqf _ (by omega)).trans hB0
  have hB1 : h'.1 (kb + 1) = xa_a 9 ld := (hqf _ (by omega)).trans hB1
  have hB2 : h'.1 (kb + 2) = xa_a 2 dg := (hqf _ (by omega)).trans hB2
  have hn : h'.2 = h.2 := hqn.trans hn
  have fr : ∀ i, (i < k ∨ k + 3 ≤ i) → h'.1 i = h.1 i := fun i hi => (hqf i (by omega)).trans (fr i hi)
  refine xa_aload_n (pc := 16) dX4_rest_16 rfl ?_
  refine xa_iconst (pc := 17) dX4_rest_17 ?_
  refine xa_putw (pc := 18) [xa_r kb, xa_r (k + 1), xa_r (k + 2), xa_i tj, xa_i 0] dX4_rest_18 flRX4_28 plX4_4 (by omega) (by omega) hS0 trivial rfl (fun h1 nh1 ch1 oh1 => ?_)
  have hS0 : h1.1 k = xa_o 4 [xa_r kb, xa_r (k + 1), xa_r (k + 2), xa_i tj, xa_i 0] := ch1
  have hS1 : h1.1 (k + 1) = xa_a 3 (xa_fl po 3 1) := (oh1 _ (by omega)).trans hS1
  have hS2 : h1.1 (k + 2) = xa_a 2 (xa_fl sp 2 0) := (oh1 _ (by omega)).trans hS2
  have hB0 : h1.1 kb = xa_o 0 [xa_r (kb + 1), xa_r (kb + 2), xa_i ((pa : Nat) : Int), xa_i ((jo : Nat) : Int), xa_i wa, xa_i sr, xa_i pu, xa_i ri] := (oh1 _ (by omega)).trans hB0
  have hB1 : h1.1 (kb + 1) = xa_a 9 ld := (oh1 _ (by omega)).trans hB1
  have hB2 : h1.1 (kb + 2) = xa_a 2 dg := (oh1 _ (by omega)).trans hB2
  have hn : h1.2 = h.2 := nh1.trans hn
  have fr : ∀ i, (i < k ∨ k + 3 ≤ i) → h1.1 i = h.1 i := fun i hi => (oh1 i (by omega)).trans (fr i hi)
  refine xa_return (pc := 21) dX4_rest_21 rfl ?_
  exact ⟨rfl, ⟨hS0, hS1, hS2, by omega, by omega⟩, hn, fr⟩
theorem c_makesPose {G : xa_G} {h : xa_H} (k kb : Nat) (po sp : Nat → Int) (tj tb : Int) (ld dg : Nat → Int) (pa jo : Nat) (wa sr pu ri : Int) (p q : Int) (hp : xa_ok p) (hq : xa_ok q) (hS : xS h k kb po sp tj tb) (hB : xB h kb ld dg pa jo wa sr pu ri) (hkk : kb + 3 ≤ k) (hpa : pa ≤ 3) (hjo : jo ≤ 2) (hpo : ∀ i, 0 ≤ po i ∧ po i ≤ 2)  : xa_M G mX4_makesPose [xa_r k, xa_i p, xa_i q] h 0 0 (fun r h' => ((∃ t, sp_pose pa (po, sp, tj, tb) p q = some t ∧ r = some (xa_i 1) ∧ xS h' k kb t.1 t.2.1 t.2.2.1 t.2.2.2) ∨ (sp_pose pa (po, sp, tj, tb) p q = none ∧ r = some (xa_i 0) ∧ xS h' k kb po sp tj tb)) ∧ h'.2 = h.2 ∧ ∀ i, (i < k ∨ k + 3 ≤ i) → h'.1 i = h.1 i) := by
  refine xa_enter (by decide +kernel) (Nat.le_of_ble_eq_true rfl) ?_
  refine xa_locals (ls' := [some (xa_r k), some (xa_i p), some (xa_i q)]) rfl ?_
  have hn : h.2 = h.2 := rfl
  have fr : ∀ i, (i < k ∨ k + 3 ≤ i) → h.1 i = h.1 i := fun _ _ => rfl
  obtain ⟨hS0, hS1, hS2, hSk, hSn⟩ := hS
  obtain ⟨hB0, hB1, hB2, hBk, hBn⟩ := hB
  refine xa_iload_n (pc := 0) dX4_makesPose_0 rfl ?_
  refine xa_if_lt (pc := 1) (tgt := 34) dX4_makesPose_1 (by decide) ⟨by omega, by omega⟩ (fun c_1 => ?_) (fun c_1 => ?_)
  · skip
    refine xa_iconst (pc := 34) dX4_makesPose_34 ?_
    refine xa_ireturn (pc := 35) dX4_makesPose_35 rfl (Or.inl rfl) ?_
    exact ⟨Or.inr ⟨by unfold sp_pose; rw [if_neg (by show ¬ ((0 ≤ p ∧ p < 3) ∧ p < (pa : Int) ∧ po p.toNat ≠ q); omega)], rfl, hS0, hS1, hS2, by omega, by omega⟩, hn, fr⟩
  · skip
    refine xa_iload_n (pc := 4) dX4_makesPose_4 rfl ?_
    refine xa_aload_n (pc := 5) dX4_makesPose_5 rfl ?_
    refine xa_getfield (pc := 6) dX4_makesPose_6 flRX4_9 (by omega) (by omega) hS0 rfl ?_
    refine xa_alen (pc := 9) dX4_makesPose_9 (by omega) hS1 ?_
    refine xa_top (y := 3) rfl ?_
    refine xa_icmp_ge (pc := 10) (tgt := 34) dX4_makesPose_10 (by decide) ⟨by omega, by omega⟩ (by decide) (fun c_10 => ?_) (fun c_10 => ?_)
    · skip
      refine xa_iconst (pc := 34) dX4_makesPose_34 ?_
      refine xa_ireturn (pc := 35) dX4_makesPose_35 rfl (Or.inl rfl) ?_
      exact ⟨Or.inr ⟨by unfold sp_pose; rw [if_neg (by show ¬ ((0 ≤ p ∧ p < 3) ∧ p < (pa : Int) ∧ po p.toNat ≠ q); omega)], rfl, hS0, hS1, hS2, by omega, by omega⟩, hn, fr⟩
    · skip
      refine xa_iload_n (pc := 13) dX4_makesPose_13 rfl ?_
      refine xa_aload_n (pc := 14) dX4_makesPose_14 rfl ?_
      refine xa_getfield (pc := 15) dX4_makesPose_15 flRX4_18 (by omega) (by omega) hS0 rfl ?_
      refine xa_getfield (pc := 18) dX4_makesPose_18 flRX4_37 (by omega) (by omega) hB0 rfl ?_
      refine xa_icmp_ge (pc := 21) (tgt := 34) dX4_makesPose_21 (by decide) ⟨by omega, by omega⟩ ⟨by omega, by omega⟩ (fun c_21 => ?_) (fun c_21 => ?_)
      · skip
        refine xa_iconst (pc := 34) dX4_makesPose_34 ?_
        refine xa_ireturn (pc := 35) dX4_makesPose_35 rfl (Or.inl rfl) ?_
        exact ⟨Or.inr ⟨by unfold sp_pose; rw [if_neg (by show ¬ ((0 ≤ p ∧ p < 3) ∧ p < (pa : Int) ∧ po p.toNat ≠ q); omega)], rfl, hS0, hS1, hS2, by omega, by omega⟩, hn, fr⟩
      · skip
        refine xa_aload_n (pc := 24) dX4_makesPose_24 rfl ?_
        refine xa_getfield (pc := 25) dX4_makesPose_25 flRX4_9 (by omega) (by omega) hS0 rfl ?_
        refine xa_iload_n (pc := 28) dX4_makesPose_28 rfl ?_
        refine xa_ialdw (pc := 29) p.toNat dX4_makesPose_29 (by omega) hS1 (by omega) (by omega) rfl ?_
        have b_29 := hpo p.toNat
        refine xa_iload_n (pc := 30) dX4_makesPose_30 rfl ?_
        refine xa_icmp_ne (pc := 31) (tgt := 36) dX4_makesPose_31 (by decide) ⟨by omega, by omega⟩ ⟨by omega, by omega⟩ (fun c_31 => ?_) (fun c_31 => ?_)
        · skip
          refine xa_aload_n (pc := 36) dX4_makesPose_36 rfl ?_
          refine xa_getfield (pc := 37) dX4_makesPose_37 flRX4_9 (by omega) (by omega) hS0 rfl ?_
          refine xa_iload_n (pc := 40) dX4_makesPose_40 rfl ?_
          refine xa_iload_n (pc := 41) dX4_makesPose_41 rfl ?_
          refine xa_iastw (pc := 42) p.toNat dX4_makesPose_42 (by omega) (by omega) hS1 (by omega) (by omega) rfl (fun h1 nh1 ch1 oh1 => ?_)
          have hS1 : h1.1 (k + 1) = xa_a 3 (xa_upf po p.toNat q) := ch1
          have hS0 : h1.1 k = xa_o 4 [xa_r kb, xa_r (k + 1), xa_r (k + 2), xa_i tj, xa_i tb] := (oh1 _ (by omega)).trans hS0
          have hS2 : h1.1 (k + 2) = xa_a 2 sp := (oh1 _ (by omega)).trans hS2
          have hB0 : h1.1 kb = xa_o 0 [xa_r (kb + 1), xa_r (kb + 2), xa_i ((pa : Nat) : Int), xa_i ((jo : Nat) : Int), xa_i wa, xa_i sr, xa_i pu, xa_i ri] := (oh1 _ (by omega)).trans hB0
          have hB1 : h1.1 (kb + 1) = xa_a 9 ld := (oh1 _ (by omega)).trans hB1
          have hB2 : h1.1 (kb + 2) = xa_a 2 dg := (oh1 _ (by omega)).trans hB2
          have hn : h1.2 = h.2 := nh1.trans hn
          have fr : ∀ i, (i < k ∨ k + 3 ≤ i) → h1.1 i = h.1 i := fun i hi => (oh1 i (by omega)).trans (fr i hi)
          refine xa_aload_n (pc := 43) dX4_makesPose_43 rfl ?_
          refine xa_iconst (pc := 44) dX4_makesPose_44 ?_
          refine xa_putw (pc := 45) [xa_r kb, xa_r (k + 1), xa_r (k + 2), xa_i tj, xa_i 0] dX4_makesPose_45 flRX4_28 plX4_4 (by omega) (by omega) hS0 trivial rfl (fun h2 nh2 ch2 oh2 => ?_)
          have hS0 : h2.1 k = xa_o 4 [xa_r kb, xa_r (k + 1), xa_r (k + 2), xa_i tj, xa_i 0] := ch2
          have hS1 : h2.1 (k + 1) = xa_a 3 (xa_upf po p.toNat q) := (oh2 _ (by omega)).trans hS1
          have hS2 : h2.1 (k + 2) = xa_a 2 sp := (oh2 _ (by omega)).trans hS2
          have hB0 : h2.1 kb = xa_o 0 [xa_r (kb + 1), xa_r (kb + 2), xa_i ((pa : Nat) : Int), xa_i ((jo : Nat) : Int), xa_i wa, xa_i sr, xa_i pu, xa_i ri] := (oh2 _ (by omega)).trans hB0
          have hB1 : h2.1 (kb + 1) = xa_a 9 ld := (oh2 _ (by omega)).trans hB1
          have hB2 : h2.1 (kb + 2) = xa_a 2 dg := (oh2 _ (by omega)).trans hB2
          have hn : h2.2 = h.2 := nh2.trans hn
          have fr : ∀ i, (i < k ∨ k + 3 ≤ i) → h2.1 i = h.1 i := fun i hi => (oh2 i (by omega)).trans (fr i hi)
          refine xa_iconst (pc := 48) dX4_makesPose_48 ?_
          refine xa_ireturn (pc := 49) dX4_makesPose_49 rfl (Or.inr rfl) ?_
          exact ⟨Or.inl ⟨_, by unfold sp_pose; rw [if_pos ⟨⟨by omega, by omega⟩, by omega, by show po p.toNat ≠ q; omega⟩], rfl, hS0, hS1, hS2, by omega, by omega⟩, hn, fr⟩
        · skip
          refine xa_iconst (pc := 34) dX4_makesPose_34 ?_
          refine xa_ireturn (pc := 35) dX4_makesPose_35 rfl (Or.inl rfl) ?_
          exact ⟨Or.inr ⟨by unfold sp_pose; rw [if_neg (by show ¬ ((0 ≤ p ∧ p < 3) ∧ p < (pa : Int) ∧ po p.toNat ≠ q); omega)], rfl, hS0, hS1, hS2, by omega, by omega⟩, hn, fr⟩
theorem c_makesStep {G : xa_G} {h : xa_H} (k kb : Nat) (po sp : Nat → Int) (tj tb : Int) (ld dg : Nat → Int) (pa jo : Nat) (wa sr pu ri : Int) (j b : Int) (hj : xa_ok j) (hb : b = 1 ∨ b = -1) (hS : xS h k kb po sp tj tb) (hB : xB h kb ld dg pa jo wa sr pu ri) (hkk : kb + 3 ≤ k) (hpa : pa ≤ 3) (hjo : jo ≤ 2) (hsp : ∀ i, -2 ≤ sp i ∧ sp i ≤ 12) (hwa : xa_ok wa) (hsr : 0 ≤ sr ∧ sr ≤ 12)  : xa_M G mX4_makesStep [xa_r k, xa_i j, xa_i b] h 0 0 (fun r h' => ((∃ t, sp_step dg jo wa sr (po, sp, tj, tb) j b = some t ∧ r = some (xa_i 1) ∧ xS h' k kb t.1 t.2.1 t.2.2.1 t.2.2.2) ∨ (sp_step dg jo wa sr (po, sp, tj, tb) j b = none ∧ r = some (xa_i 0) ∧ xS h' k kb po sp tj tb)) ∧ h'.2 = h.2 ∧ ∀ i, (i < k ∨ k + 3 ≤ i) → h'.1 i = h.1 i) := by
  refine xa_enter (by decide +kernel) (Nat.le_of_ble_eq_true rfl) ?_
  refine xa_locals (ls' := [some (xa_r k), some (xa_i j), some (xa_i b), none]) rfl ?_
  have hn : h.2 = h.2 := rfl
  have fr : ∀ i, (i < k ∨ k + 3 ≤ i) → h.1 i = h.1 i := fun _ _ => rfl
  obtain ⟨hS0, hS1, hS2, hSk, hSn⟩ := hS
  obtain ⟨hB0, hB1, hB2, hBk, hBn⟩ := hB
  refine xa_iload_n (pc := 0) dX4_makesStep_0 rfl ?_
  refine xa_if_lt (pc := 1) (tgt := 24) dX4_makesStep_1 (by decide) ⟨by omega, by omega⟩ (fun c_1 => ?_) (fun c_1 => ?_)
  · skip
    refine xa_iconst (pc := 24) dX4_makesStep_24 ?_
    refine xa_ireturn (pc := 25) dX4_makesStep_25 rfl (Or.inl rfl) ?_
    exact ⟨Or.inr ⟨by unfold sp_step; rw [if_neg (by show ¬ (((0 ≤ j ∧ j < 2) ∧ j < (jo : Int)) ∧ (j = wa ∨ -2 ≤ sp j.toNat + b ∧ sp j.toNat + b ≤ 2)); omega)], rfl, hS0, hS1, hS2, by omega, by omega⟩, hn, fr⟩
  · skip
    refine xa_iload_n (pc := 4) dX4_makesStep_4 rfl ?_
    refine xa_aload_n (pc := 5) dX4_makesStep_5 rfl ?_
    refine xa_getfield (pc := 6) dX4_makesStep_6 flRX4_15 (by omega) (by omega) hS0 rfl ?_
    refine xa_alen (pc := 9) dX4_makesStep_9 (by omega) hS2 ?_
    refine xa_top (y := 2) rfl ?_
    refine xa_icmp_ge (pc := 10) (tgt := 24) dX4_makesStep_10 (by decide) ⟨by omega, by omega⟩ (by decide) (fun c_10 => ?_) (fun c_10 => ?_)
    · skip
      refine xa_iconst (pc := 24) dX4_makesStep_24 ?_
      refine xa_ireturn (pc := 25) dX4_makesStep_25 rfl (Or.inl rfl) ?_
      exact ⟨Or.inr ⟨by unfold sp_step; rw [if_neg (by show ¬ (((0 ≤ j ∧ j < 2) ∧ j < (jo : Int)) ∧ (j = wa ∨ -2 ≤ sp j.toNat + b ∧ sp j.toNat + b ≤ 2)); omega)], rfl, hS0, hS1, hS2, by omega, by omega⟩, hn, fr⟩
    · skip
      refine xa_iload_n (pc := 13) dX4_makesStep_13 rfl ?_
      refine xa_aload_n (pc := 14) dX4_makesStep_14 rfl ?_
      refine xa_getfield (pc := 15) dX4_makesStep_15 flRX4_18 (by omega) (by omega) hS0 rfl ?_
      refine xa_getfield (pc := 18) dX4_makesStep_18 flRX4_32 (by omega) (by omega) hB0 rfl ?_
      refine xa_icmp_lt (pc := 21) (tgt := 26) dX4_makesStep_21 (by decide) ⟨by omega, by omega⟩ ⟨by omega, by omega⟩ (fun c_21 => ?_) (fun c_21 => ?_)
      · skip
        refine xa_aload_n (pc := 26) dX4_makesStep_26 rfl ?_
        refine xa_getfield (pc := 27) dX4_makesStep_27 flRX4_15 (by omega) (by omega) hS0 rfl ?_
        refine xa_iload_n (pc := 30) dX4_makesStep_30 rfl ?_
        refine xa_ialdw (pc := 31) j.toNat dX4_makesStep_31 (by omega) hS2 (by omega) (by omega) rfl ?_
        have b_31 := hsp j.toNat
        refine xa_iload_n (pc := 32) dX4_makesStep_32 rfl ?_
        refine xa_iadd (pc := 33) dX4_makesStep_33 ?_
        refine xa_istoren (pc := 34) [some (xa_r k), some (xa_i j), some (xa_i b), some (xa_i ((sp j.toNat) + b))] dX4_makesStep_34 (by decide) (by simp) rfl rfl ?_
        refine xa_aload_n (pc := 35) dX4_makesStep_35 rfl ?_
        refine xa_getfield (pc := 36) dX4_makesStep_36 flRX4_18 (by omega) (by omega) hS0 rfl ?_
        refine xa_iload_n (pc := 39) dX4_makesStep_39 rfl ?_
        refine xa_callV (pc := 40) (as := [xa_i j]) (rest := []) dX4_makesStep_40 ⟨qX0_isWagging.1, qX0_isWagging.2.1, qX0_isWagging.2.2, by decide, by decide⟩ lkRX4_73 imX0_isWagging seX0_isWagging rfl rfl (by omega) (by omega) hB0 rfl (Nat.le_of_ble_eq_true rfl) (Nat.zero_le _) (Nat.zero_le _) (c_isWagging _ _ _ _ _ _ _ _ _ _ ⟨by omega, by omega⟩ (by assumption) ⟨hB0, hB1, hB2, by omega, by omega⟩) (fun r h' hq => ?_)
        obtain ⟨rfl, hq⟩ := hq
        have hq := hq.symm
        subst hq
        refine xa_if_eq (pc := 43) (tgt := 65) dX4_makesStep_43 (by decide) xa_okb (fun c_43 => ?_) (fun c_43 => ?_)
        · have c_43 := xa_b0.mp c_43
          refine xa_iload_n (pc := 65) dX4_makesStep_65 rfl ?_
          refine xa_bipush (pc := 66) dX4_makesStep_66 rfl ?_
          refine xa_iconst (pc := 68) dX4_makesStep_68 ?_
          refine xa_callS (pc := 69) (as := [xa_i ((sp j.toNat) + b), xa_i (-2), xa_i 2]) (rest := []) dX4_makesStep_69 ⟨qX9_isWithin.1, qX9_isWithin.2.1, qX9_isWithin.2.2, by decide, by decide⟩ lkRX4_83 smX9_isWithin rfl rfl (Nat.le_of_ble_eq_true rfl) (Nat.zero_le _) (Nat.zero_le _) (c_isWithin _ _ _ ⟨by omega, by omega⟩ (by decide) (by decide)) (fun r h' hq => ?_)
          obtain ⟨rfl, hq⟩ := hq
          have hq := hq.symm
          subst hq
          refine xa_if_ne (pc := 72) (tgt := 77) dX4_makesStep_72 (by decide) xa_okb (fun c_72 => ?_) (fun c_72 => ?_)
          · have c_72 := xa_b1.mp c_72
            refine xa_aload_n (pc := 77) dX4_makesStep_77 rfl ?_
            refine xa_getfield (pc := 78) dX4_makesStep_78 flRX4_15 (by omega) (by omega) hS0 rfl ?_
            refine xa_iload_n (pc := 81) dX4_makesStep_81 rfl ?_
            refine xa_iload_n (pc := 82) dX4_makesStep_82 rfl ?_
            refine xa_iastw (pc := 83) j.toNat dX4_makesStep_83 (by omega) (by omega) hS2 (by omega) (by omega) rfl (fun h1 nh1 ch1 oh1 => ?_)
            have hS2 : h1.1 (k + 2) = xa_a 2 (xa_upf sp j.toNat ((sp j.toNat) + b)) := ch1
            have hS0 : h1.1 k = xa_o 4 [xa_r kb, xa_r (k + 1), xa_r (k + 2), xa_i tj, xa_i tb] := (oh1 _ (by omega)).trans hS0
            have hS1 : h1.1 (k + 1) = xa_a 3 po := (oh1 _ (by omega)).trans hS1
            have hB0 : h1.1 kb = xa_o 0 [xa_r (kb + 1), xa_r (kb + 2), xa_i ((pa : Nat) : Int), xa_i ((jo : Nat) : Int), xa_i wa, xa_i sr, xa_i pu, xa_i ri] := (oh1 _ (by omega)).trans hB0
            have hB1 : h1.1 (kb + 1) = xa_a 9 ld := (oh1 _ (by omega)).trans hB1
            have hB2 : h1.1 (kb + 2) = xa_a 2 dg := (oh1 _ (by omega)).trans hB2
            have hn : h1.2 = h.2 := nh1.trans hn
            have fr : ∀ i, (i < k ∨ k + 3 ≤ i) → h1.1 i = h.1 i := fun i hi => (oh1 i (by omega)).trans (fr i hi)
            refine xa_aload_n (pc := 84) dX4_makesStep_84 rfl ?_
            refine xa_iload_n (pc := 85) dX4_makesStep_85 rfl ?_
            refine xa_putw (pc := 86) [xa_r kb, xa_r (k + 1), xa_r (k + 2), xa_i j, xa_i tb] dX4_makesStep_86 flRX4_57 plX4_3 (by omega) (by omega) hS0 trivial rfl (fun h2 nh2 ch2 oh2 => ?_)
            have hS0 : h2.1 k = xa_o 4 [xa_r kb, xa_r (k + 1), xa_r (k + 2), xa_i j, xa_i tb] := ch2
            have hS1 : h2.1 (k + 1) = xa_a 3 po := (oh2 _ (by omega)).trans hS1
            have hS2 : h2.1 (k + 2) = xa_a 2 (xa_upf sp j.toNat ((sp j.toNat) + b)) := (oh2 _ (by omega)).trans hS2
            have hB0 : h2.1 kb = xa_o 0 [xa_r (kb + 1), xa_r (kb + 2), xa_i ((pa : Nat) : Int), xa_i ((jo : Nat) : Int), xa_i wa, xa_i sr, xa_i pu, xa_i ri] := (oh2 _ (by omega)).trans hB0
            have hB1 : h2.1 (kb + 1) = xa_a 9 ld := (oh2 _ (by omega)).trans hB1
            have hB2 : h2.1 (kb + 2) = xa_a 2 dg := (oh2 _ (by omega)).trans hB2
            have hn : h2.2 = h.2 := nh2.trans hn
            have fr : ∀ i, (i < k ∨ k + 3 ≤ i) → h2.1 i = h.1 i := fun i hi => (oh2 i (by omega)).trans (fr i hi)
            refine xa_aload_n (pc := 89) dX4_makesStep_89 rfl ?_
            refine xa_iload_n (pc := 90) dX4_makesStep_90 rfl ?_
            refine xa_aload_n (pc := 91) dX4_makesStep_91 rfl ?_
            refine xa_getfield (pc := 92) dX4_makesStep_92 flRX4_18 (by omega) (by omega) hS0 rfl ?_
            refine xa_iload_n (pc := 95) dX4_makesStep_95 rfl ?_
            refine xa_callV (pc := 96) (as := [xa_i j]) (rest := [xa_i b, xa_r k]) dX4_makesStep_96 ⟨qX0_stepOf.1, qX0_stepOf.2.1, qX0_stepOf.2.2, by decide, by decide⟩ lkRX4_53 imX0_stepOf seX0_stepOf rfl rfl (by omega) (by omega) hB0 rfl (Nat.le_of_ble_eq_true rfl) (Nat.zero_le _) (Nat.zero_le _) (c_stepOf _ _ _ _ _ _ _ _ _ _ ⟨by omega, by omega⟩ ⟨hB0, hB1, hB2, by omega, by omega⟩) (fun r h' hq => ?_)
            obtain ⟨rfl, hq⟩ := hq
            have hq := hq.symm
            subst hq
            refine xa_imul (pc := 99) dX4_makesStep_99 ?_
            refine xa_putw (pc := 100) [xa_r kb, xa_r (k + 1), xa_r (k + 2), xa_i j, xa_i (b * (sp_dg dg j))] dX4_makesStep_100 flRX4_28 plX4_4 (by omega) (by omega) hS0 trivial rfl (fun h3 nh3 ch3 oh3 => ?_)
            have hS0 : h3.1 k = xa_o 4 [xa_r kb, xa_r (k + 1), xa_r (k + 2), xa_i j, xa_i (b * (sp_dg dg j))] := ch3
            have hS1 : h3.1 (k + 1) = xa_a 3 po := (oh3 _ (by omega)).trans hS1
            have hS2 : h3.1 (k + 2) = xa_a 2 (xa_upf sp j.toNat ((sp j.toNat) + b)) := (oh3 _ (by omega)).trans hS2
            have hB0 : h3.1 kb = xa_o 0 [xa_r (kb + 1), xa_r (kb + 2), xa_i ((pa : Nat) : Int), xa_i ((jo : Nat) : Int), xa_i wa, xa_i sr, xa_i pu, xa_i ri] := (oh3 _ (by omega)).trans hB0
            have hB1 : h3.1 (kb + 1) = xa_a 9 ld := (oh3 _ (by omega)).trans hB1
            have hB2 : h3.1 (kb + 2) = xa_a 2 dg := (oh3 _ (by omega)).trans hB2
            have hn : h3.2 = h.2 := nh3.trans hn
            have fr : ∀ i, (i < k ∨ k + 3 ≤ i) → h3.1 i = h.1 i := fun i hi => (oh3 i (by omega)).trans (fr i hi)
            refine xa_iconst (pc := 103) dX4_makesStep_103 ?_
            refine xa_ireturn (pc := 104) dX4_makesStep_104 rfl (Or.inr rfl) ?_
            have e : sp_nstep wa sr j (sp j.toNat + b) = (sp j.toNat) + b := by unfold sp_nstep; first | exact if_pos (by omega) | exact if_neg (by omega)
            rw [← e] at hS2
            exact ⟨Or.inl ⟨_, by unfold sp_step; rw [if_pos (by show (((0 ≤ j ∧ j < 2) ∧ j < (jo : Int)) ∧ (j = wa ∨ -2 ≤ sp j.toNat + b ∧ sp j.toNat + b ≤ 2)); omega)], rfl, hS0, hS1, hS2, by omega, by omega⟩, hn, fr⟩
          · have c_72 := xa_b0.mp c_72
            refine xa_iconst (pc := 75) dX4_makesStep_75 ?_
            refine xa_ireturn (pc := 76) dX4_makesStep_76 rfl (Or.inl rfl) ?_
            exact ⟨Or.inr ⟨by unfold sp_step; rw [if_neg (by show ¬ (((0 ≤ j ∧ j < 2) ∧ j < (jo : Int)) ∧ (j = wa ∨ -2 ≤ sp j.toNat + b ∧ sp j.toNat + b ≤ 2)); omega)], rfl, hS0, hS1, hS2, by omega, by omega⟩, hn, fr⟩
        · have c_43 := xa_b1.mp c_43
          refine xa_iload_n (pc := 46) dX4_makesStep_46 rfl ?_
          refine xa_aload_n (pc := 47) dX4_makesStep_47 rfl ?_
          refine xa_getfield (pc := 48) dX4_makesStep_48 flRX4_18 (by omega) (by omega) hS0 rfl ?_
          refine xa_getfield (pc := 51) dX4_makesStep_51 flRX4_77 (by omega) (by omega) hB0 rfl ?_
          refine xa_iconst (pc := 54) dX4_makesStep_54 ?_
          refine xa_callS (pc := 55) (as := [xa_i sr, xa_i 1]) (rest := [xa_i ((sp j.toNat) + b)]) dX4_makesStep_55 ⟨qJ9_max_7cf53.1, qJ9_max_7cf53.2.1, qJ9_max_7cf53.2.2, by decide, by decide⟩ lkRX4_44 smJ9_max_7cf53 rfl rfl (Nat.le_of_ble_eq_true rfl) (Nat.zero_le _) (Nat.zero_le _) (c_max _ _ ⟨by omega, by omega⟩ (by decide)) (fun r h' hq => ?_)
          obtain ⟨rfl, hq⟩ := hq
          have hq := hq.symm
          subst hq
          refine xa_callS (pc := 58) (as := [xa_i ((sp j.toNat) + b), xa_i (max sr 1)]) (rest := []) dX4_makesStep_58 ⟨qJ9_floorMod_7cf53.1, qJ9_floorMod_7cf53.2.1, qJ9_floorMod_7cf53.2.2, by decide, by decide⟩ lkRX4_80 smJ9_floorMod_7cf53 rfl rfl (Nat.le_of_ble_eq_true rfl) (Nat.zero_le _) (Nat.zero_le _) (c_floorMod _ _ ⟨by omega, by omega⟩ ⟨by omega, by omega⟩ (by omega)) (fun r h' hq => ?_)
          obtain ⟨rfl, hq⟩ := hq
          have hq := hq.symm
          subst hq
          refine xa_istoren (pc := 61) [some (xa_r k), some (xa_i j), some (xa_i b), some (xa_i (((sp j.toNat) + b) % (max sr 1)))] dX4_makesStep_61 (by decide) (by simp) rfl rfl ?_
          refine xa_goto (pc := 62) (tgt := 77) dX4_makesStep_62 (by decide) ?_
          refine xa_aload_n (pc := 77) dX4_makesStep_77 rfl ?_
          refine xa_getfield (pc := 78) dX4_makesStep_78 flRX4_15 (by omega) (by omega) hS0 rfl ?_
          refine xa_iload_n (pc := 81) dX4_makesStep_81 rfl ?_
          refine xa_iload_n (pc := 82) dX4_makesStep_82 rfl ?_
          refine xa_iastw (pc := 83) j.toNat dX4_makesStep_83 (by omega) (by omega) hS2 (by omega) (by omega) rfl (fun h4 nh4 ch4 oh4 => ?_)
          have hS2 : h4.1 (k + 2) = xa_a 2 (xa_upf sp j.toNat (((sp j.toNat) + b) % (max sr 1))) := ch4
          have hS0 : h4.1 k = xa_o 4 [xa_r kb, xa_r (k + 1), xa_r (k + 2), xa_i tj, xa_i tb] := (oh4 _ (by omega)).trans hS0
          have hS1 : h4.1 (k + 1) = xa_a 3 po := (oh4 _ (by omega)).trans hS1
          have hB0 : h4.1 kb = xa_o 0 [xa_r (kb + 1), xa_r (kb + 2), xa_i ((pa : Nat) : Int), xa_i ((jo : Nat) : Int), xa_i wa, xa_i sr, xa_i pu, xa_i ri] := (oh4 _ (by omega)).trans hB0
          have hB1 : h4.1 (kb + 1) = xa_a 9 ld := (oh4 _ (by omega)).trans hB1
          have hB2 : h4.1 (kb + 2) = xa_a 2 dg := (oh4 _ (by omega)).trans hB2
          have hn : h4.2 = h.2 := nh4.trans hn
          have fr : ∀ i, (i < k ∨ k + 3 ≤ i) → h4.1 i = h.1 i := fun i hi => (oh4 i (by omega)).trans (fr i hi)
          refine xa_aload_n (pc := 84) dX4_makesStep_84 rfl ?_
          refine xa_iload_n (pc := 85) dX4_makesStep_85 rfl ?_
          refine xa_putw (pc := 86) [xa_r kb, xa_r (k + 1), xa_r (k + 2), xa_i j, xa_i tb] dX4_makesStep_86 flRX4_57 plX4_3 (by omega) (by omega) hS0 trivial rfl (fun h5 nh5 ch5 oh5 => ?_)
          have hS0 : h5.1 k = xa_o 4 [xa_r kb, xa_r (k + 1), xa_r (k + 2), xa_i j, xa_i tb] := ch5
          have hS1 : h5.1 (k + 1) = xa_a 3 po := (oh5 _ (by omega)).trans hS1
          have hS2 : h5.1 (k + 2) = xa_a 2 (xa_upf sp j.toNat (((sp j.toNat) + b) % (max sr 1))) := (oh5 _ (by omega)).trans hS2
          have hB0 : h5.1 kb = xa_o 0 [xa_r (kb + 1), xa_r (kb + 2), xa_i ((pa : Nat) : Int), xa_i ((jo : Nat) : Int), xa_i wa, xa_i sr, xa_i pu, xa_i ri] := (oh5 _ (by omega)).trans hB0
          have hB1 : h5.1 (kb + 1) = xa_a 9 ld := (oh5 _ (by omega)).trans hB1
          have hB2 : h5.1 (kb + 2) = xa_a 2 dg := (oh5 _ (by omega)).trans hB2
          have hn : h5.2 = h.2 := nh5.trans hn
          have fr : ∀ i, (i < k ∨ k + 3 ≤ i) → h5.1 i = h.1 i := fun i hi => (oh5 i (by omega)).trans (fr i hi)
          refine xa_aload_n (pc := 89) dX4_makesStep_89 rfl ?_
          refine xa_iload_n (pc := 90) dX4_makesStep_90 rfl ?_
          refine xa_aload_n (pc := 91) dX4_makesStep_91 rfl ?_
          refine xa_getfield (pc := 92) dX4_makesStep_92 flRX4_18 (by omega) (by omega) hS0 rfl ?_
          refine xa_iload_n (pc := 95) dX4_makesStep_95 rfl ?_
          refine xa_callV (pc := 96) (as := [xa_i j]) (rest := [xa_i b, xa_r k]) dX4_makesStep_96 ⟨qX0_stepOf.1, qX0_stepOf.2.1, qX0_stepOf.2.2, by decide, by decide⟩ lkRX4_53 imX0_stepOf seX0_stepOf rfl rfl (by omega) (by omega) hB0 rfl (Nat.le_of_ble_eq_true rfl) (Nat.zero_le _) (Nat.zero_le _) (c_stepOf _ _ _ _ _ _ _ _ _ _ ⟨by omega, by omega⟩ ⟨hB0, hB1, hB2, by omega, by omega⟩) (fun r h' hq => ?_)
          obtain ⟨rfl, hq⟩ := hq
          have hq := hq.symm
          subst hq
          refine xa_imul (pc := 99) dX4_makesStep_99 ?_
          refine xa_putw (pc := 100) [xa_r kb, xa_r (k + 1), xa_r (k + 2), xa_i j, xa_i (b * (sp_dg dg j))] dX4_makesStep_100 flRX4_28 plX4_4 (by omega) (by omega) hS0 trivial rfl (fun h6 nh6 ch6 oh6 => ?_)
          have hS0 : h6.1 k = xa_o 4 [xa_r kb, xa_r (k + 1), xa_r (k + 2), xa_i j, xa_i (b * (sp_dg dg j))] := ch6
          have hS1 : h6.1 (k + 1) = xa_a 3 po := (oh6 _ (by omega)).trans hS1
          have hS2 : h6.1 (k + 2) = xa_a 2 (xa_upf sp j.toNat (((sp j.toNat) + b) % (max sr 1))) := (oh6 _ (by omega)).trans hS2
          have hB0 : h6.1 kb = xa_o 0 [xa_r (kb + 1), xa_r (kb + 2), xa_i ((pa : Nat) : Int), xa_i ((jo : Nat) : Int), xa_i wa, xa_i sr, xa_i pu, xa_i ri] := (oh6 _ (by omega)).trans hB0
          have hB1 : h6.1 (kb + 1) = xa_a 9 ld := (oh6 _ (by omega)).trans hB1
          have hB2 : h6.1 (kb + 2) = xa_a 2 dg := (oh6 _ (by omega)).trans hB2
          have hn : h6.2 = h.2 := nh6.trans hn
          have fr : ∀ i, (i < k ∨ k + 3 ≤ i) → h6.1 i = h.1 i := fun i hi => (oh6 i (by omega)).trans (fr i hi)
          refine xa_iconst (pc := 103) dX4_makesStep_103 ?_
          refine xa_ireturn (pc := 104) dX4_makesStep_104 rfl (Or.inr rfl) ?_
          have e : sp_nstep wa sr j (sp j.toNat + b) = ((sp j.toNat) + b) % (max sr 1) := by unfold sp_nstep; first | exact if_pos (by omega) | exact if_neg (by omega)
          rw [← e] at hS2
          exact ⟨Or.inl ⟨_, by unfold sp_step; rw [if_pos (by show (((0 ≤ j ∧ j < 2) ∧ j < (jo : Int)) ∧ (j = wa ∨ -2 ≤ sp j.toNat + b ∧ sp j.toNat + b ≤ 2)); omega)], rfl, hS0, hS1, hS2, by omega, by omega⟩, hn, fr⟩
      · skip
        refine xa_iconst (pc := 24) dX4_makesStep_24 ?_
        refine xa_ireturn (pc := 25) dX4_makesStep_25 rfl (Or.inl rfl) ?_
        exact ⟨Or.inr ⟨by unfold sp_step; rw [if_neg (by show ¬ (((0 ≤ j ∧ j < 2) ∧ j < (jo : Int)) ∧ (j = wa ∨ -2 ≤ sp j.toNat + b ∧ sp j.toNat + b ≤ 2)); omega)], rfl, hS0, hS1, hS2, by omega, by omega⟩, hn, fr⟩
theorem c_makes {G : xa_G} {h : xa_H} (k kb : Nat) (po sp : Nat → Int) (tj tb : Int) (ld dg : Nat → Int) (pa jo : Nat) (wa sr pu ri : Int) (mv : Int) (hmv : xa_ok mv) (hS : xS h k kb po sp tj tb) (hB : xB h kb ld dg pa jo wa sr pu ri) (hkk : kb + 3 ≤ k) (hpa : pa ≤ 3) (hjo : jo ≤ 2) (hsp : ∀ i, -2 ≤ sp i ∧ sp i ≤ 12) (hpo : ∀ i, 0 ≤ po i ∧ po i ≤ 2) (hwa : xa_ok wa) (hsr : 0 ≤ sr ∧ sr ≤ 12)  : xa_M G mX4_makes [xa_r k, xa_i mv] h 0 0 (fun r h' => ((∃ t, sp_make dg pa jo wa sr (po, sp, tj, tb) mv = some t ∧ r = some (xa_i 1) ∧ xS h' k kb t.1 t.2.1 t.2.2.1 t.2.2.2) ∨ (sp_make dg pa jo wa sr (po, sp, tj, tb) mv = none ∧ r = some (xa_i 0) ∧ xS h' k kb po sp tj tb)) ∧ h'.2 = h.2 ∧ ∀ i, (i < k ∨ k + 3 ≤ i) → h'.1 i = h.1 i) := by
  refine xa_enter (by decide +kernel) (Nat.le_of_ble_eq_true rfl) ?_
  refine xa_locals (ls' := [some (xa_r k), some (xa_i mv)]) rfl ?_
  have hn : h.2 = h.2 := rfl
  have fr : ∀ i, (i < k ∨ k + 3 ≤ i) → h.1 i = h.1 i := fun _ _ => rfl
  obtain ⟨hS0, hS1, hS2, hSk, hSn⟩ := hS
  obtain ⟨hB0, hB1, hB2, hBk, hBn⟩ := hB
  refine xa_iload_n (pc := 0) dX4_makes_0 rfl ?_
  refine xa_if_lt (pc := 1) (tgt := 10) dX4_makes_1 (by decide) ⟨by omega, by omega⟩ (fun c_1 => ?_) (fun c_1 => ?_)
  · skip
    refine xa_iconst (pc := 10) dX4_makes_10 ?_
    refine xa_ireturn (pc := 11) dX4_makes_11 rfl (Or.inl rfl) ?_
    exact ⟨Or.inr ⟨by unfold sp_make; first | (rw [if_pos (by omega)]; done) | (rw [if_neg (by omega), if_pos (by omega)]; exact ht) | (rw [if_neg (by omega), if_neg (by omega), if_pos (by omega)]; first | (rw [if_pos (by omega)]; exact ht) | (rw [if_neg (by omega)]; exact ht)) | (rw [if_neg (by omega), if_neg (by omega), if_neg (by omega)]), rfl, hS0, hS1, hS2, by omega, by omega⟩, hn, fr⟩
  · skip
    refine xa_iload_n (pc := 4) dX4_makes_4 rfl ?_
    refine xa_bipush (pc := 5) dX4_makes_5 rfl ?_
    refine xa_icmp_le (pc := 7) (tgt := 12) dX4_makes_7 (by decide) ⟨by omega, by omega⟩ (by decide) (fun c_7 => ?_) (fun c_7 => ?_)
    · skip
      refine xa_iload_n (pc := 12) dX4_makes_12 rfl ?_
      refine xa_bipush (pc := 13) dX4_makes_13 rfl ?_
      refine xa_icmp_lt (pc := 15) (tgt := 35) dX4_makes_15 (by decide) ⟨by omega, by omega⟩ (by decide) (fun c_15 => ?_) (fun c_15 => ?_)
      · skip
        refine xa_iload_n (pc := 35) dX4_makes_35 rfl ?_
        refine xa_if_le (pc := 36) (tgt := 61) dX4_makes_36 (by decide) ⟨by omega, by omega⟩ (fun c_36 => ?_) (fun c_36 => ?_)
        · skip
          refine xa_aload_n (pc := 61) dX4_makes_61 rfl ?_
          refine xa_iconst (pc := 62) dX4_makes_62 ?_
          refine xa_putw (pc := 63) [xa_r kb, xa_r (k + 1), xa_r (k + 2), xa_i tj, xa_i 0] dX4_makes_63 flRX4_28 plX4_4 (by omega) (by omega) hS0 trivial rfl (fun h1 nh1 ch1 oh1 => ?_)
          have hS0 : h1.1 k = xa_o 4 [xa_r kb, xa_r (k + 1), xa_r (k + 2), xa_i tj, xa_i 0] := ch1
          have hS1 : h1.1 (k + 1) = xa_a 3 po := (oh1 _ (by omega)).trans hS1
          have hS2 : h1.1 (k + 2) = xa_a 2 sp := (oh1 _ (by omega)).trans hS2
          have hB0 : h1.1 kb = xa_o 0 [xa_r (kb + 1), xa_r (kb + 2), xa_i ((pa : Nat) : Int), xa_i ((jo : Nat) : Int), xa_i wa, xa_i sr, xa_i pu, xa_i ri] := (oh1 _ (by omega)).trans hB0
          have hB1 : h1.1 (kb + 1) = xa_a 9 ld := (oh1 _ (by omega)).trans hB1
          have hB2 : h1.1 (kb + 2) = xa_a 2 dg := (oh1 _ (by omega)).trans hB2
          have hn : h1.2 = h.2 := nh1.trans hn
          have fr : ∀ i, (i < k ∨ k + 3 ≤ i) → h1.1 i = h.1 i := fun i hi => (oh1 i (by omega)).trans (fr i hi)
          refine xa_iconst (pc := 66) dX4_makes_66 ?_
          refine xa_ireturn (pc := 67) dX4_makes_67 rfl (Or.inr rfl) ?_
          exact ⟨Or.inl ⟨_, by unfold sp_make; first | (rw [if_pos (by omega)]; done) | (rw [if_neg (by omega), if_pos (by omega)]; exact ht) | (rw [if_neg (by omega), if_neg (by omega), if_pos (by omega)]; first | (rw [if_pos (by omega)]; exact ht) | (rw [if_neg (by omega)]; exact ht)) | (rw [if_neg (by omega), if_neg (by omega), if_neg (by omega)]), rfl, hS0, hS1, hS2, by omega, by omega⟩, hn, fr⟩
        · skip
          refine xa_aload_n (pc := 39) dX4_makes_39 rfl ?_
          refine xa_iload_n (pc := 40) dX4_makes_40 rfl ?_
          refine xa_iconst (pc := 41) dX4_makes_41 ?_
          refine xa_isub (pc := 42) dX4_makes_42 ?_
          refine xa_iconst (pc := 43) dX4_makes_43 ?_
          refine xa_idivn (pc := 44) dX4_makes_44 ⟨by omega, by omega⟩ (by decide) (by omega) (by omega) ?_
          refine xa_iload_n (pc := 45) dX4_makes_45 rfl ?_
          refine xa_iconst (pc := 46) dX4_makes_46 ?_
          refine xa_iremn (pc := 47) dX4_makes_47 ⟨by omega, by omega⟩ (by decide) (by omega) (by omega) ?_
          refine xa_iconst (pc := 48) dX4_makes_48 ?_
          refine xa_icmp_ne (pc := 49) (tgt := 56) dX4_makes_49 (by decide) ⟨by omega, by omega⟩ (by decide) (fun c_49 => ?_) (fun c_49 => ?_)
          · skip
            refine xa_iconst (pc := 56) dX4_makes_56 ?_
            refine xa_callV (pc := 57) (as := [xa_i ((mv - 1) / 2), xa_i (-1)]) (rest := []) dX4_makes_57 ⟨qX4_makesStep.1, qX4_makesStep.2.1, qX4_makesStep.2.2, by decide, by decide⟩ lkRX4_70 imX4_makesStep seX4_makesStep rfl rfl (by omega) (by omega) hS0 rfl (Nat.le_of_ble_eq_true rfl) (Nat.zero_le _) (Nat.zero_le _) (c_makesStep _ _ _ _ _ _ _ _ _ _ _ _ _ _ ((mv - 1) / 2) (-1) ⟨by omega, by omega⟩ (by omega) ⟨hS0, hS1, hS2, by omega, by omega⟩ ⟨hB0, hB1, hB2, by omega, by omega⟩ hkk hpa hjo hsp hwa hsr) (fun r h' hq => ?_)
            obtain ⟨hq, hqn, hqf⟩ := hq
            rcases hq with ⟨t, ht, rfl, hS0, hS1, hS2, -, -⟩ | ⟨ht, rfl, hS0, hS1, hS2, -, -⟩
            · skip
              have hB0 : h'.1 kb = xa_o 0 [xa_r (kb + 1), xa_r (kb + 2), xa_i ((pa : Nat) : Int), xa_i ((jo : Nat) : Int), xa_i wa, xa_i sr, xa_i pu, xa_i ri] := (hqf _ (by omega)).trans hB0
              have hB1 : h'.1 (kb + 1) = xa_a 9 ld := (hqf _ (by omega)).trans hB1
              have hB2 : h'.1 (kb + 2) = xa_a 2 dg := (hqf _ (by omega)).trans hB2
              have hn : h'.2 = h.2 := hqn.trans hn
              have fr : ∀ i, (i < k ∨ k + 3 ≤ i) → h'.1 i = h.1 i := fun i hi => (hqf i (by omega)).trans (fr i hi)
              refine xa_ireturn (pc := 60) dX4_makes_60 rfl (Or.inr rfl) ?_
              exact ⟨Or.inl ⟨t, by unfold sp_make; first | (rw [if_pos (by omega)]; done) | (rw [if_neg (by omega), if_pos (by omega)]; exact ht) | (rw [if_neg (by omega), if_neg (by omega), if_pos (by omega)]; first | (rw [if_pos (by omega)]; exact ht) | (rw [if_neg (by omega)]; exact ht)) | (rw [if_neg (by omega), if_neg (by omega), if_neg (by omega)]), rfl, hS0, hS1, hS2, by omega, by omega⟩, hn, fr⟩
            · skip
              have hB0 : h'.1 kb = xa_o 0 [xa_r (kb + 1), xa_r (kb + 2), xa_i ((pa : Nat) : Int), xa_i ((jo : Nat) : Int), xa_i wa, xa_i sr, xa_i pu, xa_i ri] := (hqf _ (by omega)).trans hB0
              have hB1 : h'.1 (kb + 1) = xa_a 9 ld := (hqf _ (by omega)).trans hB1
              have hB2 : h'.1 (kb + 2) = xa_a 2 dg := (hqf _ (by omega)).trans hB2
              have hn : h'.2 = h.2 := hqn.trans hn
              have fr : ∀ i, (i < k ∨ k + 3 ≤ i) → h'.1 i = h.1 i := fun i hi => (hqf i (by omega)).trans (fr i hi)
              refine xa_ireturn (pc := 60) dX4_makes_60 rfl (Or.inl rfl) ?_
              exact ⟨Or.inr ⟨by unfold sp_make; first | (rw [if_pos (by omega)]; done) | (rw [if_neg (by omega), if_pos (by omega)]; exact ht) | (rw [if_neg (by omega), if_neg (by omega), if_pos (by omega)]; first | (rw [if_pos (by omega)]; exact ht) | (rw [if_neg (by omega)]; exact ht)) | (rw [if_neg (by omega), if_neg (by omega), if_neg (by omega)]), rfl, hS0, hS1, hS2, by omega, by omega⟩, hn, fr⟩
          · skip
            refine xa_iconst (pc := 52) dX4_makes_52 ?_
            refine xa_goto (pc := 53) (tgt := 57) dX4_makes_53 (by decide) ?_
            refine xa_callV (pc := 57) (as := [xa_i ((mv - 1) / 2), xa_i 1]) (rest := []) dX4_makes_57 ⟨qX4_makesStep.1, qX4_makesStep.2.1, qX4_makesStep.2.2, by decide, by decide⟩ lkRX4_70 imX4_makesStep seX4_makesStep rfl rfl (by omega) (by omega) hS0 rfl (Nat.le_of_ble_eq_true rfl) (Nat.zero_le _) (Nat.zero_le _) (c_makesStep _ _ _ _ _ _ _ _ _ _ _ _ _ _ ((mv - 1) / 2) 1 ⟨by omega, by omega⟩ (by omega) ⟨hS0, hS1, hS2, by omega, by omega⟩ ⟨hB0, hB1, hB2, by omega, by omega⟩ hkk hpa hjo hsp hwa hsr) (fun r h' hq => ?_)
            obtain ⟨hq, hqn, hqf⟩ := hq
            rcases hq with ⟨t, ht, rfl, hS0, hS1, hS2, -, -⟩ | ⟨ht, rfl, hS0, hS1, hS2, -, -⟩
            · skip
              have hB0 : h'.1 kb = xa_o 0 [xa_r (kb + 1), xa_r (kb + 2), xa_i ((pa : Nat) : Int), xa_i ((jo : Nat) : Int), xa_i wa, xa_i sr, xa_i pu, xa_i ri] := (hqf _ (by omega)).trans hB0
              have hB1 : h'.1 (kb + 1) = xa_a 9 ld := (hqf _ (by omega)).trans hB1
              have hB2 : h'.1 (kb + 2) = xa_a 2 dg := (hqf _ (by omega)).trans hB2
              have hn : h'.2 = h.2 := hqn.trans hn
              have fr : ∀ i, (i < k ∨ k + 3 ≤ i) → h'.1 i = h.1 i := fun i hi => (hqf i (by omega)).trans (fr i hi)
              refine xa_ireturn (pc := 60) dX4_makes_60 rfl (Or.inr rfl) ?_
              exact ⟨Or.inl ⟨t, by unfold sp_make; first | (rw [if_pos (by omega)]; done) | (rw [if_neg (by omega), if_pos (by omega)]; exact ht) | (rw [if_neg (by omega), if_neg (by omega), if_pos (by omega)]; first | (rw [if_pos (by omega)]; exact ht) | (rw [if_neg (by omega)]; exact ht)) | (rw [if_neg (by omega), if_neg (by omega), if_neg (by omega)]), rfl, hS0, hS1, hS2, by omega, by omega⟩, hn, fr⟩
            · skip
              have hB0 : h'.1 kb = xa_o 0 [xa_r (kb + 1), xa_r (kb + 2), xa_i ((pa : Nat) : Int), xa_i ((jo : Nat) : Int), xa_i wa, xa_i sr, xa_i pu, xa_i ri] := (hqf _ (by omega)).trans hB0
              have hB1 : h'.1 (kb + 1) = xa_a 9 ld := (hqf _ (by omega)).trans hB1
              have hB2 : h'.1 (kb + 2) = xa_a 2 dg := (hqf _ (by omega)).trans hB2
              have hn : h'.2 = h.2 := hqn.trans hn
              have fr : ∀ i, (i < k ∨ k + 3 ≤ i) → h'.1 i = h.1 i := fun i hi => (hqf i (by omega)).trans (fr i hi)
              refine xa_ireturn (pc := 60) dX4_makes_60 rfl (Or.inl rfl) ?_
              exact ⟨Or.inr ⟨by unfold sp_make; first | (rw [if_pos (by omega)]; done) | (rw [if_neg (by omega), if_pos (by omega)]; exact ht) | (rw [if_neg (by omega), if_neg (by omega), if_pos (by omega)]; first | (rw [if_pos (by omega)]; exact ht) | (rw [if_neg (by omega)]; exact ht)) | (rw [if_neg (by omega), if_neg (by omega), if_neg (by omega)]), rfl, hS0, hS1, hS2, by omega, by omega⟩, hn, fr⟩
      · skip
        refine xa_aload_n (pc := 18) dX4_makes_18 rfl ?_
        refine xa_iload_n (pc := 19) dX4_makes_19 rfl ?_
        refine xa_bipush (pc := 20) dX4_makes_20 rfl ?_
        refine xa_isub (pc := 22) dX4_makes_22 ?_
        refine xa_iconst (pc := 23) dX4_makes_23 ?_
        refine xa_idivn (pc := 24) dX4_makes_24 ⟨by omega, by omega⟩ (by decide) (by omega) (by omega) ?_
        refine xa_iload_n (pc := 25) dX4_makes_25 rfl ?_
        refine xa_bipush (pc := 26) dX4_makes_26 rfl ?_
        refine xa_isub (pc := 28) dX4_makes_28 ?_
        refine xa_iconst (pc := 29) dX4_makes_29 ?_
        refine xa_iremn (pc := 30) dX4_makes_30 ⟨by omega, by omega⟩ (by decide) (by omega) (by omega) ?_
        refine xa_callV (pc := 31) (as := [xa_i ((mv - 10) / 3), xa_i ((mv - 10) % 3)]) (rest := []) dX4_makes_31 ⟨qX4_makesPose.1, qX4_makesPose.2.1, qX4_makesPose.2.2, by decide, by decide⟩ lkRX4_66 imX4_makesPose seX4_makesPose rfl rfl (by omega) (by omega) hS0 rfl (Nat.le_of_ble_eq_true rfl) (Nat.zero_le _) (Nat.zero_le _) (c_makesPose _ _ _ _ _ _ _ _ _ _ _ _ _ _ ((mv - 10) / 3) ((mv - 10) % 3) ⟨by omega, by omega⟩ ⟨by omega, by omega⟩ ⟨hS0, hS1, hS2, by omega, by omega⟩ ⟨hB0, hB1, hB2, by omega, by omega⟩ hkk hpa hjo hpo) (fun r h' hq => ?_)
        obtain ⟨hq, hqn, hqf⟩ := hq
        rcases hq with ⟨t, ht, rfl, hS0, hS1, hS2, -, -⟩ | ⟨ht, rfl, hS0, hS1, hS2, -, -⟩
        · skip
          have hB0 : h'.1 kb = xa_o 0 [xa_r (kb + 1), xa_r (kb + 2), xa_i ((pa : Nat) : Int), xa_i ((jo : Nat) : Int), xa_i wa, xa_i sr, xa_i pu, xa_i ri] := (hqf _ (by omega)).trans hB0
          have hB1 : h'.1 (kb + 1) = xa_a 9 ld := (hqf _ (by omega)).trans hB1
          have hB2 : h'.1 (kb + 2) = xa_a 2 dg := (hqf _ (by omega)).trans hB2
          have hn : h'.2 = h.2 := hqn.trans hn
          have fr : ∀ i, (i < k ∨ k + 3 ≤ i) → h'.1 i = h.1 i := fun i hi => (hqf i (by omega)).trans (fr i hi)
          refine xa_ireturn (pc := 34) dX4_makes_34 rfl (Or.inr rfl) ?_
          exact ⟨Or.inl ⟨t, by unfold sp_make; first | (rw [if_pos (by omega)]; done) | (rw [if_neg (by omega), if_pos (by omega)]; exact ht) | (rw [if_neg (by omega), if_neg (by omega), if_pos (by omega)]; first | (rw [if_pos (by omega)]; exact ht) | (rw [if_neg (by omega)]; exact ht)) | (rw [if_neg (by omega), if_neg (by omega), if_neg (by omega)]), rfl, hS0, hS1, hS2, by omega, by omega⟩, hn, fr⟩
        · skip
          have hB0 : h'.1 kb = xa_o 0 [xa_r (kb + 1), xa_r (kb + 2), xa_i ((pa : Nat) : Int), xa_i ((jo : Nat) : Int), xa_i wa, xa_i sr, xa_i pu, xa_i ri] := (hqf _ (by omega)).trans hB0
          have hB1 : h'.1 (kb + 1) = xa_a 9 ld := (hqf _ (by omega)).trans hB1
          have hB2 : h'.1 (kb + 2) = xa_a 2 dg := (hqf _ (by omega)).trans hB2
          have hn : h'.2 = h.2 := hqn.trans hn
          have fr : ∀ i, (i < k ∨ k + 3 ≤ i) → h'.1 i = h.1 i := fun i hi => (hqf i (by omega)).trans (fr i hi)
          refine xa_ireturn (pc := 34) dX4_makes_34 rfl (Or.inl rfl) ?_
          exact ⟨Or.inr ⟨by unfold sp_make; first | (rw [if_pos (by omega)]; done) | (rw [if_neg (by omega), if_pos (by omega)]; exact ht) | (rw [if_neg (by omega), if_neg (by omega), if_pos (by omega)]; first | (rw [if_pos (by omega)]; exact ht) | (rw [if_neg (by omega)]; exact ht)) | (rw [if_neg (by omega), if_neg (by omega), if_neg (by omega)]), rfl, hS0, hS1, hS2, by omega, by omega⟩, hn, fr⟩
    · skip
      refine xa_iconst (pc := 10) dX4_makes_10 ?_
      refine xa_ireturn (pc := 11) dX4_makes_11 rfl (Or.inl rfl) ?_
      exact ⟨Or.inr ⟨by unfold sp_make; first | (rw [if_pos (by omega)]; done) | (rw [if_neg (by omega), if_pos (by omega)]; exact ht) | (rw [if_neg (by omega), if_neg (by omega), if_pos (by omega)]; first | (rw [if_pos (by omega)]; exact ht) | (rw [if_neg (by omega)]; exact ht)) | (rw [if_neg (by omega), if_neg (by omega), if_neg (by omega)]), rfl, hS0, hS1, hS2, by omega, by omega⟩, hn, fr⟩
