/-! The class: text, sheet, small calls -/
theorem xa_topr {G : xa_G} {Y : xa_Y} {Z : xa_Zt} {pc : Nat} {ls : xa_Ls} {st : List xa_V} {h : xa_H} {mc ms k : Nat} {v : xa_V} (e : v = xa_r k) (K : xa_W G Y Z pc ls (xa_r k :: st) h mc ms) : xa_W G Y Z pc ls (v :: st) h mc ms := e ▸ K
theorem c_takesB {G : xa_G} {h : xa_H} (k n c : Nat) (f : Nat → Int) (v : Int) (hc : c ≤ 8) (hT : xT h k n f) : xa_M G mX7_takesBytes [xa_r k, xa_i ((c : Nat) : Int), xa_l v] h 0 0 (fun r h' => (n + c ≤ 120 ∧ r = some (xa_i 1) ∧ xT h' k (n + c) (sp_wr f n c c v) ∧ h'.2 = h.2 ∧ ∀ i, (i < k ∨ k + 2 ≤ i) → h'.1 i = h.1 i) ∨ (¬ n + c ≤ 120 ∧ r = some (xa_i 0) ∧ h' = h)) := by
  by_cases e : n + c ≤ 120
  · exact xa_mono (c_takesBytes k n c f v hc e hT) (fun r h' q => Or.inl ⟨e, q⟩)
  · exact xa_mono (c_takesBytes_no k n c f v hc e hT) (fun r h' q => Or.inr ⟨e, q⟩)
theorem shl_jo {jo : Nat} (h : jo = 1 ∨ jo = 2) : ∃ y, xa_shl 1 ((jo : Nat) : Int) = y ∧ (jo = 1 ∧ y = 2 ∨ jo = 2 ∧ y = 4) := by
  rcases h with rfl | rfl
  · exact ⟨2, by decide, Or.inl ⟨rfl, rfl⟩⟩
  · exact ⟨4, by decide, Or.inr ⟨rfl, rfl⟩⟩
/-- the loops, whatever was measured last -/
def xLS (h : xa_H) (k : Nat) : Prop := h.1 (k + 32) = xa_o 1 [xa_r (k + 3), xa_r (k + 32 + 1)] ∧ ∃ (po sp : Nat → Int) (tj tb : Int), xS h (k + 32 + 1) (k + 3) po sp tj tb ∧ (∀ i, 0 ≤ po i ∧ po i ≤ 2) ∧ (∀ i, -2 ≤ sp i ∧ sp i ≤ 12) ∧ (tj = 0 ∨ tj = 1)

theorem c_xWrite {G : xa_G} {h : xa_H} (k : Nat) (kp : Int) (n : Nat) (f : Nat → Int) (b v : Int) (h1 : xa_ok b) (hX : xX0 h k kp) (hT : xT h (k + 1) n f)  : xa_M G mX9_write [xa_r k, xa_i b, xa_l v] h 0 0 (fun r h' => (¬ (1 ≤ b ∧ b ≤ 8) ∧ r = some (xa_i (-1)) ∧ h' = h) ∨ ((1 ≤ b ∧ b ≤ 8) ∧ 120 < ((n : Nat) : Int) + b ∧ r = some (xa_i (-3)) ∧ h' = h) ∨ (∃ c : Nat, b = ((c : Nat) : Int) ∧ (1 ≤ c ∧ c ≤ 8) ∧ n + c ≤ 120 ∧ r = some (xa_i ((n + c : Nat) : Int)) ∧ xT h' (k + 1) (n + c) (sp_wr f n c c v) ∧ h'.2 = h.2 ∧ ∀ i, (i < k + 1 ∨ k + 3 ≤ i) → h'.1 i = h.1 i)) := by
  refine xa_enter (by decide +kernel) (Nat.le_of_ble_eq_true rfl) ?_
  refine xa_locals (ls' := [some (xa_r k), some (xa_i b), some (xa_l v), none]) rfl ?_
  have hn : h.2 = h.2 := rfl
  have fr : ∀ i, (i < k + 1 ∨ k + 3 ≤ i) → h.1 i = h.1 i := fun _ _ => rfl
  obtain ⟨hX0, hk, hkn⟩ := hX
  obtain ⟨hT0, hT1, hTk, hTn, hTl, hTf⟩ := hT
  refine xa_iload_n (pc := 0) dX9_write_0 rfl ?_
  refine xa_iconst (pc := 1) dX9_write_1 ?_
  refine xa_bipush (pc := 2) dX9_write_2 rfl ?_
  refine xa_callS (pc := 4) (as := [xa_i b, xa_i 1, xa_i 8]) (rest := []) dX9_write_4 ⟨qX9_isWithin.1, qX9_isWithin.2.1, qX9_isWithin.2.2, by decide, by decide⟩ lkRX9_89 smX9_isWithin rfl rfl (Nat.le_of_ble_eq_true rfl) (Nat.zero_le _) (Nat.zero_le _) (c_isWithin _ _ _ ⟨by omega, by omega⟩ (by decide) (by decide)) (fun r h' hq => ?_)
  obtain ⟨rfl, hq⟩ := hq
  have hq := hq.symm
  subst hq
  refine xa_if_ne (pc := 7) (tgt := 12) dX9_write_7 (by decide) xa_okb (fun c_7 => ?_) (fun c_7 => ?_)
  · have c_7 := xa_b1.mp c_7
    obtain ⟨c, rfl⟩ : ∃ z : Nat, b = (z : Int) := ⟨b.toNat, by omega⟩
    refine xa_aload_n (pc := 12) dX9_write_12 rfl ?_
    refine xa_getfield (pc := 13) dX9_write_13 flRX9_12 (by omega) (by omega) hX0 rfl ?_
    refine xa_iload_n (pc := 16) dX9_write_16 rfl ?_
    refine xa_lload_n (pc := 17) dX9_write_17 rfl ?_
    refine xa_callV (pc := 18) (as := [xa_i ((c : Nat) : Int), xa_l v]) (rest := []) dX9_write_18 ⟨qX7_takesBytes.1, qX7_takesBytes.2.1, qX7_takesBytes.2.2, by decide, by decide⟩ lkRX9_92 imX7_takesBytes seX7_takesBytes rfl rfl (by omega) (by omega) hT0 rfl (Nat.le_of_ble_eq_true rfl) (Nat.zero_le _) (Nat.zero_le _) (c_takesB _ _ _ _ _ (by omega) ⟨hT0, hT1, by omega, by omega, by omega, hTf⟩) (fun r h' hq => ?_)
    rcases hq with hq2 | hq2
    · skip
      obtain ⟨hnc, rfl, ⟨hT0, hT1, -, -, hTl2, hTf2⟩, hqn, hqf⟩ := hq2
      have hT0 : h'.1 (k + 1) = xa_o 7 [xa_r (k + 1 + 1), xa_i ((n + c : Nat) : Int)] := hT0
      have hT1 : h'.1 (k + 1 + 1) = xa_a 120 (sp_wr f n c c v) := hT1
      have hX0 : h'.1 k = xa_o 9 [xa_r (k + 1), xa_r (k + 3), xa_r (k + 6), xa_r (k + 9), xa_r (k + 11), xa_r (k + 15), xa_i kp, xa_r (k + 24), xa_r (k + 31), xa_r (k + 32), xa_r (k + 36), xa_r (k + 48), xa_r (k + 60)] := (hqf _ (by omega)).trans hX0
      have hn : h'.2 = h.2 := hqn.trans hn
      have fr : ∀ i, (i < k + 1 ∨ k + 3 ≤ i) → h'.1 i = h.1 i := fun i hi => (hqf i (by omega)).trans (fr i hi)
      refine xa_if_eq (pc := 21) (tgt := 34) dX9_write_21 (by decide) (by decide) (fun c_21 => ?_) (fun c_21 => ?_)
      · skip
        exfalso; omega
      · skip
        refine xa_aload_n (pc := 24) dX9_write_24 rfl ?_
        refine xa_getfield (pc := 25) dX9_write_25 flRX9_12 (by omega) (by omega) hX0 rfl ?_
        refine xa_getfield (pc := 28) dX9_write_28 flRX9_96 (by omega) (by omega) hT0 rfl ?_
        refine xa_goto (pc := 31) (tgt := 36) dX9_write_31 (by decide) ?_
        refine xa_ireturn (pc := 36) dX9_write_36 rfl trivial ?_
        exact Or.inr (Or.inr ⟨c, rfl, by omega, hnc, rfl, ⟨hT0, hT1, by omega, by omega, hnc, hTf2⟩, hn, fr⟩)
    · skip
      obtain ⟨hnc, rfl, hq⟩ := hq2
      have hq := hq.symm
      subst hq
      refine xa_if_eq (pc := 21) (tgt := 34) dX9_write_21 (by decide) (by decide) (fun c_21 => ?_) (fun c_21 => ?_)
      · skip
        refine xa_bipush (pc := 34) dX9_write_34 rfl ?_
        refine xa_ireturn (pc := 36) dX9_write_36 rfl trivial ?_
        exact Or.inr (Or.inl ⟨by omega, by omega, rfl, rfl⟩)
      · skip
        exfalso; omega
  · have c_7 := xa_b0.mp c_7
    refine xa_iconst (pc := 10) dX9_write_10 ?_
    refine xa_ireturn (pc := 11) dX9_write_11 rfl trivial ?_
    exact Or.inl ⟨by omega, rfl, rfl⟩
theorem c_xWipe {G : xa_G} {h : xa_H} (k : Nat) (kp : Int) (n : Nat) (f : Nat → Int) (hX : xX0 h k kp) (hT : xT h (k + 1) n f)  : xa_M G mX9_wipe [xa_r k] h 0 0 (fun r h' => r = some (xa_i ((n : Nat) : Int)) ∧ xT h' (k + 1) 0 f ∧ h'.2 = h.2 ∧ ∀ i, (i < k + 1 ∨ k + 3 ≤ i) → h'.1 i = h.1 i) := by
  refine xa_enter (by decide +kernel) (Nat.le_of_ble_eq_true rfl) ?_
  refine xa_locals (ls' := [some (xa_r k), none]) rfl ?_
  have hn : h.2 = h.2 := rfl
  have fr : ∀ i, (i < k + 1 ∨ k + 3 ≤ i) → h.1 i = h.1 i := fun _ _ => rfl
  obtain ⟨hX0, hk, hkn⟩ := hX
  obtain ⟨hT0, hT1, hTk, hTn, hTl, hTf⟩ := hT
  refine xa_aload_n (pc := 0) dX9_wipe_0 rfl ?_
  refine xa_getfield (pc := 1) dX9_wipe_1 flRX9_12 (by omega) (by omega) hX0 rfl ?_
  refine xa_getfield (pc := 4) dX9_wipe_4 flRX9_96 (by omega) (by omega) hT0 rfl ?_
  refine xa_istoren (pc := 7) [some (xa_r k), some (xa_i ((n : Nat) : Int))] dX9_wipe_7 (by decide) (Nat.le_of_ble_eq_true rfl) rfl rfl ?_
  refine xa_aload_n (pc := 8) dX9_wipe_8 rfl ?_
  refine xa_getfield (pc := 9) dX9_wipe_9 flRX9_12 (by omega) (by omega) hX0 rfl ?_
  refine xa_iconst (pc := 12) dX9_wipe_12 ?_
  refine xa_putw (pc := 13) [xa_r (k + 1 + 1), xa_i 0] dX9_wipe_13 flRX9_96 plX7_1 (by omega) (by omega) hT0 trivial rfl (fun h1 nh1 ch1 oh1 => ?_)
  have hT0 : h1.1 (k + 1) = xa_o 7 [xa_r (k + 1 + 1), xa_i 0] := ch1
  have hX0 : h1.1 k = xa_o 9 [xa_r (k + 1), xa_r (k + 3), xa_r (k + 6), xa_r (k + 9), xa_r (k + 11), xa_r (k + 15), xa_i kp, xa_r (k + 24), xa_r (k + 31), xa_r (k + 32), xa_r (k + 36), xa_r (k + 48), xa_r (k + 60)] := (oh1 _ (by omega)).trans hX0
  have hT1 : h1.1 (k + 1 + 1) = xa_a 120 f := (oh1 _ (by omega)).trans hT1
  have hn : h1.2 = h.2 := nh1.trans hn
  have fr : ∀ i, (i < k + 1 ∨ k + 3 ≤ i) → h1.1 i = h.1 i := fun i hi => (oh1 i (by omega)).trans (fr i hi)
  refine xa_iload_n (pc := 16) dX9_wipe_16 rfl ?_
  refine xa_ireturn (pc := 17) dX9_wipe_17 rfl trivial ?_
  exact ⟨rfl, ⟨hT0, hT1, by omega, by omega, by omega, hTf⟩, hn, fr⟩
theorem c_xLoad {G : xa_G} {h : xa_H} (k : Nat) (kp : Int) (ld dg : Nat → Int) (pa jo : Nat) (wa sr pu ri : Int) (p q : Int) (h1 : xa_ok p) (h2 : xa_ok q) (hpa : pa ≤ 3) (hX : xX0 h k kp) (hB : xB h (k + 3) ld dg pa jo wa sr pu ri)  : xa_M G mX9_load [xa_r k, xa_i p, xa_i q] h 0 0 (fun r h' => r = some (xa_i (if (0 ≤ p ∧ p ≤ (pa : Int) - 1) ∧ 0 ≤ q ∧ q ≤ 2 then sp_ld ld p q else -1)) ∧ h' = h) := by
  refine xa_enter (by decide +kernel) (Nat.le_of_ble_eq_true rfl) ?_
  refine xa_locals (ls' := [some (xa_r k), some (xa_i p), some (xa_i q)]) rfl ?_
  have hX' := hX
  obtain ⟨hX0, hk, hkn⟩ := hX
  obtain ⟨hB0, hB1, hB2, hBk, hBn⟩ := hB
  refine xa_aload_n (pc := 0) dX9_load_0 rfl ?_
  refine xa_iload_n (pc := 1) dX9_load_1 rfl ?_
  refine xa_callV (pc := 2) (as := [xa_i p]) (rest := []) dX9_load_2 ⟨qX9_isPart.1, qX9_isPart.2.1, qX9_isPart.2.2, by decide, by decide⟩ lkRX9_127 imX9_isPart seX9_isPart rfl rfl (by omega) (by omega) hX0 rfl (Nat.le_of_ble_eq_true rfl) (Nat.zero_le _) (Nat.zero_le _) (c_xPart k kp ld dg pa jo wa sr pu ri p (by omega) ⟨hX0, hk, by omega⟩ ⟨hB0, hB1, hB2, by omega, by omega⟩) (fun r h' hq => ?_)
  obtain ⟨rfl, hq⟩ := hq
  have hq := hq.symm
  subst hq
  refine xa_if_eq (pc := 5) (tgt := 17) dX9_load_5 (by decide) xa_okb (fun c_5 => ?_) (fun c_5 => ?_)
  · have c_5 := xa_b0.mp c_5
    refine xa_iconst (pc := 17) dX9_load_17 ?_
    refine xa_ireturn (pc := 18) dX9_load_18 rfl trivial ?_
    exact ⟨by rw [if_neg (by omega)], rfl⟩
  · have c_5 := xa_b1.mp c_5
    refine xa_iload_n (pc := 8) dX9_load_8 rfl ?_
    refine xa_iconst (pc := 9) dX9_load_9 ?_
    refine xa_iconst (pc := 10) dX9_load_10 ?_
    refine xa_callS (pc := 11) (as := [xa_i q, xa_i 0, xa_i 2]) (rest := []) dX9_load_11 ⟨qX9_isWithin.1, qX9_isWithin.2.1, qX9_isWithin.2.2, by decide, by decide⟩ lkRX9_89 smX9_isWithin rfl rfl (Nat.le_of_ble_eq_true rfl) (Nat.zero_le _) (Nat.zero_le _) (c_isWithin _ _ _ ⟨by omega, by omega⟩ (by decide) (by decide)) (fun r h' hq => ?_)
    obtain ⟨rfl, hq⟩ := hq
    have hq := hq.symm
    subst hq
    refine xa_if_ne (pc := 14) (tgt := 19) dX9_load_14 (by decide) xa_okb (fun c_14 => ?_) (fun c_14 => ?_)
    · have c_14 := xa_b1.mp c_14
      refine xa_aload_n (pc := 19) dX9_load_19 rfl ?_
      refine xa_getfield (pc := 20) dX9_load_20 flRX9_19 (by omega) (by omega) hX0 rfl ?_
      refine xa_iload_n (pc := 23) dX9_load_23 rfl ?_
      refine xa_iload_n (pc := 24) dX9_load_24 rfl ?_
      refine xa_callV (pc := 25) (as := [xa_i p, xa_i q]) (rest := []) dX9_load_25 ⟨qX0_loadOf.1, qX0_loadOf.2.1, qX0_loadOf.2.2, by decide, by decide⟩ lkRX9_130 imX0_loadOf seX0_loadOf rfl rfl (by omega) (by omega) hB0 rfl (Nat.le_of_ble_eq_true rfl) (Nat.zero_le _) (Nat.zero_le _) (c_loadOf _ _ _ _ _ _ _ _ _ _ _ (by omega) ⟨by omega, by omega⟩ ⟨hB0, hB1, hB2, by omega, by omega⟩) (fun r h' hq => ?_)
      obtain ⟨rfl, hq⟩ := hq
      have hq := hq.symm
      subst hq
      refine xa_ireturn (pc := 28) dX9_load_28 rfl trivial ?_
      exact ⟨by rw [if_pos (by omega)], rfl⟩
    · have c_14 := xa_b0.mp c_14
      refine xa_iconst (pc := 17) dX9_load_17 ?_
      refine xa_ireturn (pc := 18) dX9_load_18 rfl trivial ?_
      exact ⟨by rw [if_neg (by omega)], rfl⟩
theorem c_xJointA {G : xa_G} {h : xa_H} (k : Nat) (kp : Int) (ld dg : Nat → Int) (pa jo : Nat) (wa sr pu ri : Int) (p q : Int) (h1 : xa_ok p) (h2 : xa_ok q) (hwa : xa_ok wa) (hjo : jo ≤ 2) (hX : xX0 h k kp) (hB : xB h (k + 3) ld dg pa jo wa sr pu ri)  : xa_M G mX9_joint [xa_r k, xa_i p, xa_i q] h 0 0 (fun r h' => r = some (xa_i (if (0 ≤ p ∧ p ≤ (jo : Int) - 1) ∧ 0 ≤ q ∧ q ≤ 1 then (if q = 0 then sp_dg dg p else if p = wa then 1 else 0) else -1)) ∧ h' = h) := by
  refine xa_enter (by decide +kernel) (Nat.le_of_ble_eq_true rfl) ?_
  refine xa_locals (ls' := [some (xa_r k), some (xa_i p), some (xa_i q)]) rfl ?_
  have hX' := hX
  obtain ⟨hX0, hk, hkn⟩ := hX
  obtain ⟨hB0, hB1, hB2, hBk, hBn⟩ := hB
  refine xa_aload_n (pc := 0) dX9_joint_0 rfl ?_
  refine xa_iload_n (pc := 1) dX9_joint_1 rfl ?_
  refine xa_callV (pc := 2) (as := [xa_i p]) (rest := []) dX9_joint_2 ⟨qX9_isJoint.1, qX9_isJoint.2.1, qX9_isJoint.2.2, by decide, by decide⟩ lkRX9_134 imX9_isJoint seX9_isJoint rfl rfl (by omega) (by omega) hX0 rfl (Nat.le_of_ble_eq_true rfl) (Nat.zero_le _) (Nat.zero_le _) (c_xJoint k kp ld dg pa jo wa sr pu ri p (by omega) ⟨hX0, hk, by omega⟩ ⟨hB0, hB1, hB2, by omega, by omega⟩) (fun r h' hq => ?_)
  obtain ⟨rfl, hq⟩ := hq
  have hq := hq.symm
  subst hq
  refine xa_if_eq (pc := 5) (tgt := 17) dX9_joint_5 (by decide) xa_okb (fun c_5 => ?_) (fun c_5 => ?_)
  · have c_5 := xa_b0.mp c_5
    refine xa_iconst (pc := 17) dX9_joint_17 ?_
    refine xa_ireturn (pc := 18) dX9_joint_18 rfl trivial ?_
    exact ⟨by rw [if_neg (by omega)], rfl⟩
  · have c_5 := xa_b1.mp c_5
    refine xa_iload_n (pc := 8) dX9_joint_8 rfl ?_
    refine xa_iconst (pc := 9) dX9_joint_9 ?_
    refine xa_iconst (pc := 10) dX9_joint_10 ?_
    refine xa_callS (pc := 11) (as := [xa_i q, xa_i 0, xa_i 1]) (rest := []) dX9_joint_11 ⟨qX9_isWithin.1, qX9_isWithin.2.1, qX9_isWithin.2.2, by decide, by decide⟩ lkRX9_89 smX9_isWithin rfl rfl (Nat.le_of_ble_eq_true rfl) (Nat.zero_le _) (Nat.zero_le _) (c_isWithin _ _ _ ⟨by omega, by omega⟩ (by decide) (by decide)) (fun r h' hq => ?_)
    obtain ⟨rfl, hq⟩ := hq
    have hq := hq.symm
    subst hq
    refine xa_if_ne (pc := 14) (tgt := 19) dX9_joint_14 (by decide) xa_okb (fun c_14 => ?_) (fun c_14 => ?_)
    · have c_14 := xa_b1.mp c_14
      refine xa_iload_n (pc := 19) dX9_joint_19 rfl ?_
      refine xa_if_ne (pc := 20) (tgt := 32) dX9_joint_20 (by decide) ⟨by omega, by omega⟩ (fun c_20 => ?_) (fun c_20 => ?_)
      · skip
        refine xa_aload_n (pc := 32) dX9_joint_32 rfl ?_
        refine xa_getfield (pc := 33) dX9_joint_33 flRX9_19 (by omega) (by omega) hX0 rfl ?_
        refine xa_iload_n (pc := 36) dX9_joint_36 rfl ?_
        refine xa_callV (pc := 37) (as := [xa_i p]) (rest := []) dX9_joint_37 ⟨qX0_isWagging.1, qX0_isWagging.2.1, qX0_isWagging.2.2, by decide, by decide⟩ lkRX9_141 imX0_isWagging seX0_isWagging rfl rfl (by omega) (by omega) hB0 rfl (Nat.le_of_ble_eq_true rfl) (Nat.zero_le _) (Nat.zero_le _) (c_isWagging _ _ _ _ _ _ _ _ _ _ ⟨by omega, by omega⟩ (by assumption) ⟨hB0, hB1, hB2, by omega, by omega⟩) (fun r h' hq => ?_)
        obtain ⟨rfl, hq⟩ := hq
        have hq := hq.symm
        subst hq
        refine xa_if_eq (pc := 40) (tgt := 47) dX9_joint_40 (by decide) xa_okb (fun c_40 => ?_) (fun c_40 => ?_)
        · have c_40 := xa_b0.mp c_40
          refine xa_iconst (pc := 47) dX9_joint_47 ?_
          refine xa_ireturn (pc := 48) dX9_joint_48 rfl trivial ?_
          exact ⟨by rw [if_pos (by omega), if_neg (by omega), if_neg c_40], rfl⟩
        · have c_40 := xa_b1.mp c_40
          refine xa_iconst (pc := 43) dX9_joint_43 ?_
          refine xa_goto (pc := 44) (tgt := 48) dX9_joint_44 (by decide) ?_
          refine xa_ireturn (pc := 48) dX9_joint_48 rfl trivial ?_
          exact ⟨by rw [if_pos (by omega), if_neg (by omega), if_pos c_40], rfl⟩
      · skip
        refine xa_aload_n (pc := 23) dX9_joint_23 rfl ?_
        refine xa_getfield (pc := 24) dX9_joint_24 flRX9_19 (by omega) (by omega) hX0 rfl ?_
        refine xa_iload_n (pc := 27) dX9_joint_27 rfl ?_
        refine xa_callV (pc := 28) (as := [xa_i p]) (rest := []) dX9_joint_28 ⟨qX0_stepOf.1, qX0_stepOf.2.1, qX0_stepOf.2.2, by decide, by decide⟩ lkRX9_137 imX0_stepOf seX0_stepOf rfl rfl (by omega) (by omega) hB0 rfl (Nat.le_of_ble_eq_true rfl) (Nat.zero_le _) (Nat.zero_le _) (c_stepOf _ _ _ _ _ _ _ _ _ _ ⟨by omega, by omega⟩ ⟨hB0, hB1, hB2, by omega, by omega⟩) (fun r h' hq => ?_)
        obtain ⟨rfl, hq⟩ := hq
        have hq := hq.symm
        subst hq
        refine xa_ireturn (pc := 31) dX9_joint_31 rfl trivial ?_
        exact ⟨by rw [if_pos (by omega), if_pos (by omega)], rfl⟩
    · have c_14 := xa_b0.mp c_14
      refine xa_iconst (pc := 17) dX9_joint_17 ?_
      refine xa_ireturn (pc := 18) dX9_joint_18 rfl trivial ?_
      exact ⟨by rw [if_neg (by omega)], rfl⟩
theorem c_xBegun {G : xa_G} {h : xa_H} (k : Nat) (kp : Int) (ld dg : Nat → Int) (pa jo : Nat) (wa sr pu ri : Int) (q : Int) (h2 : xa_ok q) (hX : xX0 h k kp) (hB : xB h (k + 3) ld dg pa jo wa sr pu ri)  : xa_M G mX9_begun [xa_r k, xa_i q] h 0 0 (fun r h' => r = some (xa_i (if q = 0 then pu else if q = 1 then ri else -10000)) ∧ h' = h) := by
  refine xa_enter (by decide +kernel) (Nat.le_of_ble_eq_true rfl) ?_
  refine xa_locals (ls' := [some (xa_r k), some (xa_i q)]) rfl ?_
  have hX' := hX
  obtain ⟨hX0, hk, hkn⟩ := hX
  obtain ⟨hB0, hB1, hB2, hBk, hBn⟩ := hB
  refine xa_iload_n (pc := 0) dX9_begun_0 rfl ?_
  refine xa_iconst (pc := 1) dX9_begun_1 ?_
  refine xa_iconst (pc := 2) dX9_begun_2 ?_
  refine xa_callS (pc := 3) (as := [xa_i q, xa_i 0, xa_i 1]) (rest := []) dX9_begun_3 ⟨qX9_isWithin.1, qX9_isWithin.2.1, qX9_isWithin.2.2, by decide, by decide⟩ lkRX9_89 smX9_isWithin rfl rfl (Nat.le_of_ble_eq_true rfl) (Nat.zero_le _) (Nat.zero_le _) (c_isWithin _ _ _ ⟨by omega, by omega⟩ (by decide) (by decide)) (fun r h' hq => ?_)
  obtain ⟨rfl, hq⟩ := hq
  have hq := hq.symm
  subst hq
  refine xa_if_ne (pc := 6) (tgt := 13) dX9_begun_6 (by decide) xa_okb (fun c_6 => ?_) (fun c_6 => ?_)
  · have c_6 := xa_b1.mp c_6
    refine xa_iload_n (pc := 13) dX9_begun_13 rfl ?_
    refine xa_if_ne (pc := 14) (tgt := 27) dX9_begun_14 (by decide) ⟨by omega, by omega⟩ (fun c_14 => ?_) (fun c_14 => ?_)
    · skip
      refine xa_aload_n (pc := 27) dX9_begun_27 rfl ?_
      refine xa_getfield (pc := 28) dX9_begun_28 flRX9_19 (by omega) (by omega) hX0 rfl ?_
      refine xa_getfield (pc := 31) dX9_begun_31 flRX9_147 (by omega) (by omega) hB0 rfl ?_
      refine xa_ireturn (pc := 34) dX9_begun_34 rfl trivial ?_
      exact ⟨by rw [if_neg (by omega), if_pos (by omega)], rfl⟩
    · skip
      refine xa_aload_n (pc := 17) dX9_begun_17 rfl ?_
      refine xa_getfield (pc := 18) dX9_begun_18 flRX9_19 (by omega) (by omega) hX0 rfl ?_
      refine xa_getfield (pc := 21) dX9_begun_21 flRX9_144 (by omega) (by omega) hB0 rfl ?_
      refine xa_goto (pc := 24) (tgt := 34) dX9_begun_24 (by decide) ?_
      refine xa_ireturn (pc := 34) dX9_begun_34 rfl trivial ?_
      exact ⟨by rw [if_pos (by omega)], rfl⟩
  · have c_6 := xa_b0.mp c_6
    refine xa_sipush (pc := 9) dX9_begun_9 rfl ?_
    refine xa_ireturn (pc := 12) dX9_begun_12 rfl trivial ?_
    exact ⟨by rw [if_neg (by omega), if_neg (by omega)], rfl⟩
theorem c_xMove {G : xa_G} {h : xa_H} (k : Nat) (kp : Int) (mv le fi : Nat → Int) (pc : Nat) (w m : Int) (h1 : xa_ok w) (h2 : xa_ok m) (hle : ∀ i, 0 ≤ le i ∧ le i ≤ 60) (hX : xX0 h k kp) (hH : xH h (k + 11) mv le fi pc)  : xa_M G mX9_move [xa_r k, xa_i w, xa_i m] h 0 0 (fun r h' => (¬ ((0 ≤ w ∧ w ≤ 3) ∧ 0 ≤ m ∧ m ≤ 18) ∧ r = some (xa_i (-1)) ∧ h' = h) ∨ (∃ wn : Nat, w = ((wn : Nat) : Int) ∧ (wn ≤ 3 ∧ 0 ≤ m ∧ m ≤ 18) ∧ le wn = 60 ∧ r = some (xa_i (-3)) ∧ xH h' (k + 11) mv le fi pc ∧ h'.2 = h.2 ∧ ∀ i, (i < k + 11 ∨ k + 15 ≤ i) → h'.1 i = h.1 i) ∨ (∃ wn : Nat, w = ((wn : Nat) : Int) ∧ (wn ≤ 3 ∧ 0 ≤ m ∧ m ≤ 18) ∧ le wn < 60 ∧ r = some (xa_i (le wn + 1)) ∧ xH h' (k + 11) (xa_upf mv (wn * 60 + (le wn).toNat) m) (xa_upf le wn (le wn + 1)) fi pc ∧ h'.2 = h.2 ∧ ∀ i, (i < k + 11 ∨ k + 15 ≤ i) → h'.1 i = h.1 i)) := by
  refine xa_enter (by decide +kernel) (Nat.le_of_ble_eq_true rfl) ?_
  refine xa_locals (ls' := [some (xa_r k), some (xa_i w), some (xa_i m)]) rfl ?_
  have hn : h.2 = h.2 := rfl
  have fr : ∀ i, (i < k + 11 ∨ k + 15 ≤ i) → h.1 i = h.1 i := fun _ _ => rfl
  obtain ⟨hX0, hk, hkn⟩ := hX
  obtain ⟨hH0, hH1, hH2, hH3, hHk, hHn⟩ := hH
  refine xa_iload_n (pc := 0) dX9_move_0 rfl ?_
  refine xa_callS (pc := 1) (as := [xa_i w]) (rest := []) dX9_move_1 ⟨qX9_isWay.1, qX9_isWay.2.1, qX9_isWay.2.2, by decide, by decide⟩ lkRX9_150 smX9_isWay rfl rfl (Nat.le_of_ble_eq_true rfl) (Nat.zero_le _) (Nat.zero_le _) (c_isWay _ ⟨by omega, by omega⟩) (fun r h' hq => ?_)
  obtain ⟨rfl, hq⟩ := hq
  have hq := hq.symm
  subst hq
  refine xa_if_eq (pc := 4) (tgt := 17) dX9_move_4 (by decide) xa_okb (fun c_4 => ?_) (fun c_4 => ?_)
  · have c_4 := xa_b0.mp c_4
    refine xa_iconst (pc := 17) dX9_move_17 ?_
    refine xa_ireturn (pc := 18) dX9_move_18 rfl trivial ?_
    exact Or.inl ⟨by omega, rfl, rfl⟩
  · have c_4 := xa_b1.mp c_4
    refine xa_iload_n (pc := 7) dX9_move_7 rfl ?_
    refine xa_iconst (pc := 8) dX9_move_8 ?_
    refine xa_bipush (pc := 9) dX9_move_9 rfl ?_
    refine xa_callS (pc := 11) (as := [xa_i m, xa_i 0, xa_i 18]) (rest := []) dX9_move_11 ⟨qX9_isWithin.1, qX9_isWithin.2.1, qX9_isWithin.2.2, by decide, by decide⟩ lkRX9_89 smX9_isWithin rfl rfl (Nat.le_of_ble_eq_true rfl) (Nat.zero_le _) (Nat.zero_le _) (c_isWithin _ _ _ ⟨by omega, by omega⟩ (by decide) (by decide)) (fun r h' hq => ?_)
    obtain ⟨rfl, hq⟩ := hq
    have hq := hq.symm
    subst hq
    refine xa_if_ne (pc := 14) (tgt := 19) dX9_move_14 (by decide) xa_okb (fun c_14 => ?_) (fun c_14 => ?_)
    · have c_14 := xa_b1.mp c_14
      obtain ⟨wn, rfl⟩ : ∃ z : Nat, w = (z : Int) := ⟨w.toNat, by omega⟩
      refine xa_aload_n (pc := 19) dX9_move_19 rfl ?_
      refine xa_getfield (pc := 20) dX9_move_20 flRX9_38 (by omega) (by omega) hX0 rfl ?_
      refine xa_iload_n (pc := 23) dX9_move_23 rfl ?_
      refine xa_iload_n (pc := 24) dX9_move_24 rfl ?_
      refine xa_callV (pc := 25) (as := [xa_i ((wn : Nat) : Int), xa_i m]) (rest := []) dX9_move_25 ⟨qX5_addMove.1, qX5_addMove.2.1, qX5_addMove.2.2, by decide, by decide⟩ lkRX9_153 imX5_addMove seX5_addMove rfl rfl (by omega) (by omega) hH0 rfl (Nat.le_of_ble_eq_true rfl) (Nat.zero_le _) (Nat.zero_le _) (c_addMove _ _ _ _ _ wn m (by omega) hle ⟨hH0, hH1, hH2, hH3, by omega, by omega⟩) (fun r h' hq => ?_)
      obtain ⟨hqs, hq⟩ := hq
      have hqx := hq
      have hq := hqs
      rcases hq with hq2 | hq2
      · skip
        have hq := hqx
        obtain ⟨⟨hl9, rfl, ⟨hH0, hH1, hH2, hH3, -, -⟩⟩, hqn, hqf⟩ := And.intro hq2 hq
        have hH0 : h'.1 (k + 11) = xa_o 5 [xa_r (k + 11 + 1), xa_r (k + 11 + 2), xa_r (k + 11 + 3), xa_i ((pc : Nat) : Int)] := hH0
        have hH1 : h'.1 (k + 11 + 1) = xa_a 240 (xa_upf mv (wn * 60 + (le wn).toNat) m) := hH1
        have hH2 : h'.1 (k + 11 + 2) = xa_a 4 (xa_upf le wn (le wn + 1)) := hH2
        have hH3 : h'.1 (k + 11 + 3) = xa_a 120 fi := hH3
        have hX0 : h'.1 k = xa_o 9 [xa_r (k + 1), xa_r (k + 3), xa_r (k + 6), xa_r (k + 9), xa_r (k + 11), xa_r (k + 15), xa_i kp, xa_r (k + 24), xa_r (k + 31), xa_r (k + 32), xa_r (k + 36), xa_r (k + 48), xa_r (k + 60)] := (hqf _ (by omega)).trans hX0
        have hn : h'.2 = h.2 := hqn.trans hn
        have fr : ∀ i, (i < k + 11 ∨ k + 15 ≤ i) → h'.1 i = h.1 i := fun i hi => (hqf i (by omega)).trans (fr i hi)
        refine xa_if_eq (pc := 28) (tgt := 42) dX9_move_28 (by decide) (by decide) (fun c_28 => ?_) (fun c_28 => ?_)
        · skip
          exfalso; omega
        · skip
          refine xa_aload_n (pc := 31) dX9_move_31 rfl ?_
          refine xa_getfield (pc := 32) dX9_move_32 flRX9_38 (by omega) (by omega) hX0 rfl ?_
          refine xa_iload_n (pc := 35) dX9_move_35 rfl ?_
          refine xa_callV (pc := 36) (as := [xa_i ((wn : Nat) : Int)]) (rest := []) dX9_move_36 ⟨qX5_lengthOf.1, qX5_lengthOf.2.1, qX5_lengthOf.2.2, by decide, by decide⟩ lkRX9_157 imX5_lengthOf seX5_lengthOf rfl rfl (by omega) (by omega) hH0 rfl (Nat.le_of_ble_eq_true rfl) (Nat.zero_le _) (Nat.zero_le _) (c_lengthOf _ _ _ _ _ _ ⟨by omega, by omega⟩ ⟨hH0, hH1, hH2, hH3, by omega, by omega⟩) (fun r h' hq => ?_)
          obtain ⟨rfl, hq⟩ := hq
          have hq := hq.symm
          subst hq
          refine xa_goto (pc := 39) (tgt := 44) dX9_move_39 (by decide) ?_
          refine xa_ireturn (pc := 44) dX9_move_44 rfl trivial ?_
          exact Or.inr (Or.inr ⟨wn, rfl, by omega, by omega, by rw [show sp_len (xa_upf le wn (le wn + 1)) ((wn : Nat) : Int) = le wn + 1 by unfold sp_len; rw [if_pos (by omega), show ((wn : Nat) : Int).toNat = wn by omega, xa_upf_at]], ⟨hH0, hH1, hH2, hH3, by omega, by omega⟩, hn, fr⟩)
      · skip
        have hq := hqx
        obtain ⟨⟨hl9, rfl, ⟨hH0, hH1, hH2, hH3, -, -⟩⟩, hqn, hqf⟩ := And.intro hq2 hq
        have hH0 : h'.1 (k + 11) = xa_o 5 [xa_r (k + 11 + 1), xa_r (k + 11 + 2), xa_r (k + 11 + 3), xa_i ((pc : Nat) : Int)] := hH0
        have hH1 : h'.1 (k + 11 + 1) = xa_a 240 mv := hH1
        have hH2 : h'.1 (k + 11 + 2) = xa_a 4 le := hH2
        have hH3 : h'.1 (k + 11 + 3) = xa_a 120 fi := hH3
        have hX0 : h'.1 k = xa_o 9 [xa_r (k + 1), xa_r (k + 3), xa_r (k + 6), xa_r (k + 9), xa_r (k + 11), xa_r (k + 15), xa_i kp, xa_r (k + 24), xa_r (k + 31), xa_r (k + 32), xa_r (k + 36), xa_r (k + 48), xa_r (k + 60)] := (hqf _ (by omega)).trans hX0
        have hn : h'.2 = h.2 := hqn.trans hn
        have fr : ∀ i, (i < k + 11 ∨ k + 15 ≤ i) → h'.1 i = h.1 i := fun i hi => (hqf i (by omega)).trans (fr i hi)
        refine xa_if_eq (pc := 28) (tgt := 42) dX9_move_28 (by decide) (by decide) (fun c_28 => ?_) (fun c_28 => ?_)
        · skip
          refine xa_bipush (pc := 42) dX9_move_42 rfl ?_
          refine xa_ireturn (pc := 44) dX9_move_44 rfl trivial ?_
          have hl8 := hle wn
          exact Or.inr (Or.inl ⟨wn, rfl, by omega, by omega, rfl, ⟨hH0, hH1, hH2, hH3, by omega, by omega⟩, hn, fr⟩)
        · skip
          exfalso; omega
    · have c_14 := xa_b0.mp c_14
      refine xa_iconst (pc := 17) dX9_move_17 ?_
      refine xa_ireturn (pc := 18) dX9_move_18 rfl trivial ?_
      exact Or.inl ⟨by omega, rfl, rfl⟩
theorem c_xNoWay {G : xa_G} {h : xa_H} (k : Nat) (kp : Int) (mv le fi : Nat → Int) (pc : Nat) (w : Int) (h1 : xa_ok w) (hX : xX0 h k kp) (hH : xH h (k + 11) mv le fi pc)  : xa_M G mX9_noWay [xa_r k, xa_i w] h 0 0 (fun r h' => (¬ (0 ≤ w ∧ w ≤ 3) ∧ r = some (xa_i (-1)) ∧ h' = h) ∨ (∃ wn : Nat, w = ((wn : Nat) : Int) ∧ wn ≤ 3 ∧ r = some (xa_i (le wn)) ∧ xH h' (k + 11) mv (xa_upf le wn 0) fi pc ∧ h'.2 = h.2 ∧ ∀ i, (i < k + 11 ∨ k + 15 ≤ i) → h'.1 i = h.1 i)) := by
  refine xa_enter (by decide +kernel) (Nat.le_of_ble_eq_true rfl) ?_
  refine xa_locals (ls' := [some (xa_r k), some (xa_i w)]) rfl ?_
  have hn : h.2 = h.2 := rfl
  have fr : ∀ i, (i < k + 11 ∨ k + 15 ≤ i) → h.1 i = h.1 i := fun _ _ => rfl
  obtain ⟨hX0, hk, hkn⟩ := hX
  obtain ⟨hH0, hH1, hH2, hH3, hHk, hHn⟩ := hH
  refine xa_iload_n (pc := 0) dX9_noWay_0 rfl ?_
  refine xa_callS (pc := 1) (as := [xa_i w]) (rest := []) dX9_noWay_1 ⟨qX9_isWay.1, qX9_isWay.2.1, qX9_isWay.2.2, by decide, by decide⟩ lkRX9_150 smX9_isWay rfl rfl (Nat.le_of_ble_eq_true rfl) (Nat.zero_le _) (Nat.zero_le _) (c_isWay _ ⟨by omega, by omega⟩) (fun r h' hq => ?_)
  obtain ⟨rfl, hq⟩ := hq
  have hq := hq.symm
  subst hq
  refine xa_if_eq (pc := 4) (tgt := 18) dX9_noWay_4 (by decide) xa_okb (fun c_4 => ?_) (fun c_4 => ?_)
  · have c_4 := xa_b0.mp c_4
    refine xa_iconst (pc := 18) dX9_noWay_18 ?_
    refine xa_ireturn (pc := 19) dX9_noWay_19 rfl trivial ?_
    exact Or.inl ⟨by omega, rfl, rfl⟩
  · have c_4 := xa_b1.mp c_4
    obtain ⟨wn, rfl⟩ : ∃ z : Nat, w = (z : Int) := ⟨w.toNat, by omega⟩
    refine xa_aload_n (pc := 7) dX9_noWay_7 rfl ?_
    refine xa_getfield (pc := 8) dX9_noWay_8 flRX9_38 (by omega) (by omega) hX0 rfl ?_
    refine xa_iload_n (pc := 11) dX9_noWay_11 rfl ?_
    refine xa_callV (pc := 12) (as := [xa_i ((wn : Nat) : Int)]) (rest := []) dX9_noWay_12 ⟨qX5_clearWay.1, qX5_clearWay.2.1, qX5_clearWay.2.2, by decide, by decide⟩ lkRX9_160 imX5_clearWay seX5_clearWay rfl rfl (by omega) (by omega) hH0 rfl (Nat.le_of_ble_eq_true rfl) (Nat.zero_le _) (Nat.zero_le _) (c_clearWay _ _ _ _ _ wn (by omega) ⟨hH0, hH1, hH2, hH3, by omega, by omega⟩) (fun r h' hq => ?_)
    obtain ⟨rfl, ⟨hH0, hH1, hH2, hH3, -, -⟩, hqn, hqf⟩ := hq
    have hH0 : h'.1 (k + 11) = xa_o 5 [xa_r (k + 11 + 1), xa_r (k + 11 + 2), xa_r (k + 11 + 3), xa_i ((pc : Nat) : Int)] := hH0
    have hH1 : h'.1 (k + 11 + 1) = xa_a 240 mv := hH1
    have hH2 : h'.1 (k + 11 + 2) = xa_a 4 (xa_upf le wn 0) := hH2
    have hH3 : h'.1 (k + 11 + 3) = xa_a 120 fi := hH3
    have hX0 : h'.1 k = xa_o 9 [xa_r (k + 1), xa_r (k + 3), xa_r (k + 6), xa_r (k + 9), xa_r (k + 11), xa_r (k + 15), xa_i kp, xa_r (k + 24), xa_r (k + 31), xa_r (k + 32), xa_r (k + 36), xa_r (k + 48), xa_r (k + 60)] := (hqf _ (by omega)).trans hX0
    have hn : h'.2 = h.2 := hqn.trans hn
    have fr : ∀ i, (i < k + 11 ∨ k + 15 ≤ i) → h'.1 i = h.1 i := fun i hi => (hqf i (by omega)).trans (fr i hi)
    refine xa_goto (pc := 15) (tgt := 19) dX9_noWay_15 (by decide) ?_
    refine xa_ireturn (pc := 19) dX9_noWay_19 rfl trivial ?_
    exact Or.inr ⟨wn, rfl, by omega, rfl, ⟨hH0, hH1, hH2, hH3, by omega, by omega⟩, hn, fr⟩
theorem c_xPicture {G : xa_G} {h : xa_H} (k : Nat) (kp : Int) (ld dg : Nat → Int) (pa jo : Nat) (wa sr pu ri : Int) (mv le fi : Nat → Int) (pc : Nat) (a b c d : Int) (h1 : xa_ok a) (h2 : xa_ok b) (h3 : xa_ok c) (h4 : xa_ok d) (hpa : pa ≤ 3) (hpc : pc ≤ 30) (hX : xX0 h k kp) (hB : xB h (k + 3) ld dg pa jo wa sr pu ri) (hH : xH h (k + 11) mv le fi pc)  : xa_M G mX9_picture [xa_r k, xa_i a, xa_i b, xa_i c, xa_i d] h 0 0 (fun r h' => (¬ ((0 ≤ a ∧ a ≤ 60) ∧ (0 ≤ b ∧ b ≤ (pa : Int) - 1) ∧ (0 ≤ c ∧ c ≤ 359) ∧ 0 ≤ d ∧ d ≤ 90) ∧ r = some (xa_i (-1)) ∧ h' = h) ∨ (((0 ≤ a ∧ a ≤ 60) ∧ (0 ≤ b ∧ b ≤ (pa : Int) - 1) ∧ (0 ≤ c ∧ c ≤ 359) ∧ 0 ≤ d ∧ d ≤ 90) ∧ pc = 30 ∧ r = some (xa_i (-3)) ∧ xH h' (k + 11) mv le fi pc ∧ h'.2 = h.2 ∧ ∀ i, (i < k + 11 ∨ k + 15 ≤ i) → h'.1 i = h.1 i) ∨ (((0 ≤ a ∧ a ≤ 60) ∧ (0 ≤ b ∧ b ≤ (pa : Int) - 1) ∧ (0 ≤ c ∧ c ≤ 359) ∧ 0 ≤ d ∧ d ≤ 90) ∧ pc < 30 ∧ r = some (xa_i ((pc + 1 : Nat) : Int)) ∧ xH h' (k + 11) mv le (xa_upf (xa_upf (xa_upf (xa_upf fi (pc * 4) a) (pc * 4 + 1) b) (pc * 4 + 2) c) (pc * 4 + 3) d) (pc + 1) ∧ h'.2 = h.2 ∧ ∀ i, (i < k + 11 ∨ k + 15 ≤ i) → h'.1 i = h.1 i)) := by
  refine xa_enter (by decide +kernel) (Nat.le_of_ble_eq_true rfl) ?_
  refine xa_locals (ls' := [some (xa_r k), some (xa_i a), some (xa_i b), some (xa_i c), some (xa_i d)]) rfl ?_
  have hn : h.2 = h.2 := rfl
  have fr : ∀ i, (i < k + 11 ∨ k + 15 ≤ i) → h.1 i = h.1 i := fun _ _ => rfl
  obtain ⟨hX0, hk, hkn⟩ := hX
  obtain ⟨hB0, hB1, hB2, hBk, hBn⟩ := hB
  obtain ⟨hH0, hH1, hH2, hH3, hHk, hHn⟩ := hH
  refine xa_iload_n (pc := 0) dX9_picture_0 rfl ?_
  refine xa_iconst (pc := 1) dX9_picture_1 ?_
  refine xa_bipush (pc := 2) dX9_picture_2 rfl ?_
  refine xa_callS (pc := 4) (as := [xa_i a, xa_i 0, xa_i 60]) (rest := []) dX9_picture_4 ⟨qX9_isWithin.1, qX9_isWithin.2.1, qX9_isWithin.2.2, by decide, by decide⟩ lkRX9_89 smX9_isWithin rfl rfl (Nat.le_of_ble_eq_true rfl) (Nat.zero_le _) (Nat.zero_le _) (c_isWithin _ _ _ ⟨by omega, by omega⟩ (by decide) (by decide)) (fun r h' hq => ?_)
  obtain ⟨rfl, hq⟩ := hq
  have hq := hq.symm
  subst hq
  refine xa_if_eq (pc := 7) (tgt := 36) dX9_picture_7 (by decide) xa_okb (fun c_7 => ?_) (fun c_7 => ?_)
  · have c_7 := xa_b0.mp c_7
    refine xa_iconst (pc := 36) dX9_picture_36 ?_
    refine xa_ireturn (pc := 37) dX9_picture_37 rfl trivial ?_
    exact Or.inl ⟨by omega, rfl, rfl⟩
  · have c_7 := xa_b1.mp c_7
    refine xa_aload_n (pc := 10) dX9_picture_10 rfl ?_
    refine xa_iload_n (pc := 11) dX9_picture_11 rfl ?_
    refine xa_callV (pc := 12) (as := [xa_i b]) (rest := []) dX9_picture_12 ⟨qX9_isPart.1, qX9_isPart.2.1, qX9_isPart.2.2, by decide, by decide⟩ lkRX9_127 imX9_isPart seX9_isPart rfl rfl (by omega) (by omega) hX0 rfl (Nat.le_of_ble_eq_true rfl) (Nat.zero_le _) (Nat.zero_le _) (c_xPart k kp ld dg pa jo wa sr pu ri b (by omega) ⟨hX0, hk, by omega⟩ ⟨hB0, hB1, hB2, by omega, by omega⟩) (fun r h' hq => ?_)
    obtain ⟨rfl, hq⟩ := hq
    have hq := hq.symm
    subst hq
    refine xa_if_eq (pc := 15) (tgt := 36) dX9_picture_15 (by decide) xa_okb (fun c_15 => ?_) (fun c_15 => ?_)
    · have c_15 := xa_b0.mp c_15
      refine xa_iconst (pc := 36) dX9_picture_36 ?_
      refine xa_ireturn (pc := 37) dX9_picture_37 rfl trivial ?_
      exact Or.inl ⟨by omega, rfl, rfl⟩
    · have c_15 := xa_b1.mp c_15
      refine xa_iload_n (pc := 18) dX9_picture_18 rfl ?_
      refine xa_callS (pc := 19) (as := [xa_i c]) (rest := []) dX9_picture_19 ⟨qX9_isTurn.1, qX9_isTurn.2.1, qX9_isTurn.2.2, by decide, by decide⟩ lkRX9_163 smX9_isTurn rfl rfl (Nat.le_of_ble_eq_true rfl) (Nat.zero_le _) (Nat.zero_le _) (c_isTurn _ ⟨by omega, by omega⟩) (fun r h' hq => ?_)
      obtain ⟨rfl, hq⟩ := hq
      have hq := hq.symm
      subst hq
      refine xa_if_eq (pc := 22) (tgt := 36) dX9_picture_22 (by decide) xa_okb (fun c_22 => ?_) (fun c_22 => ?_)
      · have c_22 := xa_b0.mp c_22
        refine xa_iconst (pc := 36) dX9_picture_36 ?_
        refine xa_ireturn (pc := 37) dX9_picture_37 rfl trivial ?_
        exact Or.inl ⟨by omega, rfl, rfl⟩
      · have c_22 := xa_b1.mp c_22
        refine xa_iload (pc := 25) dX9_picture_25 rfl ?_
        refine xa_iconst (pc := 27) dX9_picture_27 ?_
        refine xa_bipush (pc := 28) dX9_picture_28 rfl ?_
        refine xa_callS (pc := 30) (as := [xa_i d, xa_i 0, xa_i 90]) (rest := []) dX9_picture_30 ⟨qX9_isWithin.1, qX9_isWithin.2.1, qX9_isWithin.2.2, by decide, by decide⟩ lkRX9_89 smX9_isWithin rfl rfl (Nat.le_of_ble_eq_true rfl) (Nat.zero_le _) (Nat.zero_le _) (c_isWithin _ _ _ ⟨by omega, by omega⟩ (by decide) (by decide)) (fun r h' hq => ?_)
        obtain ⟨rfl, hq⟩ := hq
        have hq := hq.symm
        subst hq
        refine xa_if_ne (pc := 33) (tgt := 38) dX9_picture_33 (by decide) xa_okb (fun c_33 => ?_) (fun c_33 => ?_)
        · have c_33 := xa_b1.mp c_33
          refine xa_aload_n (pc := 38) dX9_picture_38 rfl ?_
          refine xa_getfield (pc := 39) dX9_picture_39 flRX9_38 (by omega) (by omega) hX0 rfl ?_
          refine xa_iload_n (pc := 42) dX9_picture_42 rfl ?_
          refine xa_iload_n (pc := 43) dX9_picture_43 rfl ?_
          refine xa_iload_n (pc := 44) dX9_picture_44 rfl ?_
          refine xa_iload (pc := 45) dX9_picture_45 rfl ?_
          refine xa_callV (pc := 47) (as := [xa_i a, xa_i b, xa_i c, xa_i d]) (rest := []) dX9_picture_47 ⟨qX5_addPicture.1, qX5_addPicture.2.1, qX5_addPicture.2.2, by decide, by decide⟩ lkRX9_220 imX5_addPicture seX5_addPicture rfl rfl (by omega) (by omega) hH0 rfl (Nat.le_of_ble_eq_true rfl) (Nat.zero_le _) (Nat.zero_le _) (c_addPicture _ _ _ _ pc a b c d (by omega) ⟨hH0, hH1, hH2, hH3, by omega, by omega⟩) (fun r h' hq => ?_)
          obtain ⟨hqs, hq⟩ := hq
          have hqx := hq
          have hq := hqs
          rcases hq with hq2 | hq2
          · skip
            have hq := hqx
            obtain ⟨⟨hl9, rfl, ⟨hH0, hH1, hH2, hH3, -, -⟩⟩, hqn, hqf⟩ := And.intro hq2 hq
            have hH0 : h'.1 (k + 11) = xa_o 5 [xa_r (k + 11 + 1), xa_r (k + 11 + 2), xa_r (k + 11 + 3), xa_i ((pc + 1 : Nat) : Int)] := hH0
            have hH1 : h'.1 (k + 11 + 1) = xa_a 240 mv := hH1
            have hH2 : h'.1 (k + 11 + 2) = xa_a 4 le := hH2
            have hH3 : h'.1 (k + 11 + 3) = xa_a 120 (xa_upf (xa_upf (xa_upf (xa_upf fi (pc * 4) a) (pc * 4 + 1) b) (pc * 4 + 2) c) (pc * 4 + 3) d) := hH3
            have hX0 : h'.1 k = xa_o 9 [xa_r (k + 1), xa_r (k + 3), xa_r (k + 6), xa_r (k + 9), xa_r (k + 11), xa_r (k + 15), xa_i kp, xa_r (k + 24), xa_r (k + 31), xa_r (k + 32), xa_r (k + 36), xa_r (k + 48), xa_r (k + 60)] := (hqf _ (by omega)).trans hX0
            have hB0 : h'.1 (k + 3) = xa_o 0 [xa_r (k + 3 + 1), xa_r (k + 3 + 2), xa_i ((pa : Nat) : Int), xa_i ((jo : Nat) : Int), xa_i wa, xa_i sr, xa_i pu, xa_i ri] := (hqf _ (by omega)).trans hB0
            have hB1 : h'.1 (k + 3 + 1) = xa_a 9 ld := (hqf _ (by omega)).trans hB1
            have hB2 : h'.1 (k + 3 + 2) = xa_a 2 dg := (hqf _ (by omega)).trans hB2
            have hn : h'.2 = h.2 := hqn.trans hn
            have fr : ∀ i, (i < k + 11 ∨ k + 15 ≤ i) → h'.1 i = h.1 i := fun i hi => (hqf i (by omega)).trans (fr i hi)
            refine xa_if_eq (pc := 50) (tgt := 63) dX9_picture_50 (by decide) (by decide) (fun c_50 => ?_) (fun c_50 => ?_)
            · skip
              exfalso; omega
            · skip
              refine xa_aload_n (pc := 53) dX9_picture_53 rfl ?_
              refine xa_getfield (pc := 54) dX9_picture_54 flRX9_38 (by omega) (by omega) hX0 rfl ?_
              refine xa_getfield (pc := 57) dX9_picture_57 flRX9_224 (by omega) (by omega) hH0 rfl ?_
              refine xa_goto (pc := 60) (tgt := 65) dX9_picture_60 (by decide) ?_
              refine xa_ireturn (pc := 65) dX9_picture_65 rfl trivial ?_
              exact Or.inr (Or.inr ⟨by omega, by omega, rfl, ⟨hH0, hH1, hH2, hH3, by omega, by omega⟩, hn, fr⟩)
          · skip
            have hq := hqx
            obtain ⟨⟨hl9, rfl, ⟨hH0, hH1, hH2, hH3, -, -⟩⟩, hqn, hqf⟩ := And.intro hq2 hq
            have hH0 : h'.1 (k + 11) = xa_o 5 [xa_r (k + 11 + 1), xa_r (k + 11 + 2), xa_r (k + 11 + 3), xa_i ((pc : Nat) : Int)] := hH0
            have hH1 : h'.1 (k + 11 + 1) = xa_a 240 mv := hH1
            have hH2 : h'.1 (k + 11 + 2) = xa_a 4 le := hH2
            have hH3 : h'.1 (k + 11 + 3) = xa_a 120 fi := hH3
            have hX0 : h'.1 k = xa_o 9 [xa_r (k + 1), xa_r (k + 3), xa_r (k + 6), xa_r (k + 9), xa_r (k + 11), xa_r (k + 15), xa_i kp, xa_r (k + 24), xa_r (k + 31), xa_r (k + 32), xa_r (k + 36), xa_r (k + 48), xa_r (k + 60)] := (hqf _ (by omega)).trans hX0
            have hB0 : h'.1 (k + 3) = xa_o 0 [xa_r (k + 3 + 1), xa_r (k + 3 + 2), xa_i ((pa : Nat) : Int), xa_i ((jo : Nat) : Int), xa_i wa, xa_i sr, xa_i pu, xa_i ri] := (hqf _ (by omega)).trans hB0
            have hB1 : h'.1 (k + 3 + 1) = xa_a 9 ld := (hqf _ (by omega)).trans hB1
            have hB2 : h'.1 (k + 3 + 2) = xa_a 2 dg := (hqf _ (by omega)).trans hB2
            have hn : h'.2 = h.2 := hqn.trans hn
            have fr : ∀ i, (i < k + 11 ∨ k + 15 ≤ i) → h'.1 i = h.1 i := fun i hi => (hqf i (by omega)).trans (fr i hi)
            refine xa_if_eq (pc := 50) (tgt := 63) dX9_picture_50 (by decide) (by decide) (fun c_50 => ?_) (fun c_50 => ?_)
            · skip
              refine xa_bipush (pc := 63) dX9_picture_63 rfl ?_
              refine xa_ireturn (pc := 65) dX9_picture_65 rfl trivial ?_
              exact Or.inr (Or.inl ⟨by omega, by omega, rfl, ⟨hH0, hH1, hH2, hH3, by omega, by omega⟩, hn, fr⟩)
            · skip
              exfalso; omega
        · have c_33 := xa_b0.mp c_33
          refine xa_iconst (pc := 36) dX9_picture_36 ?_
          refine xa_ireturn (pc := 37) dX9_picture_37 rfl trivial ?_
          exact Or.inl ⟨by omega, rfl, rfl⟩
theorem c_xNoFilm {G : xa_G} {h : xa_H} (k : Nat) (kp : Int) (mv le fi : Nat → Int) (pc : Nat) (hX : xX0 h k kp) (hH : xH h (k + 11) mv le fi pc)  : xa_M G mX9_noFilm [xa_r k] h 0 0 (fun r h' => r = some (xa_i ((pc : Nat) : Int)) ∧ xH h' (k + 11) mv le fi 0 ∧ h'.2 = h.2 ∧ ∀ i, (i < k + 11 ∨ k + 15 ≤ i) → h'.1 i = h.1 i) := by
  refine xa_enter (by decide +kernel) (Nat.le_of_ble_eq_true rfl) ?_
  refine xa_locals (ls' := [some (xa_r k), none]) rfl ?_
  have hn : h.2 = h.2 := rfl
  have fr : ∀ i, (i < k + 11 ∨ k + 15 ≤ i) → h.1 i = h.1 i := fun _ _ => rfl
  obtain ⟨hX0, hk, hkn⟩ := hX
  obtain ⟨hH0, hH1, hH2, hH3, hHk, hHn⟩ := hH
  refine xa_aload_n (pc := 0) dX9_noFilm_0 rfl ?_
  refine xa_getfield (pc := 1) dX9_noFilm_1 flRX9_38 (by omega) (by omega) hX0 rfl ?_
  refine xa_getfield (pc := 4) dX9_noFilm_4 flRX9_224 (by omega) (by omega) hH0 rfl ?_
  refine xa_istoren (pc := 7) [some (xa_r k), some (xa_i ((pc : Nat) : Int))] dX9_noFilm_7 (by decide) (Nat.le_of_ble_eq_true rfl) rfl rfl ?_
  refine xa_aload_n (pc := 8) dX9_noFilm_8 rfl ?_
  refine xa_getfield (pc := 9) dX9_noFilm_9 flRX9_38 (by omega) (by omega) hX0 rfl ?_
  refine xa_iconst (pc := 12) dX9_noFilm_12 ?_
  refine xa_putw (pc := 13) [xa_r (k + 11 + 1), xa_r (k + 11 + 2), xa_r (k + 11 + 3), xa_i 0] dX9_noFilm_13 flRX9_224 plX5_3 (by omega) (by omega) hH0 trivial rfl (fun h1 nh1 ch1 oh1 => ?_)
  have hH0 : h1.1 (k + 11) = xa_o 5 [xa_r (k + 11 + 1), xa_r (k + 11 + 2), xa_r (k + 11 + 3), xa_i 0] := ch1
  have hX0 : h1.1 k = xa_o 9 [xa_r (k + 1), xa_r (k + 3), xa_r (k + 6), xa_r (k + 9), xa_r (k + 11), xa_r (k + 15), xa_i kp, xa_r (k + 24), xa_r (k + 31), xa_r (k + 32), xa_r (k + 36), xa_r (k + 48), xa_r (k + 60)] := (oh1 _ (by omega)).trans hX0
  have hH1 : h1.1 (k + 11 + 1) = xa_a 240 mv := (oh1 _ (by omega)).trans hH1
  have hH2 : h1.1 (k + 11 + 2) = xa_a 4 le := (oh1 _ (by omega)).trans hH2
  have hH3 : h1.1 (k + 11 + 3) = xa_a 120 fi := (oh1 _ (by omega)).trans hH3
  have hn : h1.2 = h.2 := nh1.trans hn
  have fr : ∀ i, (i < k + 11 ∨ k + 15 ≤ i) → h1.1 i = h.1 i := fun i hi => (oh1 i (by omega)).trans (fr i hi)
  refine xa_iload_n (pc := 16) dX9_noFilm_16 rfl ?_
  refine xa_ireturn (pc := 17) dX9_noFilm_17 rfl trivial ?_
  exact ⟨rfl, ⟨hH0, hH1, hH2, hH3, by omega, by omega⟩, hn, fr⟩
theorem c_xFall {G : xa_G} {h : xa_H} (k : Nat) (kp : Int) (H : Int) (h1 : xa_ok H) (hX : xX0 h k kp)  : xa_M G mX9_fall [xa_r k, xa_i H] h 0 0 (fun r h' => (¬ (0 ≤ H ∧ H ≤ 100000) ∧ r = some (xa_i (-1)) ∨ (0 ≤ H ∧ H ≤ 100000) ∧ ∃ t : Nat, r = some (xa_i ((t : Nat) : Int)) ∧ (t : Int) * t ≤ H ∧ H < ((t : Int) + 1) * ((t : Int) + 1)) ∧ h' = h) := by
  refine xa_enter (by decide +kernel) (Nat.le_of_ble_eq_true rfl) ?_
  refine xa_locals (ls' := [some (xa_r k), some (xa_i H)]) rfl ?_
  obtain ⟨hX0, hk, hkn⟩ := hX
  refine xa_iload_n (pc := 0) dX9_fall_0 rfl ?_
  refine xa_iconst (pc := 1) dX9_fall_1 ?_
  refine xa_ldc (pc := 2) (n := 100000) dX9_fall_2 ctRX9_207 rfl ?_
  refine xa_callS (pc := 4) (as := [xa_i H, xa_i 0, xa_i 100000]) (rest := []) dX9_fall_4 ⟨qX9_isWithin.1, qX9_isWithin.2.1, qX9_isWithin.2.2, by decide, by decide⟩ lkRX9_89 smX9_isWithin rfl rfl (Nat.le_of_ble_eq_true rfl) (Nat.zero_le _) (Nat.zero_le _) (c_isWithin _ _ _ ⟨by omega, by omega⟩ (by decide) (by decide)) (fun r h' hq => ?_)
  obtain ⟨rfl, hq⟩ := hq
  have hq := hq.symm
  subst hq
  refine xa_if_eq (pc := 7) (tgt := 17) dX9_fall_7 (by decide) xa_okb (fun c_7 => ?_) (fun c_7 => ?_)
  · have c_7 := xa_b0.mp c_7
    refine xa_iconst (pc := 17) dX9_fall_17 ?_
    refine xa_ireturn (pc := 18) dX9_fall_18 rfl trivial ?_
    exact ⟨Or.inl ⟨by omega, rfl⟩, rfl⟩
  · have c_7 := xa_b1.mp c_7
    refine xa_iload_n (pc := 10) dX9_fall_10 rfl ?_
    refine xa_callS (pc := 11) (as := [xa_i H]) (rest := []) dX9_fall_11 ⟨qX9_ticksOfFall.1, qX9_ticksOfFall.2.1, qX9_ticksOfFall.2.2, by decide, by decide⟩ lkRX9_208 smX9_ticksOfFall rfl rfl (Nat.le_of_ble_eq_true rfl) (Nat.zero_le _) (Nat.zero_le _) (c_ticksOfFall H (by omega)) (fun r h' hq => ?_)
    obtain ⟨⟨t, rfl, ht1, ht2⟩, hq⟩ := hq
    have hq := hq.symm
    subst hq
    refine xa_goto (pc := 14) (tgt := 18) dX9_fall_14 (by decide) ?_
    refine xa_ireturn (pc := 18) dX9_fall_18 rfl trivial ?_
    exact ⟨Or.inr ⟨by omega, t, rfl, ht1, ht2⟩, rfl⟩
theorem c_xCount {G : xa_G} {h : xa_H} (k : Nat) (kp : Int) (ld dg : Nat → Int) (pa jo : Nat) (wa sr pu ri : Int) (mv le fi : Nat → Int) (pc : Nat) (n : Nat) (f : Nat → Int) (q : Int) (h1 : xa_ok q) (hX : xX0 h k kp) (hB : xB h (k + 3) ld dg pa jo wa sr pu ri) (hH : xH h (k + 11) mv le fi pc) (hT : xT h (k + 1) n f)  : xa_M G mX9_count [xa_r k, xa_i q] h 0 0 (fun r h' => r = some (xa_i (if q = 0 then (pa : Int) else if q = 1 then (n : Int) else if q = 2 then le 0 + le 1 + le 2 + le 3 else if q = 3 then (pc : Int) else if q = 4 then kp else -1)) ∧ h' = h) := by
  refine xa_enter (by decide +kernel) (Nat.le_of_ble_eq_true rfl) ?_
  refine xa_locals (ls' := [some (xa_r k), some (xa_i q)]) rfl ?_
  obtain ⟨hX0, hk, hkn⟩ := hX
  obtain ⟨hB0, hB1, hB2, hBk, hBn⟩ := hB
  obtain ⟨hH0, hH1, hH2, hH3, hHk, hHn⟩ := hH
  obtain ⟨hT0, hT1, hTk, hTn, hTl, hTf⟩ := hT
  refine xa_iload_n (pc := 0) dX9_count_0 rfl ?_
  by_cases w_1_0 : q = 0
  · refine xa_tableIn (pc := 1) (off := 35) (tgt := 36) dX9_count_1 ⟨by omega, by omega⟩ (by omega) (by omega) (by rw [w_1_0]; rfl) (by decide) ?_
    refine xa_aload_n (pc := 36) dX9_count_36 rfl ?_
    refine xa_getfield (pc := 37) dX9_count_37 flRX9_19 (by omega) (by omega) hX0 rfl ?_
    refine xa_getfield (pc := 40) dX9_count_40 flRX9_124 (by omega) (by omega) hB0 rfl ?_
    refine xa_ireturn (pc := 43) dX9_count_43 rfl trivial ?_
    exact ⟨by rw [if_pos (by omega)], rfl⟩
  by_cases w_1_1 : q = 1
  · refine xa_tableIn (pc := 1) (off := 43) (tgt := 44) dX9_count_1 ⟨by omega, by omega⟩ (by omega) (by omega) (by rw [w_1_1]; rfl) (by decide) ?_
    refine xa_aload_n (pc := 44) dX9_count_44 rfl ?_
    refine xa_getfield (pc := 45) dX9_count_45 flRX9_12 (by omega) (by omega) hX0 rfl ?_
    refine xa_getfield (pc := 48) dX9_count_48 flRX9_96 (by omega) (by omega) hT0 rfl ?_
    refine xa_ireturn (pc := 51) dX9_count_51 rfl trivial ?_
    exact ⟨by rw [if_neg (by omega), if_pos (by omega)], rfl⟩
  by_cases w_1_2 : q = 2
  · refine xa_tableIn (pc := 1) (off := 51) (tgt := 52) dX9_count_1 ⟨by omega, by omega⟩ (by omega) (by omega) (by rw [w_1_2]; rfl) (by decide) ?_
    refine xa_aload_n (pc := 52) dX9_count_52 rfl ?_
    refine xa_getfield (pc := 53) dX9_count_53 flRX9_38 (by omega) (by omega) hX0 rfl ?_
    refine xa_callV (pc := 56) (as := []) (rest := []) dX9_count_56 ⟨qX5_allMoves.1, qX5_allMoves.2.1, qX5_allMoves.2.2, by decide, by decide⟩ lkRX9_241 imX5_allMoves seX5_allMoves rfl rfl (by omega) (by omega) hH0 rfl (Nat.le_of_ble_eq_true rfl) (Nat.zero_le _) (Nat.zero_le _) (c_allMoves _ _ _ _ _ ⟨hH0, hH1, hH2, hH3, by omega, by omega⟩) (fun r h' hq => ?_)
    obtain ⟨rfl, hq⟩ := hq
    have hq := hq.symm
    subst hq
    refine xa_ireturn (pc := 59) dX9_count_59 rfl trivial ?_
    exact ⟨by rw [if_neg (by omega), if_neg (by omega), if_pos (by omega)], rfl⟩
  by_cases w_1_3 : q = 3
  · refine xa_tableIn (pc := 1) (off := 59) (tgt := 60) dX9_count_1 ⟨by omega, by omega⟩ (by omega) (by omega) (by rw [w_1_3]; rfl) (by decide) ?_
    refine xa_aload_n (pc := 60) dX9_count_60 rfl ?_
    refine xa_getfield (pc := 61) dX9_count_61 flRX9_38 (by omega) (by omega) hX0 rfl ?_
    refine xa_getfield (pc := 64) dX9_count_64 flRX9_224 (by omega) (by omega) hH0 rfl ?_
    refine xa_ireturn (pc := 67) dX9_count_67 rfl trivial ?_
    exact ⟨by rw [if_neg (by omega), if_neg (by omega), if_neg (by omega), if_pos (by omega)], rfl⟩
  by_cases w_1_4 : q = 4
  · refine xa_tableIn (pc := 1) (off := 67) (tgt := 68) dX9_count_1 ⟨by omega, by omega⟩ (by omega) (by omega) (by rw [w_1_4]; rfl) (by decide) ?_
    refine xa_aload_n (pc := 68) dX9_count_68 rfl ?_
    refine xa_getfield (pc := 69) dX9_count_69 flRX9_121 (by omega) (by omega) hX0 rfl ?_
    refine xa_ireturn (pc := 72) dX9_count_72 rfl trivial ?_
    exact ⟨by rw [if_neg (by omega), if_neg (by omega), if_neg (by omega), if_neg (by omega), if_pos (by omega)], rfl⟩
  refine xa_tableOut (pc := 1) (tgt := 73) dX9_count_1 ⟨by omega, by omega⟩ (by omega) (by decide) ?_
  refine xa_iconst (pc := 73) dX9_count_73 ?_
  refine xa_ireturn (pc := 74) dX9_count_74 rfl trivial ?_
  exact ⟨by rw [if_neg (by omega), if_neg (by omega), if_neg (by omega), if_neg (by omega), if_neg (by omega)], rfl⟩
