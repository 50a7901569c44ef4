/-! The model's calls, in its world -/
theorem wr_e {f g : Nat → Int} {n c : Nat} {v : Int} (h : ∀ i, i < 120 → f i = g i) : ∀ i, i < 120 → sp_wr f n c c v i = sp_wr g n c c v i := fun i hi => by
  unfold sp_wr
  rw [h i hi]
section RE
variable {n : Nat} {f g : Nat → Int} 
theorem at_e (h : ∀ i, i < n → f i = g i) (x : Int) : sp_at n f x = sp_at n g x := by
  unfold sp_at
  by_cases e : 0 ≤ x ∧ x < n
  · rw [if_pos e, if_pos e, h x.toNat (by omega)]
  · rw [if_neg e, if_neg e]
theorem neg_e (h : ∀ i, i < n → f i = g i) (a : Nat) : sp_neg n f a = sp_neg n g a := by
  unfold sp_neg
  rw [at_e h]
theorem dig_e (h : ∀ i, i < n → f i = g i) (a : Nat) : rd_dig n f a = rd_dig n g a := by
  unfold rd_dig
  rw [at_e h]
theorem cnt_e (h : ∀ i, i < n → f i = g i) : ∀ j a, rd_cnt n f j a = rd_cnt n g j a
  | 0, _ => rfl
  | j + 1, a => by
    show (if rd_dig n f a = true then rd_cnt n f j (a + 1) + 1 else 0) = (if rd_dig n g a = true then rd_cnt n g j (a + 1) + 1 else 0)
    rw [dig_e h, cnt_e h j]
theorem val_e (h : ∀ i, i < n → f i = g i) : ∀ (m a : Nat), sp_val n f a m = sp_val n g a m
  | 0, _ => rfl
  | m + 1, a => by
    have ih := val_e h m a
    unfold sp_val
    rw [ih, at_e h]
theorem num_e (h : ∀ i, i < n → f i = g i) (p : Nat) : rd_num n f p = rd_num n g p := by
  unfold rd_num
  rw [neg_e h, cnt_e h, val_e h]
theorem item_e (h : ∀ i, i < n → f i = g i) (p : Nat) (b : xBt) : rd_item n f p b = rd_item n g p b := by
  have e1 : sp_at n f = sp_at n g := funext fun x => at_e h x
  have e2 : rd_num n f = rd_num n g := funext fun x => num_e h x
  unfold rd_item
  rw [e1, e2]
theorem go_e (h : ∀ i, i < n → f i = g i) : ∀ (l p : Nat) (b : xBt), rd_go n f l p b = rd_go n g l p b
  | 0, _, _ => rfl
  | l + 1, p, b => by
    have e : rd_go n f l = rd_go n g l := funext fun p => funext fun b => go_e h l p b
    unfold rd_go
    rw [item_e h, e]
end RE
theorem c_mFallX {G : xa_G} {h : xa_H} (k : Nat) (H : Int) (h1 : xa_ok H)  : xa_M G mX10_fall [xa_r k, xa_i H] h 0 0 (fun r h' => (¬ (0 ≤ H ∧ H ≤ 100000) ∧ r = some (xa_i (-1)) ∨ (0 ≤ H ∧ H ≤ 100000) ∧ ∃ t : Nat, r = some (xa_i ((t : Nat) : Int)) ∧ (t : Int) * t ≤ H ∧ H < ((t : Int) + 1) * ((t : Int) + 1)) ∧ h' = h) := by
  refine xa_enter (by decide +kernel) (Nat.le_of_ble_eq_true rfl) ?_
  refine xa_locals (ls' := [some (xa_r k), some (xa_i H)]) rfl ?_
  refine xa_iload_n (pc := 0) dX10_fall_0 rfl ?_
  refine xa_callS (pc := 1) (as := [xa_i H]) (rest := []) dX10_fall_1 ⟨qX10_isHeight.1, qX10_isHeight.2.1, qX10_isHeight.2.2, by decide, by decide⟩ lkRX10_236 smX10_isHeight rfl rfl (Nat.le_of_ble_eq_true rfl) (Nat.zero_le _) (Nat.zero_le _) (c_mHeight _ ⟨by omega, by omega⟩) (fun r h' hq => ?_)
  obtain ⟨rfl, hq⟩ := hq
  have hq := hq.symm
  subst hq
  refine xa_if_eq (pc := 4) (tgt := 14) dX10_fall_4 (by decide) xa_okb (fun c_4 => ?_) (fun c_4 => ?_)
  · have c_4 := xa_b0.mp c_4
    refine xa_iconst (pc := 14) dX10_fall_14 ?_
    refine xa_ireturn (pc := 15) dX10_fall_15 rfl trivial ?_
    exact ⟨Or.inl ⟨by omega, rfl⟩, rfl⟩
  · have c_4 := xa_b1.mp c_4
    refine xa_iload_n (pc := 7) dX10_fall_7 rfl ?_
    refine xa_callS (pc := 8) (as := [xa_i H]) (rest := []) dX10_fall_8 ⟨qX10_fallOf.1, qX10_fallOf.2.1, qX10_fallOf.2.2, by decide, by decide⟩ lkRX10_239 smX10_fallOf rfl rfl (Nat.le_of_ble_eq_true rfl) (Nat.zero_le _) (Nat.zero_le _) (c_fallOf H (by omega)) (fun r h' hq => ?_)
    obtain ⟨⟨t, rfl, ht1, ht2⟩, hq⟩ := hq
    have hq := hq.symm
    subst hq
    refine xa_goto (pc := 11) (tgt := 15) dX10_fall_11 (by decide) ?_
    refine xa_ireturn (pc := 15) dX10_fall_15 rfl trivial ?_
    exact ⟨Or.inr ⟨by omega, t, rfl, ht1, ht2⟩, rfl⟩
theorem m_fall {G : xa_G} {h : xa_H} {k : Nat} {n : Nat} {f ld dg : Nat → Int} {pa jo : Nat} {wa sr pu ri : Int} {mv le fi : Nat → Int} {pc kp : Nat} {mv1 le1 fi1 : Nat → Int} {pc1 : Nat} {mv2 le2 fi2 : Nat → Int} {pc2 : Nat} (H : Int) (h1 : xa_ok H) (hW : xMW h k n f ld dg pa jo wa sr pu ri mv le fi pc kp mv1 le1 fi1 pc1 mv2 le2 fi2 pc2) : xa_M G mX10_fall [xa_r k, xa_i H] h 0 0 (fun r h' => (¬ (0 ≤ H ∧ H ≤ 100000) ∧ r = some (xa_i (-1)) ∨ (0 ≤ H ∧ H ≤ 100000) ∧ ∃ t : Nat, r = some (xa_i ((t : Nat) : Int)) ∧ (t : Int) * t ≤ H ∧ H < ((t : Int) + 1) * ((t : Int) + 1)) ∧ xMW h' k n f ld dg pa jo wa sr pu ri mv le fi pc kp mv1 le1 fi1 pc1 mv2 le2 fi2 pc2 ∧ h'.2 = h.2 ∧ ∀ i, (i < k ∨ k + 17 ≤ i) → h'.1 i = h.1 i) := by
  have hW' := hW
  obtain ⟨F, s, hM, ho, hl, hf, hr⟩ := hW
  have h0 := ho.1.1
  refine xa_mono (c_mFallX k H h1) ?_
  rintro r h' ⟨q1, q2⟩
  subst q2
  exact ⟨q1, hW', rfl, fun _ _ => rfl⟩
theorem mOk.mv {F : Nat → Nat → Int} {ld dg : Nat → Int} {pa jo : Nat} {wa sr pu ri : Int} (ho : mOk F ld dg pa jo wa sr pu ri) : xMv F := by
  obtain ⟨hB, ⟨a1, a2, a3, a4, a5⟩, ⟨b1, b2, b3, b4, b5, b6, b7⟩, -⟩ := ho
  refine ⟨b5 0, b4 0, fun j hj => ?_, b3, b1⟩
  have hj : j < jo := by omega
  have := hB.2.2.2.2.1 j hj
  have := b2 j
  rw [a4 j hj] at *
  omega
theorem m_load {G : xa_G} {h : xa_H} {k : Nat} {n : Nat} {f ld dg : Nat → Int} {pa jo : Nat} {wa sr pu ri : Int} {mv le fi : Nat → Int} {pc kp : Nat} {mv1 le1 fi1 : Nat → Int} {pc1 : Nat} {mv2 le2 fi2 : Nat → Int} {pc2 : Nat} (p q : Int) (h1 : xa_ok p) (h2 : xa_ok q) (hW : xMW h k n f ld dg pa jo wa sr pu ri mv le fi pc kp mv1 le1 fi1 pc1 mv2 le2 fi2 pc2) : xa_M G mX10_load [xa_r k, xa_i p, xa_i q] h 0 0 (fun r h' => r = some (xa_i (if (0 ≤ p ∧ p ≤ (pa : Int) - 1) ∧ 0 ≤ q ∧ q ≤ 2 then sp_ld ld p q else -1)) ∧ xMW h' k n f ld dg pa jo wa sr pu ri mv le fi pc kp mv1 le1 fi1 pc1 mv2 le2 fi2 pc2 ∧ h'.2 = h.2 ∧ ∀ i, (i < k ∨ k + 17 ≤ i) → h'.1 i = h.1 i) := by
  have hW' := hW
  obtain ⟨F, s, hM, ho, hl, hf, hr⟩ := hW
  have h0 := ho.1.1
  refine xa_mono (c_mLoad k F s p q h1 h2 hM ho.mv) ?_
  rintro r h' ⟨q1, q2⟩
  subst q2
  exact ⟨by
    rw [q1, ho.2.1.1]
    by_cases e : (0 ≤ p ∧ p ≤ (pa : Int) - 1) ∧ 0 ≤ q ∧ q ≤ 2
    · rw [if_pos e, if_pos e, ho.2.1.2.2.1 _ (by omega)]
      unfold sp_ld
      rw [if_pos (by omega), show (3 * p + q).toNat = (p * 3 + q).toNat by omega]
    · rw [if_neg e, if_neg e], hW', rfl, fun _ _ => rfl⟩
theorem m_joint {G : xa_G} {h : xa_H} {k : Nat} {n : Nat} {f ld dg : Nat → Int} {pa jo : Nat} {wa sr pu ri : Int} {mv le fi : Nat → Int} {pc kp : Nat} {mv1 le1 fi1 : Nat → Int} {pc1 : Nat} {mv2 le2 fi2 : Nat → Int} {pc2 : Nat} (p q : Int) (h1 : xa_ok p) (h2 : xa_ok q) (hW : xMW h k n f ld dg pa jo wa sr pu ri mv le fi pc kp mv1 le1 fi1 pc1 mv2 le2 fi2 pc2) : xa_M G mX10_joint [xa_r k, xa_i p, xa_i q] h 0 0 (fun r h' => r = some (xa_i (if (0 ≤ p ∧ p ≤ (jo : Int) - 1) ∧ 0 ≤ q ∧ q ≤ 1 then (if q = 0 then sp_dg dg p else if p = wa then 1 else 0) else -1)) ∧ xMW h' k n f ld dg pa jo wa sr pu ri mv le fi pc kp mv1 le1 fi1 pc1 mv2 le2 fi2 pc2 ∧ h'.2 = h.2 ∧ ∀ i, (i < k ∨ k + 17 ≤ i) → h'.1 i = h.1 i) := by
  have hW' := hW
  obtain ⟨F, s, hM, ho, hl, hf, hr⟩ := hW
  have h0 := ho.1.1
  refine xa_mono (c_mJointAt k F s p q h1 h2 hM ho.mv) ?_
  rintro r h' ⟨q1, q2⟩
  subst q2
  exact ⟨by
    rw [q1, ho.2.1.2.1]
    by_cases e : (0 ≤ p ∧ p ≤ (jo : Int) - 1) ∧ 0 ≤ q ∧ q ≤ 1
    · rw [if_pos e, if_pos e, ho.2.1.2.2.2.1 _ (by omega), ho.2.1.2.2.2.2 _ (by omega), show ((p.toNat : Nat) : Int) = p by omega]
      unfold sp_dg
      rw [if_pos (show 0 ≤ p ∧ p < 2 by omega)]
    · rw [if_neg e, if_neg e], hW', rfl, fun _ _ => rfl⟩
theorem m_begun {G : xa_G} {h : xa_H} {k : Nat} {n : Nat} {f ld dg : Nat → Int} {pa jo : Nat} {wa sr pu ri : Int} {mv le fi : Nat → Int} {pc kp : Nat} {mv1 le1 fi1 : Nat → Int} {pc1 : Nat} {mv2 le2 fi2 : Nat → Int} {pc2 : Nat} (q : Int) (h1 : xa_ok q) (hW : xMW h k n f ld dg pa jo wa sr pu ri mv le fi pc kp mv1 le1 fi1 pc1 mv2 le2 fi2 pc2) : xa_M G mX10_begun [xa_r k, xa_i q] h 0 0 (fun r h' => r = some (xa_i (if q = 0 then pu else if q = 1 then ri else -10000)) ∧ xMW h' k n f ld dg pa jo wa sr pu ri mv le fi pc kp mv1 le1 fi1 pc1 mv2 le2 fi2 pc2 ∧ h'.2 = h.2 ∧ ∀ i, (i < k ∨ k + 17 ≤ i) → h'.1 i = h.1 i) := by
  have hW' := hW
  obtain ⟨F, s, hM, ho, hl, hf, hr⟩ := hW
  have h0 := ho.1.1
  refine xa_mono (c_mBegun k F s q h1 hM ho.mv) ?_
  rintro r h' ⟨q1, q2⟩
  subst q2
  exact ⟨by rw [q1, ho.2.2.2.1, ho.2.2.2.2.1], hW', rfl, fun _ _ => rfl⟩
theorem m_count {G : xa_G} {h : xa_H} {k : Nat} {n : Nat} {f ld dg : Nat → Int} {pa jo : Nat} {wa sr pu ri : Int} {mv le fi : Nat → Int} {pc kp : Nat} {mv1 le1 fi1 : Nat → Int} {pc1 : Nat} {mv2 le2 fi2 : Nat → Int} {pc2 : Nat} (q : Int) (h1 : xa_ok q) (hW : xMW h k n f ld dg pa jo wa sr pu ri mv le fi pc kp mv1 le1 fi1 pc1 mv2 le2 fi2 pc2) : xa_M G mX10_count [xa_r k, xa_i q] h 0 0 (fun r h' => r = some (xa_i (if q = 0 then (pa : Int) else if q = 1 then (n : Int) else if q = 2 then le 0 + le 1 + le 2 + le 3 else if q = 3 then (pc : Int) else if q = 4 then ((kp : Nat) : Int) else -1)) ∧ xMW h' k n f ld dg pa jo wa sr pu ri mv le fi pc kp mv1 le1 fi1 pc1 mv2 le2 fi2 pc2 ∧ h'.2 = h.2 ∧ ∀ i, (i < k ∨ k + 17 ≤ i) → h'.1 i = h.1 i) := by
  have hW' := hW
  obtain ⟨F, s, hM, ho, hl, hf, hr⟩ := hW
  have h0 := ho.1.1
  refine xa_mono (c_mCount k F s q h1 hM) ?_
  rintro r h' ⟨q1, q2⟩
  subst q2
  exact ⟨by rw [q1]; unfold sm_count; rw [ho.2.1.1, hr.1.1, hr.pcs, hr.2.2.1.1, hr.agr.2.1 0 (by decide), hr.agr.2.1 1 (by decide), hr.agr.2.1 2 (by decide), hr.agr.2.1 3 (by decide)], hW', rfl, fun _ _ => rfl⟩
theorem m_write {G : xa_G} {h : xa_H} {k : Nat} {n : Nat} {f ld dg : Nat → Int} {pa jo : Nat} {wa sr pu ri : Int} {mv le fi : Nat → Int} {pc kp : Nat} {mv1 le1 fi1 : Nat → Int} {pc1 : Nat} {mv2 le2 fi2 : Nat → Int} {pc2 : Nat} (b v : Int) (h1 : xa_ok b) (hW : xMW h k n f ld dg pa jo wa sr pu ri mv le fi pc kp mv1 le1 fi1 pc1 mv2 le2 fi2 pc2) : xa_M G mX10_write [xa_r k, xa_i b, xa_l v] h 0 0 (fun r h' => ((¬ (1 ≤ b ∧ b ≤ 8) ∧ r = some (xa_i (-1)) ∧ xMW h' k n f ld dg pa jo wa sr pu ri mv le fi pc kp mv1 le1 fi1 pc1 mv2 le2 fi2 pc2) ∨ ((1 ≤ b ∧ b ≤ 8) ∧ 120 < ((n : Nat) : Int) + b ∧ r = some (xa_i (-3)) ∧ xMW h' k n f ld dg pa jo wa sr pu ri mv le fi pc kp mv1 le1 fi1 pc1 mv2 le2 fi2 pc2) ∨ (∃ c : Nat, b = ((c : Nat) : Int) ∧ (1 ≤ c ∧ c ≤ 8) ∧ n + c ≤ 120 ∧ r = some (xa_i ((n + c : Nat) : Int)) ∧ xMW h' k (n + c) (sp_wr f n c c v) ld dg pa jo wa sr pu ri mv le fi pc kp mv1 le1 fi1 pc1 mv2 le2 fi2 pc2)) ∧ h'.2 = h.2 ∧ ∀ i, (i < k ∨ k + 17 ≤ i) → h'.1 i = h.1 i) := by
  have hW' := hW
  obtain ⟨F, s, hM, ho, hl, hf, hr⟩ := hW
  refine xa_mono (c_mWrite k n F s b v h1 hr.1.1 hr.1.2.1 hM) ?_
  rintro r h' (⟨q1, q2, q3⟩ | ⟨q1, q2, q3, q4⟩ | ⟨c, q1, q2, q3, q4, q5, q6, q7⟩)
  · subst q3
    exact ⟨Or.inl ⟨q1, q2, hW'⟩, rfl, fun _ _ => rfl⟩
  · subst q4
    exact ⟨Or.inr (Or.inl ⟨q1, q2, q3, hW'⟩), rfl, fun _ _ => rfl⟩
  · exact ⟨Or.inr (Or.inr ⟨c, q1, q2, q3, q4, ⟨_, _, q5, ho, hl, hf, ⟨rfl, q3, wr_e hr.1.2.2.1, sp_wr_b hr.1.2.2.2 n c c v⟩, hr.2⟩⟩), q6, q7⟩
theorem m_wipe {G : xa_G} {h : xa_H} {k : Nat} {n : Nat} {f ld dg : Nat → Int} {pa jo : Nat} {wa sr pu ri : Int} {mv le fi : Nat → Int} {pc kp : Nat} {mv1 le1 fi1 : Nat → Int} {pc1 : Nat} {mv2 le2 fi2 : Nat → Int} {pc2 : Nat}  (hW : xMW h k n f ld dg pa jo wa sr pu ri mv le fi pc kp mv1 le1 fi1 pc1 mv2 le2 fi2 pc2) : xa_M G mX10_wipe [xa_r k] h 0 0 (fun r h' => r = some (xa_i ((n : Nat) : Int)) ∧ xMW h' k 0 f ld dg pa jo wa sr pu ri mv le fi pc kp mv1 le1 fi1 pc1 mv2 le2 fi2 pc2 ∧ h'.2 = h.2 ∧ ∀ i, (i < k ∨ k + 17 ≤ i) → h'.1 i = h.1 i) := by
  have hW' := hW
  obtain ⟨F, s, hM, ho, hl, hf, hr⟩ := hW
  refine xa_mono (c_mWipe k F s hM) ?_
  rintro r h' ⟨q1, q2, q3, q4⟩
  exact ⟨by rw [q1, hr.1.1], ⟨_, _, q2, ho, hl, hf, ⟨rfl, by decide, hr.1.2.2.1, hr.1.2.2.2⟩, hr.2⟩, q3, q4⟩
