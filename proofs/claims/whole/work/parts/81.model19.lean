/-! The model: write, keep, back, fewest, made -/
theorem bv_oct (V : BitVec 64) (s : Nat) (hs : s ≤ 56) : ((V >>> s).signExtend 32 &&& 255#32) = ((V.sshiftRight s &&& 255#64).signExtend 32) := by
  rw [BitVec.signExtend_eq_setWidth_of_le _ (by decide), BitVec.signExtend_eq_setWidth_of_le _ (by decide)]
  apply BitVec.eq_of_getLsbD_eq
  intro i hi
  rw [BitVec.getLsbD_and, BitVec.getLsbD_setWidth, BitVec.getLsbD_setWidth, BitVec.getLsbD_and, BitVec.getLsbD_ushiftRight, BitVec.getLsbD_sshiftRight]
  by_cases h8 : i < 8
  · have e1 : (255#32).getLsbD i = true := by rcases (show i = 0 ∨ i = 1 ∨ i = 2 ∨ i = 3 ∨ i = 4 ∨ i = 5 ∨ i = 6 ∨ i = 7 by omega) with rfl | rfl | rfl | rfl | rfl | rfl | rfl | rfl <;> rfl
    have e2 : (255#64).getLsbD i = true := by rcases (show i = 0 ∨ i = 1 ∨ i = 2 ∨ i = 3 ∨ i = 4 ∨ i = 5 ∨ i = 6 ∨ i = 7 by omega) with rfl | rfl | rfl | rfl | rfl | rfl | rfl | rfl <;> rfl
    rw [e1, e2, if_pos (by omega), decide_eq_true hi, decide_eq_false (show ¬ 64 ≤ i by omega)]
    simp
  · have e1 : (255#32).getLsbD i = false := by
      have : (255#32).toNat < 2 ^ i := Nat.lt_of_lt_of_le (show (255#32).toNat < 2 ^ 8 by decide) (Nat.pow_le_pow_right (by decide) (by omega))
      rw [← BitVec.testBit_toNat]
      exact Nat.testBit_lt_two_pow this
    have e2 : (255#64).getLsbD i = false := by
      have : (255#64).toNat < 2 ^ i := Nat.lt_of_lt_of_le (show (255#64).toNat < 2 ^ 8 by decide) (Nat.pow_le_pow_right (by decide) (by omega))
      rw [← BitVec.testBit_toNat]
      exact Nat.testBit_lt_two_pow this
    rw [e1, e2]
    simp
theorem sh_amt : ∀ i : Nat, i < 8 → (((Int32.ofInt (8 * ((i : Nat) : Int))).toInt64 &&& 63).toBitVec.smod 64).toNat = 8 * i ∧ (((Int32.ofInt (8 * ((i : Nat) : Int))).toInt64.toUInt64 &&& Int64.toUInt64 63).toBitVec % 64).toNat = 8 * i := by decide
/-- a byte, told both ways -/
theorem oct_eq (v : Int) {i : Nat} (hi : i < 8) : (Int64.ofInt (xa_land (xa_lshr v (8 * ((i : Nat) : Int))) 255)).toInt32.toInt = sp_oct v ((i : Nat) : Int) := by
  obtain ⟨e1, e2⟩ := sh_amt i hi
  unfold sp_oct xa_land xa_lshr xa_lushr xa_and
  rw [Int64.ofInt_toInt, Int64.ofInt_toInt, Int64.ofInt_toInt, Int32.ofInt_toInt]
  congr 1
  rw [← Int32.toBitVec_inj, Int64.toBitVec_toInt32, Int64.toBitVec_and, Int64.toBitVec_shiftRight, Int32.toBitVec_and, Int64.toBitVec_toInt32, UInt64.toBitVec_toInt64, UInt64.toBitVec_shiftRight, BitVec.sshiftRight_eq', BitVec.ushiftRight_eq', e1, e2]
  exact (bv_oct (Int64.ofInt v).toBitVec (8 * i) (by omega)).symm
/-- a stretch of a row is laid over another -/
def fcp (f : Nat → Int) (oa ob m : Nat) : Nat → Int := fun i => if ob ≤ i ∧ i < ob + m then f (i - ob + oa) else f i
theorem fcp_0 (f : Nat → Int) (oa ob : Nat) : fcp f oa ob 0 = f := by
  funext i
  unfold fcp
  rw [if_neg (by omega)]
theorem fcp_s (f : Nat → Int) {oa ob n m : Nat} (hd : oa + n ≤ ob ∨ ob + n ≤ oa) (hm : m < n) : xa_upf (fcp f oa ob m) (ob + m) (fcp f oa ob m (oa + m)) = fcp f oa ob (m + 1) := by
  funext i
  unfold xa_upf
  by_cases e : i = ob + m
  · rw [if_pos e]
    unfold fcp
    rw [if_neg (by omega), if_pos (by omega), e, show ob + m - ob + oa = oa + m by omega]
  · rw [if_neg e]
    unfold fcp
    by_cases q : ob ≤ i ∧ i < ob + m
    · rw [if_pos q, if_pos (by omega)]
    · rw [if_neg q, if_neg (by omega)]
theorem fcp_b {f : Nat → Int} {a b : Int} (hf : ∀ i, a ≤ f i ∧ f i ≤ b) (oa ob m : Nat) : ∀ i, a ≤ fcp f oa ob m i ∧ fcp f oa ob m i ≤ b := by
  intro i
  unfold fcp
  split <;> exact hf _
theorem ne_kk {k a b : Nat} (h : a ≠ b) : k + a ≠ k + b := fun e => h (Nat.add_left_cancel e)
theorem ne_lk {i k a : Nat} (h : i < k) : i ≠ k + a := by omega
theorem mSim3.tr {F F' F'' : Nat → Nat → Int} {s s' s'' : Nat → Int} (h : mSim3 F F' s s') (h' : mSim3 F' F'' s' s'') : mSim3 F F'' s s'' := ⟨fun i h1 h2 h3 => (h'.1 i h1 h2 h3).trans (h.1 i h1 h2 h3), h'.2.1.trans h.2.1, h'.2.2.trans h.2.2⟩
theorem mSim3.ok {F F' : Nat → Nat → Int} {s s' : Nat → Int} {ld dg : Nat → Int} {pa jo : Nat} {wa sr pu ri : Int} (h : mSim3 F F' s s') (ho : mOk F ld dg pa jo wa sr pu ri) : mOk F' ld dg pa jo wa sr pu ri := by
  unfold mOk mR mBd at ho ⊢
  obtain ⟨h1, -, -⟩ := h
  rw [h1 2 (by decide) (by decide) (by decide), h1 3 (by decide) (by decide) (by decide), h1 4 (by decide) (by decide) (by decide), h1 5 (by decide) (by decide) (by decide), h1 6 (by decide) (by decide) (by decide), h1 7 (by decide) (by decide) (by decide), h1 8 (by decide) (by decide) (by decide), h1 9 (by decide) (by decide) (by decide), h1 10 (by decide) (by decide) (by decide)]
  exact ho

theorem c_mWrite_loop {G : xa_G} {h0 : xa_H} {k n c : Nat} {v : Int} {F : Nat → Nat → Int} {s : Nat → Int} (hk : 2 ≤ k) (hc : n + c ≤ 120) (hc8 : c ≤ 8) : ∀ (d : Nat) (m : Nat) (h : xa_H), c - m < d → (m ≤ c) → (h.2 = h0.2) → (k + 16 < h.2) → (h.1 k = xa_o 10 [xa_i ((n + m : Nat) : Int), xa_r (k + 1), xa_r (k + 2), xa_r (k + 3), xa_r (k + 4), xa_r (k + 5), xa_r (k + 6), xa_r (k + 7), xa_r (k + 8), xa_r (k + 9), xa_r (k + 10), xa_r (k + 11), xa_r (k + 12), xa_i (s 13), xa_i (s 14), xa_i (s 15), xa_r (k + 13), xa_i (s 17), xa_i (s 18), xa_i (s 19), xa_i (s 20), xa_r (k + 14), xa_r (k + 15), xa_i (s 23), xa_r (k + 16)]) → (h.1 (k + 1) = xa_a 120 (sp_wr (F 1) n c m v)) → (h.1 (k + 2) = xa_a 2 (F 2)) → (h.1 (k + 3) = xa_a 18 (F 3)) → (h.1 (k + 4) = xa_a 2 (F 4)) → (h.1 (k + 5) = xa_a 4 (F 5)) → (h.1 (k + 6) = xa_a 4 (F 6)) → (h.1 (k + 7) = xa_a 2 (F 7)) → (h.1 (k + 8) = xa_a 2 (F 8)) → (h.1 (k + 9) = xa_a 12 (F 9)) → (h.1 (k + 10) = xa_a 720 (F 10)) → (h.1 (k + 11) = xa_a 3 (F 11)) → (h.1 (k + 12) = xa_a 360 (F 12)) → (h.1 (k + 13) = xa_a 3 (F 13)) → (h.1 (k + 14) = xa_a 583200 (F 14)) → (h.1 (k + 15) = xa_a 583200 (F 15)) → (h.1 (k + 16) = xa_a 4 (F 16)) → (∀ i, (i < k ∨ k + 17 ≤ i) → h.1 i = h0.1 i) → xa_W G mX10_write (xa_Z G (fun r h' => r = some (xa_i ((n + c : Nat) : Int)) ∧ xM h' k (xa_uF F 1 (sp_wr (F 1) n c c v)) (xa_upf s 0 ((n + c : Nat) : Int)) ∧ h'.2 = h0.2 ∧ ∀ i, (i < k ∨ k + 17 ≤ i) → h'.1 i = h0.1 i)) 33 [some (xa_r k), some (xa_i ((c : Nat) : Int)), some (xa_l v), none, some (xa_i (((c : Nat) : Int) - 1 - ((m : Nat) : Int)))] [] h 0 0 := by
  intro d
  induction d with
  | zero => intros; exfalso; omega
  | succ d ih =>
    intro m h hd hm hn0 hkn hM0 hM1 hM2 hM3 hM4 hM5 hM6 hM7 hM8 hM9 hM10 hM11 hM12 hM13 hM14 hM15 hM16 fr0
    have hn : h.2 = h.2 := rfl
    have fr : ∀ i, (i < k ∨ k + 17 ≤ i) → h.1 i = h.1 i := fun _ _ => rfl
    refine xa_iload (pc := 33) dX10_write_33 rfl ?_
    refine xa_if_lt (pc := 35) (tgt := 75) dX10_write_35 (by decide) ⟨by omega, by omega⟩ (fun c_35 => ?_) (fun c_35 => ?_)
    · skip
      refine xa_aload_n (pc := 75) dX10_write_75 rfl ?_
      refine xa_getfield (pc := 76) dX10_write_76 flRX10_69 (by omega) (by omega) hM0 rfl ?_
      refine xa_ireturn (pc := 79) dX10_write_79 rfl trivial ?_
      have hme : m = c := by omega
      subst hme
      exact ⟨rfl, ⟨hM0, hM1, hM2, hM3, hM4, hM5, hM6, hM7, hM8, hM9, hM10, hM11, hM12, hM13, hM14, hM15, hM16, by omega, by omega⟩, by omega, fun i hi => (fr i hi).trans (fr0 i hi)⟩
    · skip
      refine xa_aload_n (pc := 38) dX10_write_38 rfl ?_
      refine xa_getfield (pc := 39) dX10_write_39 flRX10_7 (by omega) (by omega) hM0 rfl ?_
      refine xa_aload_n (pc := 42) dX10_write_42 rfl ?_
      refine xa_getfield (pc := 43) dX10_write_43 flRX10_69 (by omega) (by omega) hM0 rfl ?_
      refine xa_lload_n (pc := 46) dX10_write_46 rfl ?_
      refine xa_bipush (pc := 47) dX10_write_47 rfl ?_
      refine xa_iload (pc := 49) dX10_write_49 rfl ?_
      refine xa_imul (pc := 51) dX10_write_51 ?_
      refine xa_lshrr (pc := 52) dX10_write_52 ?_
      refine xa_ldc2 (pc := 53) (n := 255) dX10_write_53 ctRX10_72 rfl ?_
      refine xa_landr (pc := 56) dX10_write_56 ?_
      refine xa_l2i (pc := 57) dX10_write_57 ?_
      refine xa_top (y := sp_oct v (((c : Nat) : Int) - 1 - ((m : Nat) : Int))) (by have e : ((c : Nat) : Int) - 1 - ((m : Nat) : Int) = ((c - 1 - m : Nat) : Int) := (by omega); rw [e]; exact oct_eq v (by omega)) ?_
      refine xa_iastw (pc := 58) (n + m) dX10_write_58 (by omega) (by omega) hM1 (by omega) (by omega) (by omega) (fun h1 nh1 ch1 oh1 => ?_)
      have hM1 : h1.1 (k + 1) = xa_a 120 (xa_upf (sp_wr (F 1) n c m v) (n + m) (sp_oct v (((c : Nat) : Int) - 1 - ((m : Nat) : Int)))) := ch1
      have hM0 : h1.1 k = xa_o 10 [xa_i ((n + m : Nat) : Int), xa_r (k + 1), xa_r (k + 2), xa_r (k + 3), xa_r (k + 4), xa_r (k + 5), xa_r (k + 6), xa_r (k + 7), xa_r (k + 8), xa_r (k + 9), xa_r (k + 10), xa_r (k + 11), xa_r (k + 12), xa_i (s 13), xa_i (s 14), xa_i (s 15), xa_r (k + 13), xa_i (s 17), xa_i (s 18), xa_i (s 19), xa_i (s 20), xa_r (k + 14), xa_r (k + 15), xa_i (s 23), xa_r (k + 16)] := (oh1 _ (by omega)).trans hM0
      have hM2 : h1.1 (k + 2) = xa_a 2 (F 2) := (oh1 _ (by omega)).trans hM2
      have hM3 : h1.1 (k + 3) = xa_a 18 (F 3) := (oh1 _ (by omega)).trans hM3
      have hM4 : h1.1 (k + 4) = xa_a 2 (F 4) := (oh1 _ (by omega)).trans hM4
      have hM5 : h1.1 (k + 5) = xa_a 4 (F 5) := (oh1 _ (by omega)).trans hM5
      have hM6 : h1.1 (k + 6) = xa_a 4 (F 6) := (oh1 _ (by omega)).trans hM6
      have hM7 : h1.1 (k + 7) = xa_a 2 (F 7) := (oh1 _ (by omega)).trans hM7
      have hM8 : h1.1 (k + 8) = xa_a 2 (F 8) := (oh1 _ (by omega)).trans hM8
      have hM9 : h1.1 (k + 9) = xa_a 12 (F 9) := (oh1 _ (by omega)).trans hM9
      have hM10 : h1.1 (k + 10) = xa_a 720 (F 10) := (oh1 _ (by omega)).trans hM10
      have hM11 : h1.1 (k + 11) = xa_a 3 (F 11) := (oh1 _ (by omega)).trans hM11
      have hM12 : h1.1 (k + 12) = xa_a 360 (F 12) := (oh1 _ (by omega)).trans hM12
      have hM13 : h1.1 (k + 13) = xa_a 3 (F 13) := (oh1 _ (by omega)).trans hM13
      have hM14 : h1.1 (k + 14) = xa_a 583200 (F 14) := (oh1 _ (by omega)).trans hM14
      have hM15 : h1.1 (k + 15) = xa_a 583200 (F 15) := (oh1 _ (by omega)).trans hM15
      have hM16 : h1.1 (k + 16) = xa_a 4 (F 16) := (oh1 _ (by omega)).trans hM16
      have hn : h1.2 = h.2 := nh1.trans hn
      have fr : ∀ i, (i < k ∨ k + 17 ≤ i) → h1.1 i = h.1 i := fun i hi => (oh1 i (by omega)).trans (fr i hi)
      refine xa_aload_n (pc := 59) dX10_write_59 rfl ?_
      refine xa_dup (pc := 60) dX10_write_60 rfl ?_
      refine xa_getfield (pc := 61) dX10_write_61 flRX10_69 (by omega) (by omega) hM0 rfl ?_
      refine xa_iconst (pc := 64) dX10_write_64 ?_
      refine xa_iadd (pc := 65) dX10_write_65 ?_
      refine xa_putw (pc := 66) [xa_i (((n + m : Nat) : Int) + 1), xa_r (k + 1), xa_r (k + 2), xa_r (k + 3), xa_r (k + 4), xa_r (k + 5), xa_r (k + 6), xa_r (k + 7), xa_r (k + 8), xa_r (k + 9), xa_r (k + 10), xa_r (k + 11), xa_r (k + 12), xa_i (s 13), xa_i (s 14), xa_i (s 15), xa_r (k + 13), xa_i (s 17), xa_i (s 18), xa_i (s 19), xa_i (s 20), xa_r (k + 14), xa_r (k + 15), xa_i (s 23), xa_r (k + 16)] dX10_write_66 flRX10_69 plX10_0 (by omega) (by omega) hM0 trivial rfl (fun h2 nh2 ch2 oh2 => ?_)
      have hM0 : h2.1 k = xa_o 10 [xa_i (((n + m : Nat) : Int) + 1), xa_r (k + 1), xa_r (k + 2), xa_r (k + 3), xa_r (k + 4), xa_r (k + 5), xa_r (k + 6), xa_r (k + 7), xa_r (k + 8), xa_r (k + 9), xa_r (k + 10), xa_r (k + 11), xa_r (k + 12), xa_i (s 13), xa_i (s 14), xa_i (s 15), xa_r (k + 13), xa_i (s 17), xa_i (s 18), xa_i (s 19), xa_i (s 20), xa_r (k + 14), xa_r (k + 15), xa_i (s 23), xa_r (k + 16)] := ch2
      have hM1 : h2.1 (k + 1) = xa_a 120 (xa_upf (sp_wr (F 1) n c m v) (n + m) (sp_oct v (((c : Nat) : Int) - 1 - ((m : Nat) : Int)))) := (oh2 _ (by omega)).trans hM1
      have hM2 : h2.1 (k + 2) = xa_a 2 (F 2) := (oh2 _ (by omega)).trans hM2
      have hM3 : h2.1 (k + 3) = xa_a 18 (F 3) := (oh2 _ (by omega)).trans hM3
      have hM4 : h2.1 (k + 4) = xa_a 2 (F 4) := (oh2 _ (by omega)).trans hM4
      have hM5 : h2.1 (k + 5) = xa_a 4 (F 5) := (oh2 _ (by omega)).trans hM5
      have hM6 : h2.1 (k + 6) = xa_a 4 (F 6) := (oh2 _ (by omega)).trans hM6
      have hM7 : h2.1 (k + 7) = xa_a 2 (F 7) := (oh2 _ (by omega)).trans hM7
      have hM8 : h2.1 (k + 8) = xa_a 2 (F 8) := (oh2 _ (by omega)).trans hM8
      have hM9 : h2.1 (k + 9) = xa_a 12 (F 9) := (oh2 _ (by omega)).trans hM9
      have hM10 : h2.1 (k + 10) = xa_a 720 (F 10) := (oh2 _ (by omega)).trans hM10
      have hM11 : h2.1 (k + 11) = xa_a 3 (F 11) := (oh2 _ (by omega)).trans hM11
      have hM12 : h2.1 (k + 12) = xa_a 360 (F 12) := (oh2 _ (by omega)).trans hM12
      have hM13 : h2.1 (k + 13) = xa_a 3 (F 13) := (oh2 _ (by omega)).trans hM13
      have hM14 : h2.1 (k + 14) = xa_a 583200 (F 14) := (oh2 _ (by omega)).trans hM14
      have hM15 : h2.1 (k + 15) = xa_a 583200 (F 15) := (oh2 _ (by omega)).trans hM15
      have hM16 : h2.1 (k + 16) = xa_a 4 (F 16) := (oh2 _ (by omega)).trans hM16
      have hn : h2.2 = h.2 := nh2.trans hn
      have fr : ∀ i, (i < k ∨ k + 17 ≤ i) → h2.1 i = h.1 i := fun i hi => (oh2 i (by omega)).trans (fr i hi)
      refine xa_iincw (pc := 69) (y := ((c : Nat) : Int) - 1 - ((m + 1 : Nat) : Int)) [some (xa_r k), some (xa_i ((c : Nat) : Int)), some (xa_l v), none, some (xa_i (((c : Nat) : Int) - 1 - ((m + 1 : Nat) : Int)))] dX10_write_69 (by decide) rfl rfl (by omega) rfl ?_
      refine xa_goto (pc := 72) (tgt := 33) dX10_write_72 (by decide) ?_
      have eW : xa_upf (sp_wr (F 1) n c m v) (n + m) (sp_oct v (((c : Nat) : Int) - 1 - ((m : Nat) : Int))) = sp_wr (F 1) n c (m + 1) v := sp_wr_s (F 1) n c m v
      rw [eW] at hM1
      exact ih (m + 1) _ (by omega) (by omega) (by omega) (by omega) hM0 hM1 hM2 hM3 hM4 hM5 hM6 hM7 hM8 hM9 hM10 hM11 hM12 hM13 hM14 hM15 hM16 (fun i hi => (fr i hi).trans (fr0 i hi))
theorem c_mWrite {G : xa_G} {h : xa_H} (k n : Nat) (F : Nat → Nat → Int) (s : Nat → Int) (b v : Int) (hb : xa_ok b) (hs0 : s 0 = ((n : Nat) : Int)) (hn9 : n ≤ 120) (hM : xM h k F s)  : xa_M G mX10_write [xa_r k, xa_i b, xa_l v] h 0 0 (fun r h' => (¬ (1 ≤ b ∧ b ≤ 8) ∧ r = some (xa_i (-1)) ∧ h' = h) ∨ ((1 ≤ b ∧ b ≤ 8) ∧ 120 < ((n : Nat) : Int) + b ∧ r = some (xa_i (-3)) ∧ h' = h) ∨ (∃ c : Nat, b = ((c : Nat) : Int) ∧ (1 ≤ c ∧ c ≤ 8) ∧ n + c ≤ 120 ∧ r = some (xa_i ((n + c : Nat) : Int)) ∧ xM h' k (xa_uF F 1 (sp_wr (F 1) n c c v)) (xa_upf s 0 ((n + c : Nat) : Int)) ∧ h'.2 = h.2 ∧ ∀ i, (i < k ∨ k + 17 ≤ i) → h'.1 i = h.1 i)) := by
  refine xa_enter (by decide +kernel) (Nat.le_of_ble_eq_true rfl) ?_
  refine xa_locals (ls' := [some (xa_r k), some (xa_i b), some (xa_l v), none, none]) rfl ?_
  have hn : h.2 = h.2 := rfl
  have fr : ∀ i, (i < k ∨ k + 17 ≤ i) → h.1 i = h.1 i := fun _ _ => rfl
  obtain ⟨hM0, hM1, hM2, hM3, hM4, hM5, hM6, hM7, hM8, hM9, hM10, hM11, hM12, hM13, hM14, hM15, hM16, hMk, hMn⟩ := hM
  refine xa_iload_n (pc := 0) dX10_write_0 rfl ?_
  refine xa_i2l (pc := 1) dX10_write_1 ⟨by omega, by omega⟩ ?_
  refine xa_lconst (pc := 2) (n := 1) dX10_write_2 rfl ?_
  refine xa_ldc2 (pc := 3) (n := 8) dX10_write_3 ctRX10_63 rfl ?_
  refine xa_callS (pc := 6) (as := [xa_l b, xa_l 1, xa_l 8]) (rest := []) dX10_write_6 ⟨qX10_in.1, qX10_in.2.1, qX10_in.2.2, by decide, by decide⟩ lkRX10_65 smX10_in rfl rfl (Nat.le_of_ble_eq_true rfl) (Nat.zero_le _) (Nat.zero_le _) (c_in _ _ _ ⟨by omega, by omega⟩ ⟨by omega, by omega⟩ ⟨by omega, by omega⟩) (fun r h' hq => ?_)
  obtain ⟨rfl, hq⟩ := hq
  have hq := hq.symm
  subst hq
  refine xa_if_ne (pc := 9) (tgt := 14) dX10_write_9 (by decide) xa_okb (fun c_9 => ?_) (fun c_9 => ?_)
  · have c_9 := xa_b1.mp c_9
    refine xa_aload_n (pc := 14) dX10_write_14 rfl ?_
    refine xa_getfield (pc := 15) dX10_write_15 flRX10_69 (by omega) (by omega) hM0 rfl ?_
    refine xa_iload_n (pc := 18) dX10_write_18 rfl ?_
    refine xa_iadd (pc := 19) dX10_write_19 ?_
    refine xa_bipush (pc := 20) dX10_write_20 rfl ?_
    refine xa_icmp_le (pc := 22) (tgt := 28) dX10_write_22 (by decide) ⟨by omega, by omega⟩ (by decide) (fun c_22 => ?_) (fun c_22 => ?_)
    · skip
      refine xa_iload_n (pc := 28) dX10_write_28 rfl ?_
      refine xa_iconst (pc := 29) dX10_write_29 ?_
      refine xa_isub (pc := 30) dX10_write_30 ?_
      refine xa_istorew (pc := 31) [some (xa_r k), some (xa_i b), some (xa_l v), none, some (xa_i (b - 1))] dX10_write_31 (by decide) (Nat.le_of_ble_eq_true rfl) rfl rfl ?_
      obtain ⟨c, rfl⟩ : ∃ c : Nat, b = (c : Int) := ⟨b.toNat, by omega⟩
      have e0 : s 0 = ((n + 0 : Nat) : Int) := by omega
      rw [e0] at hM0
      rw [← sp_wr_0 (F 1) n c v] at hM1
      rw [show ((c : Nat) : Int) - 1 = ((c : Nat) : Int) - 1 - ((0 : Nat) : Int) by omega]
      refine xa_wmono ?_ (c_mWrite_loop (F := F) (s := s) (n := n) (c := c) (v := v) hMk (by omega) (by omega) (c + 1) 0 h (by omega) (by omega) rfl hMn hM0 hM1 hM2 hM3 hM4 hM5 hM6 hM7 hM8 hM9 hM10 hM11 hM12 hM13 hM14 hM15 hM16 (fun _ _ => rfl))
      rintro r h1 ⟨e1, e2, e3, e4⟩
      exact Or.inr (Or.inr ⟨c, rfl, by omega, by omega, e1, e2, e3, e4⟩)
    · skip
      refine xa_bipush (pc := 25) dX10_write_25 rfl ?_
      refine xa_ireturn (pc := 27) dX10_write_27 rfl trivial ?_
      exact Or.inr (Or.inl ⟨by omega, by omega, rfl, rfl⟩)
  · have c_9 := xa_b0.mp c_9
    refine xa_iconst (pc := 12) dX10_write_12 ?_
    refine xa_ireturn (pc := 13) dX10_write_13 rfl trivial ?_
    exact Or.inl ⟨by omega, rfl, rfl⟩
theorem c_mCopy3 {G : xa_G} {h0 : xa_H} {k a b : Nat} {F : Nat → Nat → Int} {s : Nat → Int} (hk : 2 ≤ k) (ha : a ≤ 2) (hb : b ≤ 2) (hab : a ≠ b) : ∀ (d : Nat) (m : Nat) (h : xa_H), 120 - m < d → (m ≤ 120) → (h.2 = h0.2) → (k + 16 < h.2) → (h.1 k = xa_o 10 [xa_i (s 0), xa_r (k + 1), xa_r (k + 2), xa_r (k + 3), xa_r (k + 4), xa_r (k + 5), xa_r (k + 6), xa_r (k + 7), xa_r (k + 8), xa_r (k + 9), xa_r (k + 10), xa_r (k + 11), xa_r (k + 12), xa_i (s 13), xa_i (s 14), xa_i (s 15), xa_r (k + 13), xa_i (s 17), xa_i (s 18), xa_i (s 19), xa_i (s 20), xa_r (k + 14), xa_r (k + 15), xa_i (s 23), xa_r (k + 16)]) → (h.1 (k + 1) = xa_a 120 (F 1)) → (h.1 (k + 2) = xa_a 2 (F 2)) → (h.1 (k + 3) = xa_a 18 (F 3)) → (h.1 (k + 4) = xa_a 2 (F 4)) → (h.1 (k + 5) = xa_a 4 (F 5)) → (h.1 (k + 6) = xa_a 4 (F 6)) → (h.1 (k + 7) = xa_a 2 (F 7)) → (h.1 (k + 8) = xa_a 2 (F 8)) → (h.1 (k + 9) = xa_a 12 (fcp (F 9) (4 * a) (4 * b) 4)) → (h.1 (k + 10) = xa_a 720 (fcp (F 10) (240 * a) (240 * b) 240)) → (h.1 (k + 11) = xa_a 3 (xa_upf (F 11) b (F 11 a))) → (h.1 (k + 12) = xa_a 360 (fcp (F 12) (120 * a) (120 * b) m)) → (h.1 (k + 13) = xa_a 3 (F 13)) → (h.1 (k + 14) = xa_a 583200 (F 14)) → (h.1 (k + 15) = xa_a 583200 (F 15)) → (h.1 (k + 16) = xa_a 4 (F 16)) → (∀ i, (i < k ∨ k + 17 ≤ i) → h.1 i = h0.1 i) → xa_W G mX10_copy (xa_Z G (fun r h' => r = none ∧ xM h' k (xa_uF (xa_uF (xa_uF (xa_uF F 9 (fcp (F 9) (4 * a) (4 * b) 4)) 10 (fcp (F 10) (240 * a) (240 * b) 240)) 11 (xa_upf (F 11) b (F 11 a))) 12 (fcp (F 12) (120 * a) (120 * b) 120)) s ∧ h'.2 = h0.2 ∧ ∀ i, (i < k ∨ k + 17 ≤ i) → h'.1 i = h0.1 i)) 86 [some (xa_r k), some (xa_i ((a : Nat) : Int)), some (xa_i ((b : Nat) : Int)), some (xa_i ((m : Nat) : Int))] [] h 0 0 := by
  intro d
  induction d with
  | zero => intros; exfalso; omega
  | succ d ih =>
    intro m h hd hm hn0 hkn hM0 hM1 hM2 hM3 hM4 hM5 hM6 hM7 hM8 hM9 hM10 hM11 hM12 hM13 hM14 hM15 hM16 fr0
    have hn : h.2 = h.2 := rfl
    have fr : ∀ i, (i < k ∨ k + 17 ≤ i) → h.1 i = h.1 i := fun _ _ => rfl
    refine xa_iload_n (pc := 86) dX10_copy_86 rfl ?_
    refine xa_bipush (pc := 87) dX10_copy_87 rfl ?_
    refine xa_icmp_ge (pc := 89) (tgt := 120) dX10_copy_89 (by decide) ⟨by omega, by omega⟩ (by decide) (fun c_89 => ?_) (fun c_89 => ?_)
    · skip
      refine xa_return (pc := 120) dX10_copy_120 rfl ?_
      have hme : m = 120 := by omega
      subst hme
      exact ⟨rfl, ⟨hM0, hM1, hM2, hM3, hM4, hM5, hM6, hM7, hM8, hM9, hM10, hM11, hM12, hM13, hM14, hM15, hM16, by omega, by omega⟩, by omega, fun i hi => (fr i hi).trans (fr0 i hi)⟩
    · skip
      refine xa_aload_n (pc := 92) dX10_copy_92 rfl ?_
      refine xa_getfield (pc := 93) dX10_copy_93 flRX10_43 (by omega) (by omega) hM0 rfl ?_
      refine xa_bipush (pc := 96) dX10_copy_96 rfl ?_
      refine xa_iload_n (pc := 98) dX10_copy_98 rfl ?_
      refine xa_imul (pc := 99) dX10_copy_99 ?_
      refine xa_iload_n (pc := 100) dX10_copy_100 rfl ?_
      refine xa_iadd (pc := 101) dX10_copy_101 ?_
      refine xa_aload_n (pc := 102) dX10_copy_102 rfl ?_
      refine xa_getfield (pc := 103) dX10_copy_103 flRX10_43 (by omega) (by omega) hM0 rfl ?_
      refine xa_bipush (pc := 106) dX10_copy_106 rfl ?_
      refine xa_iload_n (pc := 108) dX10_copy_108 rfl ?_
      refine xa_imul (pc := 109) dX10_copy_109 ?_
      refine xa_iload_n (pc := 110) dX10_copy_110 rfl ?_
      refine xa_iadd (pc := 111) dX10_copy_111 ?_
      refine xa_ialdw (pc := 112) (120 * a + m) dX10_copy_112 (by omega) hM12 (by omega) (by omega) (by omega) ?_
      refine xa_iastw (pc := 113) (120 * b + m) dX10_copy_113 (by omega) (by omega) hM12 (by omega) (by omega) (by omega) (fun h1 nh1 ch1 oh1 => ?_)
      have hM12 : h1.1 (k + 12) = xa_a 360 (xa_upf (fcp (F 12) (120 * a) (120 * b) m) (120 * b + m) ((fcp (F 12) (120 * a) (120 * b) m) (120 * a + m))) := ch1
      have hM0 : h1.1 k = xa_o 10 [xa_i (s 0), xa_r (k + 1), xa_r (k + 2), xa_r (k + 3), xa_r (k + 4), xa_r (k + 5), xa_r (k + 6), xa_r (k + 7), xa_r (k + 8), xa_r (k + 9), xa_r (k + 10), xa_r (k + 11), xa_r (k + 12), xa_i (s 13), xa_i (s 14), xa_i (s 15), xa_r (k + 13), xa_i (s 17), xa_i (s 18), xa_i (s 19), xa_i (s 20), xa_r (k + 14), xa_r (k + 15), xa_i (s 23), xa_r (k + 16)] := (oh1 _ (by omega)).trans hM0
      have hM1 : h1.1 (k + 1) = xa_a 120 (F 1) := (oh1 _ (by omega)).trans hM1
      have hM2 : h1.1 (k + 2) = xa_a 2 (F 2) := (oh1 _ (by omega)).trans hM2
      have hM3 : h1.1 (k + 3) = xa_a 18 (F 3) := (oh1 _ (by omega)).trans hM3
      have hM4 : h1.1 (k + 4) = xa_a 2 (F 4) := (oh1 _ (by omega)).trans hM4
      have hM5 : h1.1 (k + 5) = xa_a 4 (F 5) := (oh1 _ (by omega)).trans hM5
      have hM6 : h1.1 (k + 6) = xa_a 4 (F 6) := (oh1 _ (by omega)).trans hM6
      have hM7 : h1.1 (k + 7) = xa_a 2 (F 7) := (oh1 _ (by omega)).trans hM7
      have hM8 : h1.1 (k + 8) = xa_a 2 (F 8) := (oh1 _ (by omega)).trans hM8
      have hM9 : h1.1 (k + 9) = xa_a 12 (fcp (F 9) (4 * a) (4 * b) 4) := (oh1 _ (by omega)).trans hM9
      have hM10 : h1.1 (k + 10) = xa_a 720 (fcp (F 10) (240 * a) (240 * b) 240) := (oh1 _ (by omega)).trans hM10
      have hM11 : h1.1 (k + 11) = xa_a 3 (xa_upf (F 11) b (F 11 a)) := (oh1 _ (by omega)).trans hM11
      have hM13 : h1.1 (k + 13) = xa_a 3 (F 13) := (oh1 _ (by omega)).trans hM13
      have hM14 : h1.1 (k + 14) = xa_a 583200 (F 14) := (oh1 _ (by omega)).trans hM14
      have hM15 : h1.1 (k + 15) = xa_a 583200 (F 15) := (oh1 _ (by omega)).trans hM15
      have hM16 : h1.1 (k + 16) = xa_a 4 (F 16) := (oh1 _ (by omega)).trans hM16
      have hn : h1.2 = h.2 := nh1.trans hn
      have fr : ∀ i, (i < k ∨ k + 17 ≤ i) → h1.1 i = h.1 i := fun i hi => (oh1 i (by omega)).trans (fr i hi)
      refine xa_iincw (pc := 114) (y := ((m + 1 : Nat) : Int)) [some (xa_r k), some (xa_i ((a : Nat) : Int)), some (xa_i ((b : Nat) : Int)), some (xa_i ((m + 1 : Nat) : Int))] dX10_copy_114 (by decide) rfl rfl (by omega) rfl ?_
      refine xa_goto (pc := 117) (tgt := 86) dX10_copy_117 (by decide) ?_
      rw [fcp_s (F 12) (n := 120) (by omega) (by omega)] at hM12
      exact ih (m + 1) _ (by omega) (by omega) (by omega) (by omega) hM0 hM1 hM2 hM3 hM4 hM5 hM6 hM7 hM8 hM9 hM10 hM11 hM12 hM13 hM14 hM15 hM16 (fun i hi => (fr i hi).trans (fr0 i hi))
theorem c_mCopy2 {G : xa_G} {h0 : xa_H} {k a b : Nat} {F : Nat → Nat → Int} {s : Nat → Int} (hk : 2 ≤ k) (ha : a ≤ 2) (hb : b ≤ 2) (hab : a ≠ b) : ∀ (d : Nat) (m : Nat) (h : xa_H), 240 - m < d → (m ≤ 240) → (h.2 = h0.2) → (k + 16 < h.2) → (h.1 k = xa_o 10 [xa_i (s 0), xa_r (k + 1), xa_r (k + 2), xa_r (k + 3), xa_r (k + 4), xa_r (k + 5), xa_r (k + 6), xa_r (k + 7), xa_r (k + 8), xa_r (k + 9), xa_r (k + 10), xa_r (k + 11), xa_r (k + 12), xa_i (s 13), xa_i (s 14), xa_i (s 15), xa_r (k + 13), xa_i (s 17), xa_i (s 18), xa_i (s 19), xa_i (s 20), xa_r (k + 14), xa_r (k + 15), xa_i (s 23), xa_r (k + 16)]) → (h.1 (k + 1) = xa_a 120 (F 1)) → (h.1 (k + 2) = xa_a 2 (F 2)) → (h.1 (k + 3) = xa_a 18 (F 3)) → (h.1 (k + 4) = xa_a 2 (F 4)) → (h.1 (k + 5) = xa_a 4 (F 5)) → (h.1 (k + 6) = xa_a 4 (F 6)) → (h.1 (k + 7) = xa_a 2 (F 7)) → (h.1 (k + 8) = xa_a 2 (F 8)) → (h.1 (k + 9) = xa_a 12 (fcp (F 9) (4 * a) (4 * b) 4)) → (h.1 (k + 10) = xa_a 720 (fcp (F 10) (240 * a) (240 * b) m)) → (h.1 (k + 11) = xa_a 3 (F 11)) → (h.1 (k + 12) = xa_a 360 (F 12)) → (h.1 (k + 13) = xa_a 3 (F 13)) → (h.1 (k + 14) = xa_a 583200 (F 14)) → (h.1 (k + 15) = xa_a 583200 (F 15)) → (h.1 (k + 16) = xa_a 4 (F 16)) → (∀ i, (i < k ∨ k + 17 ≤ i) → h.1 i = h0.1 i) → xa_W G mX10_copy (xa_Z G (fun r h' => r = none ∧ xM h' k (xa_uF (xa_uF (xa_uF (xa_uF F 9 (fcp (F 9) (4 * a) (4 * b) 4)) 10 (fcp (F 10) (240 * a) (240 * b) 240)) 11 (xa_upf (F 11) b (F 11 a))) 12 (fcp (F 12) (120 * a) (120 * b) 120)) s ∧ h'.2 = h0.2 ∧ ∀ i, (i < k ∨ k + 17 ≤ i) → h'.1 i = h0.1 i)) 35 [some (xa_r k), some (xa_i ((a : Nat) : Int)), some (xa_i ((b : Nat) : Int)), some (xa_i ((m : Nat) : Int))] [] h 0 0 := by
  intro d
  induction d with
  | zero => intros; exfalso; omega
  | succ d ih =>
    intro m h hd hm hn0 hkn hM0 hM1 hM2 hM3 hM4 hM5 hM6 hM7 hM8 hM9 hM10 hM11 hM12 hM13 hM14 hM15 hM16 fr0
    have hn : h.2 = h.2 := rfl
    have fr : ∀ i, (i < k ∨ k + 17 ≤ i) → h.1 i = h.1 i := fun _ _ => rfl
    refine xa_iload_n (pc := 35) dX10_copy_35 rfl ?_
    refine xa_sipush (pc := 36) dX10_copy_36 rfl ?_
    refine xa_icmp_ge (pc := 39) (tgt := 72) dX10_copy_39 (by decide) ⟨by omega, by omega⟩ (by decide) (fun c_39 => ?_) (fun c_39 => ?_)
    · skip
      refine xa_aload_n (pc := 72) dX10_copy_72 rfl ?_
      refine xa_getfield (pc := 73) dX10_copy_73 flRX10_40 (by omega) (by omega) hM0 rfl ?_
      refine xa_iload_n (pc := 76) dX10_copy_76 rfl ?_
      refine xa_aload_n (pc := 77) dX10_copy_77 rfl ?_
      refine xa_getfield (pc := 78) dX10_copy_78 flRX10_40 (by omega) (by omega) hM0 rfl ?_
      refine xa_iload_n (pc := 81) dX10_copy_81 rfl ?_
      refine xa_ialdw (pc := 82) a dX10_copy_82 (by omega) hM11 (by omega) (by omega) (Int.toNat_natCast _) ?_
      refine xa_iastw (pc := 83) b dX10_copy_83 (by omega) (by omega) hM11 (by omega) (by omega) (Int.toNat_natCast _) (fun h1 nh1 ch1 oh1 => ?_)
      have hM11 : h1.1 (k + 11) = xa_a 3 (xa_upf (F 11) b ((F 11) a)) := ch1
      have hM0 : h1.1 k = xa_o 10 [xa_i (s 0), xa_r (k + 1), xa_r (k + 2), xa_r (k + 3), xa_r (k + 4), xa_r (k + 5), xa_r (k + 6), xa_r (k + 7), xa_r (k + 8), xa_r (k + 9), xa_r (k + 10), xa_r (k + 11), xa_r (k + 12), xa_i (s 13), xa_i (s 14), xa_i (s 15), xa_r (k + 13), xa_i (s 17), xa_i (s 18), xa_i (s 19), xa_i (s 20), xa_r (k + 14), xa_r (k + 15), xa_i (s 23), xa_r (k + 16)] := (oh1 _ (by omega)).trans hM0
      have hM1 : h1.1 (k + 1) = xa_a 120 (F 1) := (oh1 _ (by omega)).trans hM1
      have hM2 : h1.1 (k + 2) = xa_a 2 (F 2) := (oh1 _ (by omega)).trans hM2
      have hM3 : h1.1 (k + 3) = xa_a 18 (F 3) := (oh1 _ (by omega)).trans hM3
      have hM4 : h1.1 (k + 4) = xa_a 2 (F 4) := (oh1 _ (by omega)).trans hM4
      have hM5 : h1.1 (k + 5) = xa_a 4 (F 5) := (oh1 _ (by omega)).trans hM5
      have hM6 : h1.1 (k + 6) = xa_a 4 (F 6) := (oh1 _ (by omega)).trans hM6
      have hM7 : h1.1 (k + 7) = xa_a 2 (F 7) := (oh1 _ (by omega)).trans hM7
      have hM8 : h1.1 (k + 8) = xa_a 2 (F 8) := (oh1 _ (by omega)).trans hM8
      have hM9 : h1.1 (k + 9) = xa_a 12 (fcp (F 9) (4 * a) (4 * b) 4) := (oh1 _ (by omega)).trans hM9
      have hM10 : h1.1 (k + 10) = xa_a 720 (fcp (F 10) (240 * a) (240 * b) m) := (oh1 _ (by omega)).trans hM10
      have hM12 : h1.1 (k + 12) = xa_a 360 (F 12) := (oh1 _ (by omega)).trans hM12
      have hM13 : h1.1 (k + 13) = xa_a 3 (F 13) := (oh1 _ (by omega)).trans hM13
      have hM14 : h1.1 (k + 14) = xa_a 583200 (F 14) := (oh1 _ (by omega)).trans hM14
      have hM15 : h1.1 (k + 15) = xa_a 583200 (F 15) := (oh1 _ (by omega)).trans hM15
      have hM16 : h1.1 (k + 16) = xa_a 4 (F 16) := (oh1 _ (by omega)).trans hM16
      have hn : h1.2 = h.2 := nh1.trans hn
      have fr : ∀ i, (i < k ∨ k + 17 ≤ i) → h1.1 i = h.1 i := fun i hi => (oh1 i (by omega)).trans (fr i hi)
      refine xa_iconst (pc := 84) dX10_copy_84 ?_
      refine xa_istoren (pc := 85) [some (xa_r k), some (xa_i ((a : Nat) : Int)), some (xa_i ((b : Nat) : Int)), some (xa_i 0)] dX10_copy_85 (by decide) (Nat.le_of_ble_eq_true rfl) rfl rfl ?_
      have hme : m = 240 := by omega
      subst hme
      rw [← fcp_0 (F 12) (120 * a) (120 * b)] at hM12
      exact c_mCopy3 hk ha hb hab 121 0 _ (by omega) (by omega) (by omega) (by omega) hM0 hM1 hM2 hM3 hM4 hM5 hM6 hM7 hM8 hM9 hM10 hM11 hM12 hM13 hM14 hM15 hM16 (fun i hi => (fr i hi).trans (fr0 i hi))
    · skip
      refine xa_aload_n (pc := 42) dX10_copy_42 rfl ?_
      refine xa_getfield (pc := 43) dX10_copy_43 flRX10_37 (by omega) (by omega) hM0 rfl ?_
      refine xa_sipush (pc := 46) dX10_copy_46 rfl ?_
      refine xa_iload_n (pc := 49) dX10_copy_49 rfl ?_
      refine xa_imul (pc := 50) dX10_copy_50 ?_
      refine xa_iload_n (pc := 51) dX10_copy_51 rfl ?_
      refine xa_iadd (pc := 52) dX10_copy_52 ?_
      refine xa_aload_n (pc := 53) dX10_copy_53 rfl ?_
      refine xa_getfield (pc := 54) dX10_copy_54 flRX10_37 (by omega) (by omega) hM0 rfl ?_
      refine xa_sipush (pc := 57) dX10_copy_57 rfl ?_
      refine xa_iload_n (pc := 60) dX10_copy_60 rfl ?_
      refine xa_imul (pc := 61) dX10_copy_61 ?_
      refine xa_iload_n (pc := 62) dX10_copy_62 rfl ?_
      refine xa_iadd (pc := 63) dX10_copy_63 ?_
      refine xa_ialdw (pc := 64) (240 * a + m) dX10_copy_64 (by omega) hM10 (by omega) (by omega) (by omega) ?_
      refine xa_iastw (pc := 65) (240 * b + m) dX10_copy_65 (by omega) (by omega) hM10 (by omega) (by omega) (by omega) (fun h2 nh2 ch2 oh2 => ?_)
      have hM10 : h2.1 (k + 10) = xa_a 720 (xa_upf (fcp (F 10) (240 * a) (240 * b) m) (240 * b + m) ((fcp (F 10) (240 * a) (240 * b) m) (240 * a + m))) := ch2
      have hM0 : h2.1 k = xa_o 10 [xa_i (s 0), xa_r (k + 1), xa_r (k + 2), xa_r (k + 3), xa_r (k + 4), xa_r (k + 5), xa_r (k + 6), xa_r (k + 7), xa_r (k + 8), xa_r (k + 9), xa_r (k + 10), xa_r (k + 11), xa_r (k + 12), xa_i (s 13), xa_i (s 14), xa_i (s 15), xa_r (k + 13), xa_i (s 17), xa_i (s 18), xa_i (s 19), xa_i (s 20), xa_r (k + 14), xa_r (k + 15), xa_i (s 23), xa_r (k + 16)] := (oh2 _ (by omega)).trans hM0
      have hM1 : h2.1 (k + 1) = xa_a 120 (F 1) := (oh2 _ (by omega)).trans hM1
      have hM2 : h2.1 (k + 2) = xa_a 2 (F 2) := (oh2 _ (by omega)).trans hM2
      have hM3 : h2.1 (k + 3) = xa_a 18 (F 3) := (oh2 _ (by omega)).trans hM3
      have hM4 : h2.1 (k + 4) = xa_a 2 (F 4) := (oh2 _ (by omega)).trans hM4
      have hM5 : h2.1 (k + 5) = xa_a 4 (F 5) := (oh2 _ (by omega)).trans hM5
      have hM6 : h2.1 (k + 6) = xa_a 4 (F 6) := (oh2 _ (by omega)).trans hM6
      have hM7 : h2.1 (k + 7) = xa_a 2 (F 7) := (oh2 _ (by omega)).trans hM7
      have hM8 : h2.1 (k + 8) = xa_a 2 (F 8) := (oh2 _ (by omega)).trans hM8
      have hM9 : h2.1 (k + 9) = xa_a 12 (fcp (F 9) (4 * a) (4 * b) 4) := (oh2 _ (by omega)).trans hM9
      have hM11 : h2.1 (k + 11) = xa_a 3 (F 11) := (oh2 _ (by omega)).trans hM11
      have hM12 : h2.1 (k + 12) = xa_a 360 (F 12) := (oh2 _ (by omega)).trans hM12
      have hM13 : h2.1 (k + 13) = xa_a 3 (F 13) := (oh2 _ (by omega)).trans hM13
      have hM14 : h2.1 (k + 14) = xa_a 583200 (F 14) := (oh2 _ (by omega)).trans hM14
      have hM15 : h2.1 (k + 15) = xa_a 583200 (F 15) := (oh2 _ (by omega)).trans hM15
      have hM16 : h2.1 (k + 16) = xa_a 4 (F 16) := (oh2 _ (by omega)).trans hM16
      have hn : h2.2 = h.2 := nh2.trans hn
      have fr : ∀ i, (i < k ∨ k + 17 ≤ i) → h2.1 i = h.1 i := fun i hi => (oh2 i (by omega)).trans (fr i hi)
      refine xa_iincw (pc := 66) (y := ((m + 1 : Nat) : Int)) [some (xa_r k), some (xa_i ((a : Nat) : Int)), some (xa_i ((b : Nat) : Int)), some (xa_i ((m + 1 : Nat) : Int))] dX10_copy_66 (by decide) rfl rfl (by omega) rfl ?_
      refine xa_goto (pc := 69) (tgt := 35) dX10_copy_69 (by decide) ?_
      rw [fcp_s (F 10) (n := 240) (by omega) (by omega)] at hM10
      exact ih (m + 1) _ (by omega) (by omega) (by omega) (by omega) hM0 hM1 hM2 hM3 hM4 hM5 hM6 hM7 hM8 hM9 hM10 hM11 hM12 hM13 hM14 hM15 hM16 (fun i hi => (fr i hi).trans (fr0 i hi))
theorem c_mCopy1 {G : xa_G} {h0 : xa_H} {k a b : Nat} {F : Nat → Nat → Int} {s : Nat → Int} (hk : 2 ≤ k) (ha : a ≤ 2) (hb : b ≤ 2) (hab : a ≠ b) : ∀ (d : Nat) (m : Nat) (h : xa_H), 4 - m < d → (m ≤ 4) → (h.2 = h0.2) → (k + 16 < h.2) → (h.1 k = xa_o 10 [xa_i (s 0), xa_r (k + 1), xa_r (k + 2), xa_r (k + 3), xa_r (k + 4), xa_r (k + 5), xa_r (k + 6), xa_r (k + 7), xa_r (k + 8), xa_r (k + 9), xa_r (k + 10), xa_r (k + 11), xa_r (k + 12), xa_i (s 13), xa_i (s 14), xa_i (s 15), xa_r (k + 13), xa_i (s 17), xa_i (s 18), xa_i (s 19), xa_i (s 20), xa_r (k + 14), xa_r (k + 15), xa_i (s 23), xa_r (k + 16)]) → (h.1 (k + 1) = xa_a 120 (F 1)) → (h.1 (k + 2) = xa_a 2 (F 2)) → (h.1 (k + 3) = xa_a 18 (F 3)) → (h.1 (k + 4) = xa_a 2 (F 4)) → (h.1 (k + 5) = xa_a 4 (F 5)) → (h.1 (k + 6) = xa_a 4 (F 6)) → (h.1 (k + 7) = xa_a 2 (F 7)) → (h.1 (k + 8) = xa_a 2 (F 8)) → (h.1 (k + 9) = xa_a 12 (fcp (F 9) (4 * a) (4 * b) m)) → (h.1 (k + 10) = xa_a 720 (F 10)) → (h.1 (k + 11) = xa_a 3 (F 11)) → (h.1 (k + 12) = xa_a 360 (F 12)) → (h.1 (k + 13) = xa_a 3 (F 13)) → (h.1 (k + 14) = xa_a 583200 (F 14)) → (h.1 (k + 15) = xa_a 583200 (F 15)) → (h.1 (k + 16) = xa_a 4 (F 16)) → (∀ i, (i < k ∨ k + 17 ≤ i) → h.1 i = h0.1 i) → xa_W G mX10_copy (xa_Z G (fun r h' => r = none ∧ xM h' k (xa_uF (xa_uF (xa_uF (xa_uF F 9 (fcp (F 9) (4 * a) (4 * b) 4)) 10 (fcp (F 10) (240 * a) (240 * b) 240)) 11 (xa_upf (F 11) b (F 11 a))) 12 (fcp (F 12) (120 * a) (120 * b) 120)) s ∧ h'.2 = h0.2 ∧ ∀ i, (i < k ∨ k + 17 ≤ i) → h'.1 i = h0.1 i)) 2 [some (xa_r k), some (xa_i ((a : Nat) : Int)), some (xa_i ((b : Nat) : Int)), some (xa_i ((m : Nat) : Int))] [] h 0 0 := by
  intro d
  induction d with
  | zero => intros; exfalso; omega
  | succ d ih =>
    intro m h hd hm hn0 hkn hM0 hM1 hM2 hM3 hM4 hM5 hM6 hM7 hM8 hM9 hM10 hM11 hM12 hM13 hM14 hM15 hM16 fr0
    have hn : h.2 = h.2 := rfl
    have fr : ∀ i, (i < k ∨ k + 17 ≤ i) → h.1 i = h.1 i := fun _ _ => rfl
    refine xa_iload_n (pc := 2) dX10_copy_2 rfl ?_
    refine xa_iconst (pc := 3) dX10_copy_3 ?_
    refine xa_icmp_ge (pc := 4) (tgt := 33) dX10_copy_4 (by decide) ⟨by omega, by omega⟩ (by decide) (fun c_4 => ?_) (fun c_4 => ?_)
    · skip
      refine xa_iconst (pc := 33) dX10_copy_33 ?_
      refine xa_istoren (pc := 34) [some (xa_r k), some (xa_i ((a : Nat) : Int)), some (xa_i ((b : Nat) : Int)), some (xa_i 0)] dX10_copy_34 (by decide) (Nat.le_of_ble_eq_true rfl) rfl rfl ?_
      have hme : m = 4 := by omega
      subst hme
      rw [← fcp_0 (F 10) (240 * a) (240 * b)] at hM10
      exact c_mCopy2 hk ha hb hab 241 0 _ (by omega) (by omega) (by omega) (by omega) hM0 hM1 hM2 hM3 hM4 hM5 hM6 hM7 hM8 hM9 hM10 hM11 hM12 hM13 hM14 hM15 hM16 (fun i hi => (fr i hi).trans (fr0 i hi))
    · skip
      refine xa_aload_n (pc := 7) dX10_copy_7 rfl ?_
      refine xa_getfield (pc := 8) dX10_copy_8 flRX10_34 (by omega) (by omega) hM0 rfl ?_
      refine xa_iconst (pc := 11) dX10_copy_11 ?_
      refine xa_iload_n (pc := 12) dX10_copy_12 rfl ?_
      refine xa_imul (pc := 13) dX10_copy_13 ?_
      refine xa_iload_n (pc := 14) dX10_copy_14 rfl ?_
      refine xa_iadd (pc := 15) dX10_copy_15 ?_
      refine xa_aload_n (pc := 16) dX10_copy_16 rfl ?_
      refine xa_getfield (pc := 17) dX10_copy_17 flRX10_34 (by omega) (by omega) hM0 rfl ?_
      refine xa_iconst (pc := 20) dX10_copy_20 ?_
      refine xa_iload_n (pc := 21) dX10_copy_21 rfl ?_
      refine xa_imul (pc := 22) dX10_copy_22 ?_
      refine xa_iload_n (pc := 23) dX10_copy_23 rfl ?_
      refine xa_iadd (pc := 24) dX10_copy_24 ?_
      refine xa_ialdw (pc := 25) (4 * a + m) dX10_copy_25 (by omega) hM9 (by omega) (by omega) (by omega) ?_
      refine xa_iastw (pc := 26) (4 * b + m) dX10_copy_26 (by omega) (by omega) hM9 (by omega) (by omega) (by omega) (fun h1 nh1 ch1 oh1 => ?_)
      have hM9 : h1.1 (k + 9) = xa_a 12 (xa_upf (fcp (F 9) (4 * a) (4 * b) m) (4 * b + m) ((fcp (F 9) (4 * a) (4 * b) m) (4 * a + m))) := ch1
      have hM0 : h1.1 k = xa_o 10 [xa_i (s 0), xa_r (k + 1), xa_r (k + 2), xa_r (k + 3), xa_r (k + 4), xa_r (k + 5), xa_r (k + 6), xa_r (k + 7), xa_r (k + 8), xa_r (k + 9), xa_r (k + 10), xa_r (k + 11), xa_r (k + 12), xa_i (s 13), xa_i (s 14), xa_i (s 15), xa_r (k + 13), xa_i (s 17), xa_i (s 18), xa_i (s 19), xa_i (s 20), xa_r (k + 14), xa_r (k + 15), xa_i (s 23), xa_r (k + 16)] := (oh1 _ (by omega)).trans hM0
      have hM1 : h1.1 (k + 1) = xa_a 120 (F 1) := (oh1 _ (by omega)).trans hM1
      have hM2 : h1.1 (k + 2) = xa_a 2 (F 2) := (oh1 _ (by omega)).trans hM2
      have hM3 : h1.1 (k + 3) = xa_a 18 (F 3) := (oh1 _ (by omega)).trans hM3
      have hM4 : h1.1 (k + 4) = xa_a 2 (F 4) := (oh1 _ (by omega)).trans hM4
      have hM5 : h1.1 (k + 5) = xa_a 4 (F 5) := (oh1 _ (by omega)).trans hM5
      have hM6 : h1.1 (k + 6) = xa_a 4 (F 6) := (oh1 _ (by omega)).trans hM6
      have hM7 : h1.1 (k + 7) = xa_a 2 (F 7) := (oh1 _ (by omega)).trans hM7
      have hM8 : h1.1 (k + 8) = xa_a 2 (F 8) := (oh1 _ (by omega)).trans hM8
      have hM10 : h1.1 (k + 10) = xa_a 720 (F 10) := (oh1 _ (by omega)).trans hM10
      have hM11 : h1.1 (k + 11) = xa_a 3 (F 11) := (oh1 _ (by omega)).trans hM11
      have hM12 : h1.1 (k + 12) = xa_a 360 (F 12) := (oh1 _ (by omega)).trans hM12
      have hM13 : h1.1 (k + 13) = xa_a 3 (F 13) := (oh1 _ (by omega)).trans hM13
      have hM14 : h1.1 (k + 14) = xa_a 583200 (F 14) := (oh1 _ (by omega)).trans hM14
      have hM15 : h1.1 (k + 15) = xa_a 583200 (F 15) := (oh1 _ (by omega)).trans hM15
      have hM16 : h1.1 (k + 16) = xa_a 4 (F 16) := (oh1 _ (by omega)).trans hM16
      have hn : h1.2 = h.2 := nh1.trans hn
      have fr : ∀ i, (i < k ∨ k + 17 ≤ i) → h1.1 i = h.1 i := fun i hi => (oh1 i (by omega)).trans (fr i hi)
      refine xa_iincw (pc := 27) (y := ((m + 1 : Nat) : Int)) [some (xa_r k), some (xa_i ((a : Nat) : Int)), some (xa_i ((b : Nat) : Int)), some (xa_i ((m + 1 : Nat) : Int))] dX10_copy_27 (by decide) rfl rfl (by omega) rfl ?_
      refine xa_goto (pc := 30) (tgt := 2) dX10_copy_30 (by decide) ?_
      rw [fcp_s (F 9) (n := 4) (by omega) (by omega)] at hM9
      exact ih (m + 1) _ (by omega) (by omega) (by omega) (by omega) hM0 hM1 hM2 hM3 hM4 hM5 hM6 hM7 hM8 hM9 hM10 hM11 hM12 hM13 hM14 hM15 hM16 (fun i hi => (fr i hi).trans (fr0 i hi))
theorem c_mCopy {G : xa_G} {h : xa_H} (k a b : Nat) (F : Nat → Nat → Int) (s : Nat → Int) (ha : a ≤ 2) (hb : b ≤ 2) (hab : a ≠ b) (hM : xM h k F s)  : xa_M G mX10_copy [xa_r k, xa_i ((a : Nat) : Int), xa_i ((b : Nat) : Int)] h 0 0 (fun r h' => r = none ∧ xM h' k (xa_uF (xa_uF (xa_uF (xa_uF F 9 (fcp (F 9) (4 * a) (4 * b) 4)) 10 (fcp (F 10) (240 * a) (240 * b) 240)) 11 (xa_upf (F 11) b (F 11 a))) 12 (fcp (F 12) (120 * a) (120 * b) 120)) s ∧ h'.2 = h.2 ∧ ∀ i, (i < k ∨ k + 17 ≤ i) → h'.1 i = h.1 i) := by
  refine xa_enter (by decide +kernel) (Nat.le_of_ble_eq_true rfl) ?_
  refine xa_locals (ls' := [some (xa_r k), some (xa_i ((a : Nat) : Int)), some (xa_i ((b : Nat) : Int)), none]) rfl ?_
  have hn : h.2 = h.2 := rfl
  have fr : ∀ i, (i < k ∨ k + 17 ≤ i) → h.1 i = h.1 i := fun _ _ => rfl
  obtain ⟨hM0, hM1, hM2, hM3, hM4, hM5, hM6, hM7, hM8, hM9, hM10, hM11, hM12, hM13, hM14, hM15, hM16, hMk, hMn⟩ := hM
  refine xa_iconst (pc := 0) dX10_copy_0 ?_
  refine xa_istoren (pc := 1) [some (xa_r k), some (xa_i ((a : Nat) : Int)), some (xa_i ((b : Nat) : Int)), some (xa_i 0)] dX10_copy_1 (by decide) (Nat.le_of_ble_eq_true rfl) rfl rfl ?_
  rw [← fcp_0 (F 9) (4 * a) (4 * b)] at hM9
  exact c_mCopy1 hMk ha hb hab 5 0 h (by omega) (by omega) rfl hMn hM0 hM1 hM2 hM3 hM4 hM5 hM6 hM7 hM8 hM9 hM10 hM11 hM12 hM13 hM14 hM15 hM16 (fun _ _ => rfl)
theorem c_mKeep {G : xa_G} {h : xa_H} (k km : Nat) (F : Nat → Nat → Int) (s : Nat → Int) (hkm : s 13 = ((km : Nat) : Int)) (hkm2 : km ≤ 2) (hM : xM h k F s)  : xa_M G mX10_keep [xa_r k] h 0 0 (fun r h' => (km = 2 ∧ r = some (xa_i (-3)) ∧ h' = h) ∨ (km < 2 ∧ r = some (xa_i (((km : Nat) : Int) + 1)) ∧ xM h' k (xa_uF (xa_uF (xa_uF (xa_uF F 9 (fcp (F 9) (4 * 0) (4 * (1 + km)) 4)) 10 (fcp (F 10) (240 * 0) (240 * (1 + km)) 240)) 11 (xa_upf (F 11) (1 + km) (F 11 0))) 12 (fcp (F 12) (120 * 0) (120 * (1 + km)) 120)) (xa_upf s 13 (((km : Nat) : Int) + 1)) ∧ h'.2 = h.2 ∧ ∀ i, (i < k ∨ k + 17 ≤ i) → h'.1 i = h.1 i)) := by
  refine xa_enter (by decide +kernel) (Nat.le_of_ble_eq_true rfl) ?_
  refine xa_locals (ls' := [some (xa_r k)]) rfl ?_
  have hn : h.2 = h.2 := rfl
  have fr : ∀ i, (i < k ∨ k + 17 ≤ i) → h.1 i = h.1 i := fun _ _ => rfl
  obtain ⟨hM0, hM1, hM2, hM3, hM4, hM5, hM6, hM7, hM8, hM9, hM10, hM11, hM12, hM13, hM14, hM15, hM16, hMk, hMn⟩ := hM
  rw [hkm] at hM0
  refine xa_aload_n (pc := 0) dX10_keep_0 rfl ?_
  refine xa_getfield (pc := 1) dX10_keep_1 flRX10_112 (by omega) (by omega) hM0 rfl ?_
  refine xa_iconst (pc := 4) dX10_keep_4 ?_
  refine xa_icmp_ne (pc := 5) (tgt := 11) dX10_keep_5 (by decide) ⟨by omega, by omega⟩ (by decide) (fun c_5 => ?_) (fun c_5 => ?_)
  · skip
    refine xa_aload_n (pc := 11) dX10_keep_11 rfl ?_
    refine xa_iconst (pc := 12) dX10_keep_12 ?_
    refine xa_iconst (pc := 13) dX10_keep_13 ?_
    refine xa_aload_n (pc := 14) dX10_keep_14 rfl ?_
    refine xa_getfield (pc := 15) dX10_keep_15 flRX10_112 (by omega) (by omega) hM0 rfl ?_
    refine xa_iadd (pc := 18) dX10_keep_18 ?_
    refine xa_top (y := ((1 + km : Nat) : Int)) (by omega) ?_
    refine xa_callV (pc := 19) (as := [xa_i 0, xa_i ((1 + km : Nat) : Int)]) (rest := []) dX10_keep_19 ⟨qX10_copy.1, qX10_copy.2.1, qX10_copy.2.2, by decide, by decide⟩ lkRX10_257 imX10_copy seX10_copy rfl rfl (by omega) (by omega) hM0 rfl (Nat.le_of_ble_eq_true rfl) (Nat.zero_le _) (Nat.zero_le _) (c_mCopy k 0 (1 + km) F (xa_upf s 13 ((km : Nat) : Int)) (by omega) (by omega) (by omega) ⟨hM0, hM1, hM2, hM3, hM4, hM5, hM6, hM7, hM8, hM9, hM10, hM11, hM12, hM13, hM14, hM15, hM16, by omega, by omega⟩) (fun r h' hq => ?_)
    obtain ⟨rfl, hM, hqn, hqf⟩ := hq
    obtain ⟨hM0, hM1, hM2, hM3, hM4, hM5, hM6, hM7, hM8, hM9, hM10, hM11, hM12, hM13, hM14, hM15, hM16, hMk, hMn⟩ := hM
    have hM0 : h'.1 k = xa_o 10 [xa_i (s 0), xa_r (k + 1), xa_r (k + 2), xa_r (k + 3), xa_r (k + 4), xa_r (k + 5), xa_r (k + 6), xa_r (k + 7), xa_r (k + 8), xa_r (k + 9), xa_r (k + 10), xa_r (k + 11), xa_r (k + 12), xa_i ((km : Nat) : Int), xa_i (s 14), xa_i (s 15), xa_r (k + 13), xa_i (s 17), xa_i (s 18), xa_i (s 19), xa_i (s 20), xa_r (k + 14), xa_r (k + 15), xa_i (s 23), xa_r (k + 16)] := hM0
    have hM1 : h'.1 (k + 1) = xa_a 120 (F 1) := hM1
    have hM2 : h'.1 (k + 2) = xa_a 2 (F 2) := hM2
    have hM3 : h'.1 (k + 3) = xa_a 18 (F 3) := hM3
    have hM4 : h'.1 (k + 4) = xa_a 2 (F 4) := hM4
    have hM5 : h'.1 (k + 5) = xa_a 4 (F 5) := hM5
    have hM6 : h'.1 (k + 6) = xa_a 4 (F 6) := hM6
    have hM7 : h'.1 (k + 7) = xa_a 2 (F 7) := hM7
    have hM8 : h'.1 (k + 8) = xa_a 2 (F 8) := hM8
    have hM9 : h'.1 (k + 9) = xa_a 12 (fcp (F 9) (4 * 0) (4 * (1 + km)) 4) := hM9
    have hM10 : h'.1 (k + 10) = xa_a 720 (fcp (F 10) (240 * 0) (240 * (1 + km)) 240) := hM10
    have hM11 : h'.1 (k + 11) = xa_a 3 (xa_upf (F 11) (1 + km) (F 11 0)) := hM11
    have hM12 : h'.1 (k + 12) = xa_a 360 (fcp (F 12) (120 * 0) (120 * (1 + km)) 120) := hM12
    have hM13 : h'.1 (k + 13) = xa_a 3 (F 13) := hM13
    have hM14 : h'.1 (k + 14) = xa_a 583200 (F 14) := hM14
    have hM15 : h'.1 (k + 15) = xa_a 583200 (F 15) := hM15
    have hM16 : h'.1 (k + 16) = xa_a 4 (F 16) := hM16
    have hn : h'.2 = h.2 := hqn.trans hn
    have fr : ∀ i, (i < k ∨ k + 17 ≤ i) → h'.1 i = h.1 i := fun i hi => (hqf i (by omega)).trans (fr i hi)
    refine xa_aload_n (pc := 22) dX10_keep_22 rfl ?_
    refine xa_dup (pc := 23) dX10_keep_23 rfl ?_
    refine xa_getfield (pc := 24) dX10_keep_24 flRX10_112 (by omega) (by omega) hM0 rfl ?_
    refine xa_iconst (pc := 27) dX10_keep_27 ?_
    refine xa_iadd (pc := 28) dX10_keep_28 ?_
    refine xa_putw (pc := 29) [xa_i (s 0), xa_r (k + 1), xa_r (k + 2), xa_r (k + 3), xa_r (k + 4), xa_r (k + 5), xa_r (k + 6), xa_r (k + 7), xa_r (k + 8), xa_r (k + 9), xa_r (k + 10), xa_r (k + 11), xa_r (k + 12), xa_i (((km : Nat) : Int) + 1), xa_i (s 14), xa_i (s 15), xa_r (k + 13), xa_i (s 17), xa_i (s 18), xa_i (s 19), xa_i (s 20), xa_r (k + 14), xa_r (k + 15), xa_i (s 23), xa_r (k + 16)] dX10_keep_29 flRX10_112 plX10_13 (by omega) (by omega) hM0 trivial rfl (fun h1 nh1 ch1 oh1 => ?_)
    have hM0 : h1.1 k = xa_o 10 [xa_i (s 0), xa_r (k + 1), xa_r (k + 2), xa_r (k + 3), xa_r (k + 4), xa_r (k + 5), xa_r (k + 6), xa_r (k + 7), xa_r (k + 8), xa_r (k + 9), xa_r (k + 10), xa_r (k + 11), xa_r (k + 12), xa_i (((km : Nat) : Int) + 1), xa_i (s 14), xa_i (s 15), xa_r (k + 13), xa_i (s 17), xa_i (s 18), xa_i (s 19), xa_i (s 20), xa_r (k + 14), xa_r (k + 15), xa_i (s 23), xa_r (k + 16)] := ch1
    have hM1 : h1.1 (k + 1) = xa_a 120 (F 1) := (oh1 _ (by omega)).trans hM1
    have hM2 : h1.1 (k + 2) = xa_a 2 (F 2) := (oh1 _ (by omega)).trans hM2
    have hM3 : h1.1 (k + 3) = xa_a 18 (F 3) := (oh1 _ (by omega)).trans hM3
    have hM4 : h1.1 (k + 4) = xa_a 2 (F 4) := (oh1 _ (by omega)).trans hM4
    have hM5 : h1.1 (k + 5) = xa_a 4 (F 5) := (oh1 _ (by omega)).trans hM5
    have hM6 : h1.1 (k + 6) = xa_a 4 (F 6) := (oh1 _ (by omega)).trans hM6
    have hM7 : h1.1 (k + 7) = xa_a 2 (F 7) := (oh1 _ (by omega)).trans hM7
    have hM8 : h1.1 (k + 8) = xa_a 2 (F 8) := (oh1 _ (by omega)).trans hM8
    have hM9 : h1.1 (k + 9) = xa_a 12 (fcp (F 9) (4 * 0) (4 * (1 + km)) 4) := (oh1 _ (by omega)).trans hM9
    have hM10 : h1.1 (k + 10) = xa_a 720 (fcp (F 10) (240 * 0) (240 * (1 + km)) 240) := (oh1 _ (by omega)).trans hM10
    have hM11 : h1.1 (k + 11) = xa_a 3 (xa_upf (F 11) (1 + km) (F 11 0)) := (oh1 _ (by omega)).trans hM11
    have hM12 : h1.1 (k + 12) = xa_a 360 (fcp (F 12) (120 * 0) (120 * (1 + km)) 120) := (oh1 _ (by omega)).trans hM12
    have hM13 : h1.1 (k + 13) = xa_a 3 (F 13) := (oh1 _ (by omega)).trans hM13
    have hM14 : h1.1 (k + 14) = xa_a 583200 (F 14) := (oh1 _ (by omega)).trans hM14
    have hM15 : h1.1 (k + 15) = xa_a 583200 (F 15) := (oh1 _ (by omega)).trans hM15
    have hM16 : h1.1 (k + 16) = xa_a 4 (F 16) := (oh1 _ (by omega)).trans hM16
    have hn : h1.2 = h.2 := nh1.trans hn
    have fr : ∀ i, (i < k ∨ k + 17 ≤ i) → h1.1 i = h.1 i := fun i hi => (oh1 i (by omega)).trans (fr i hi)
    refine xa_aload_n (pc := 32) dX10_keep_32 rfl ?_
    refine xa_getfield (pc := 33) dX10_keep_33 flRX10_112 (by omega) (by omega) hM0 rfl ?_
    refine xa_ireturn (pc := 36) dX10_keep_36 rfl trivial ?_
    exact Or.inr ⟨by omega, rfl, ⟨hM0, hM1, hM2, hM3, hM4, hM5, hM6, hM7, hM8, hM9, hM10, hM11, hM12, hM13, hM14, hM15, hM16, by omega, by omega⟩, hn, fr⟩
  · skip
    refine xa_bipush (pc := 8) dX10_keep_8 rfl ?_
    refine xa_ireturn (pc := 10) dX10_keep_10 rfl trivial ?_
    exact Or.inl ⟨by omega, rfl, rfl⟩
theorem c_mBack {G : xa_G} {h : xa_H} (k km : Nat) (F : Nat → Nat → Int) (s : Nat → Int) (hkm : s 13 = ((km : Nat) : Int)) (hkm2 : km ≤ 2) (hM : xM h k F s)  : xa_M G mX10_back [xa_r k] h 0 0 (fun r h' => (km = 0 ∧ r = some (xa_i (-2)) ∧ h' = h) ∨ (0 < km ∧ r = some (xa_i (((km : Nat) : Int) - 1)) ∧ xM h' k (xa_uF (xa_uF (xa_uF (xa_uF F 9 (fcp (F 9) (4 * km) (4 * 0) 4)) 10 (fcp (F 10) (240 * km) (240 * 0) 240)) 11 (xa_upf (F 11) 0 (F 11 km))) 12 (fcp (F 12) (120 * km) (120 * 0) 120)) (xa_upf s 13 (((km : Nat) : Int) - 1)) ∧ h'.2 = h.2 ∧ ∀ i, (i < k ∨ k + 17 ≤ i) → h'.1 i = h.1 i)) := by
  refine xa_enter (by decide +kernel) (Nat.le_of_ble_eq_true rfl) ?_
  refine xa_locals (ls' := [some (xa_r k)]) rfl ?_
  have hn : h.2 = h.2 := rfl
  have fr : ∀ i, (i < k ∨ k + 17 ≤ i) → h.1 i = h.1 i := fun _ _ => rfl
  obtain ⟨hM0, hM1, hM2, hM3, hM4, hM5, hM6, hM7, hM8, hM9, hM10, hM11, hM12, hM13, hM14, hM15, hM16, hMk, hMn⟩ := hM
  rw [hkm] at hM0
  refine xa_aload_n (pc := 0) dX10_back_0 rfl ?_
  refine xa_getfield (pc := 1) dX10_back_1 flRX10_112 (by omega) (by omega) hM0 rfl ?_
  refine xa_if_ne (pc := 4) (tgt := 10) dX10_back_4 (by decide) ⟨by omega, by omega⟩ (fun c_4 => ?_) (fun c_4 => ?_)
  · skip
    refine xa_aload_n (pc := 10) dX10_back_10 rfl ?_
    refine xa_dup (pc := 11) dX10_back_11 rfl ?_
    refine xa_getfield (pc := 12) dX10_back_12 flRX10_112 (by omega) (by omega) hM0 rfl ?_
    refine xa_iconst (pc := 15) dX10_back_15 ?_
    refine xa_isub (pc := 16) dX10_back_16 ?_
    refine xa_putw (pc := 17) [xa_i (s 0), xa_r (k + 1), xa_r (k + 2), xa_r (k + 3), xa_r (k + 4), xa_r (k + 5), xa_r (k + 6), xa_r (k + 7), xa_r (k + 8), xa_r (k + 9), xa_r (k + 10), xa_r (k + 11), xa_r (k + 12), xa_i (((km : Nat) : Int) - 1), xa_i (s 14), xa_i (s 15), xa_r (k + 13), xa_i (s 17), xa_i (s 18), xa_i (s 19), xa_i (s 20), xa_r (k + 14), xa_r (k + 15), xa_i (s 23), xa_r (k + 16)] dX10_back_17 flRX10_112 plX10_13 (by omega) (by omega) hM0 trivial rfl (fun h1 nh1 ch1 oh1 => ?_)
    have hM0 : h1.1 k = xa_o 10 [xa_i (s 0), xa_r (k + 1), xa_r (k + 2), xa_r (k + 3), xa_r (k + 4), xa_r (k + 5), xa_r (k + 6), xa_r (k + 7), xa_r (k + 8), xa_r (k + 9), xa_r (k + 10), xa_r (k + 11), xa_r (k + 12), xa_i (((km : Nat) : Int) - 1), xa_i (s 14), xa_i (s 15), xa_r (k + 13), xa_i (s 17), xa_i (s 18), xa_i (s 19), xa_i (s 20), xa_r (k + 14), xa_r (k + 15), xa_i (s 23), xa_r (k + 16)] := ch1
    have hM1 : h1.1 (k + 1) = xa_a 120 (F 1) := (oh1 _ (by omega)).trans hM1
    have hM2 : h1.1 (k + 2) = xa_a 2 (F 2) := (oh1 _ (by omega)).trans hM2
    have hM3 : h1.1 (k + 3) = xa_a 18 (F 3) := (oh1 _ (by omega)).trans hM3
    have hM4 : h1.1 (k + 4) = xa_a 2 (F 4) := (oh1 _ (by omega)).trans hM4
    have hM5 : h1.1 (k + 5) = xa_a 4 (F 5) := (oh1 _ (by omega)).trans hM5
    have hM6 : h1.1 (k + 6) = xa_a 4 (F 6) := (oh1 _ (by omega)).trans hM6
    have hM7 : h1.1 (k + 7) = xa_a 2 (F 7) := (oh1 _ (by omega)).trans hM7
    have hM8 : h1.1 (k + 8) = xa_a 2 (F 8) := (oh1 _ (by omega)).trans hM8
    have hM9 : h1.1 (k + 9) = xa_a 12 (F 9) := (oh1 _ (by omega)).trans hM9
    have hM10 : h1.1 (k + 10) = xa_a 720 (F 10) := (oh1 _ (by omega)).trans hM10
    have hM11 : h1.1 (k + 11) = xa_a 3 (F 11) := (oh1 _ (by omega)).trans hM11
    have hM12 : h1.1 (k + 12) = xa_a 360 (F 12) := (oh1 _ (by omega)).trans hM12
    have hM13 : h1.1 (k + 13) = xa_a 3 (F 13) := (oh1 _ (by omega)).trans hM13
    have hM14 : h1.1 (k + 14) = xa_a 583200 (F 14) := (oh1 _ (by omega)).trans hM14
    have hM15 : h1.1 (k + 15) = xa_a 583200 (F 15) := (oh1 _ (by omega)).trans hM15
    have hM16 : h1.1 (k + 16) = xa_a 4 (F 16) := (oh1 _ (by omega)).trans hM16
    have hn : h1.2 = h.2 := nh1.trans hn
    have fr : ∀ i, (i < k ∨ k + 17 ≤ i) → h1.1 i = h.1 i := fun i hi => (oh1 i (by omega)).trans (fr i hi)
    refine xa_aload_n (pc := 20) dX10_back_20 rfl ?_
    refine xa_iconst (pc := 21) dX10_back_21 ?_
    refine xa_aload_n (pc := 22) dX10_back_22 rfl ?_
    refine xa_getfield (pc := 23) dX10_back_23 flRX10_112 (by omega) (by omega) hM0 rfl ?_
    refine xa_iadd (pc := 26) dX10_back_26 ?_
    refine xa_top (y := ((km : Nat) : Int)) (by omega) ?_
    refine xa_iconst (pc := 27) dX10_back_27 ?_
    refine xa_callV (pc := 28) (as := [xa_i ((km : Nat) : Int), xa_i 0]) (rest := []) dX10_back_28 ⟨qX10_copy.1, qX10_copy.2.1, qX10_copy.2.2, by decide, by decide⟩ lkRX10_257 imX10_copy seX10_copy rfl rfl (by omega) (by omega) hM0 rfl (Nat.le_of_ble_eq_true rfl) (Nat.zero_le _) (Nat.zero_le _) (c_mCopy k km 0 F (xa_upf s 13 (((km : Nat) : Int) - 1)) (by omega) (by omega) (by omega) ⟨hM0, hM1, hM2, hM3, hM4, hM5, hM6, hM7, hM8, hM9, hM10, hM11, hM12, hM13, hM14, hM15, hM16, by omega, by omega⟩) (fun r h' hq => ?_)
    obtain ⟨rfl, hM, hqn, hqf⟩ := hq
    obtain ⟨hM0, hM1, hM2, hM3, hM4, hM5, hM6, hM7, hM8, hM9, hM10, hM11, hM12, hM13, hM14, hM15, hM16, hMk, hMn⟩ := hM
    have hM0 : h'.1 k = xa_o 10 [xa_i (s 0), xa_r (k + 1), xa_r (k + 2), xa_r (k + 3), xa_r (k + 4), xa_r (k + 5), xa_r (k + 6), xa_r (k + 7), xa_r (k + 8), xa_r (k + 9), xa_r (k + 10), xa_r (k + 11), xa_r (k + 12), xa_i (((km : Nat) : Int) - 1), xa_i (s 14), xa_i (s 15), xa_r (k + 13), xa_i (s 17), xa_i (s 18), xa_i (s 19), xa_i (s 20), xa_r (k + 14), xa_r (k + 15), xa_i (s 23), xa_r (k + 16)] := hM0
    have hM1 : h'.1 (k + 1) = xa_a 120 (F 1) := hM1
    have hM2 : h'.1 (k + 2) = xa_a 2 (F 2) := hM2
    have hM3 : h'.1 (k + 3) = xa_a 18 (F 3) := hM3
    have hM4 : h'.1 (k + 4) = xa_a 2 (F 4) := hM4
    have hM5 : h'.1 (k + 5) = xa_a 4 (F 5) := hM5
    have hM6 : h'.1 (k + 6) = xa_a 4 (F 6) := hM6
    have hM7 : h'.1 (k + 7) = xa_a 2 (F 7) := hM7
    have hM8 : h'.1 (k + 8) = xa_a 2 (F 8) := hM8
    have hM9 : h'.1 (k + 9) = xa_a 12 (fcp (F 9) (4 * km) (4 * 0) 4) := hM9
    have hM10 : h'.1 (k + 10) = xa_a 720 (fcp (F 10) (240 * km) (240 * 0) 240) := hM10
    have hM11 : h'.1 (k + 11) = xa_a 3 (xa_upf (F 11) 0 (F 11 km)) := hM11
    have hM12 : h'.1 (k + 12) = xa_a 360 (fcp (F 12) (120 * km) (120 * 0) 120) := hM12
    have hM13 : h'.1 (k + 13) = xa_a 3 (F 13) := hM13
    have hM14 : h'.1 (k + 14) = xa_a 583200 (F 14) := hM14
    have hM15 : h'.1 (k + 15) = xa_a 583200 (F 15) := hM15
    have hM16 : h'.1 (k + 16) = xa_a 4 (F 16) := hM16
    have hn : h'.2 = h.2 := hqn.trans hn
    have fr : ∀ i, (i < k ∨ k + 17 ≤ i) → h'.1 i = h.1 i := fun i hi => (hqf i (by omega)).trans (fr i hi)
    refine xa_aload_n (pc := 31) dX10_back_31 rfl ?_
    refine xa_getfield (pc := 32) dX10_back_32 flRX10_112 (by omega) (by omega) hM0 rfl ?_
    refine xa_ireturn (pc := 35) dX10_back_35 rfl trivial ?_
    exact Or.inr ⟨by omega, rfl, ⟨hM0, hM1, hM2, hM3, hM4, hM5, hM6, hM7, hM8, hM9, hM10, hM11, hM12, hM13, hM14, hM15, hM16, by omega, by omega⟩, hn, fr⟩
  · skip
    refine xa_bipush (pc := 7) dX10_back_7 rfl ?_
    refine xa_ireturn (pc := 9) dX10_back_9 rfl trivial ?_
    exact Or.inl ⟨by omega, rfl, rfl⟩
