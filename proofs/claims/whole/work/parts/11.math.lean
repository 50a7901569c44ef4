/-! the static methods, Math, Arrays.fill -/
theorem xa_neg32 {a : Int32} : a.toInt < 0 ↔ a.toBitVec.msb = true := by
  rw [BitVec.msb_eq_toInt]
  simp [Int32.toInt_toBitVec]
theorem xa_xor_neg {x y : Int} (hx : xa_ok x) (hy : xa_ok y) (h : 0 ≤ y) : xa_xor x y < 0 ↔ x < 0 := by
  have e1 : (Int32.ofInt y).toBitVec.msb = false := by
    cases hq : (Int32.ofInt y).toBitVec.msb with
    | false => rfl
    | true =>
      have := xa_neg32.mpr hq
      rw [xa_toInt hy] at this
      omega
  unfold xa_xor
  rw [xa_neg32, Int32.toBitVec_xor, BitVec.msb_xor, e1, Bool.xor_false, ← xa_neg32, xa_toInt hx]
theorem xa_tmod_pos {x y : Int} (hy : 0 < y) : x % y = if x.tmod y = 0 ∨ 0 ≤ x then x.tmod y else x.tmod y + y := by
  have e := Int.tmod_eq_emod (a := x) (b := y)
  have e2 := Int.emod_nonneg x (by omega : y ≠ 0)
  have e3 := Int.emod_lt_of_pos x hy
  by_cases h0 : 0 ≤ x
  · rw [if_pos (Or.inr h0)]
    rw [if_pos (Or.inl h0)] at e
    omega
  · by_cases hd : y ∣ x
    · rw [if_pos (Or.inr hd)] at e
      have := Int.emod_eq_zero_of_dvd hd
      rw [if_pos (Or.inl (by omega))]
      omega
    · rw [if_neg (by intro h; rcases h with h | h; exact h0 h; exact hd h)] at e
      have h1 : x % y ≠ 0 := fun h => hd (Int.dvd_of_emod_eq_zero h)
      rw [if_neg (by omega)]
      omega
/-- a row filled up to m -/
def xa_fl (f : Nat → Int) (m : Nat) (v : Int) : Nat → Int := fun i => if i < m then v else f i
theorem xa_fl_0 (f : Nat → Int) (v : Int) : xa_fl f 0 v = f := by funext i; simp [xa_fl]
theorem xa_fl_s (f : Nat → Int) (m : Nat) (v : Int) : xa_upf (xa_fl f m v) m v = xa_fl f (m + 1) v := by
  funext i
  unfold xa_upf xa_fl
  by_cases h : i = m
  · subst h; simp
  · rw [if_neg h]
    by_cases h2 : i < m
    · rw [if_pos h2, if_pos (by omega)]
    · rw [if_neg h2, if_neg (by omega)]
def sp_off (t o : Int) : Int := min ((t - o) % 360) (360 - (t - o) % 360)

theorem xa_ok32 (a : Int32) : xa_ok a.toInt := ⟨by have := a.le_toInt; have e : Int32.minValue.toInt = -2147483648 := rfl; omega, by have := a.toInt_le; have e : Int32.maxValue.toInt = 2147483647 := rfl; omega⟩
theorem xa_ok_xor (x y : Int) : xa_ok (xa_xor x y) := xa_ok32 _
theorem xa_ok_and (x y : Int) : xa_ok (xa_and x y) := xa_ok32 _
theorem xa_ok_or (x y : Int) : xa_ok (xa_or x y) := xa_ok32 _
theorem xa_ok_shl (x y : Int) : xa_ok (xa_shl x y) := xa_ok32 _
theorem xa_ok_shr (x y : Int) : xa_ok (xa_shr x y) := xa_ok32 _
theorem xa_ok_tmod {x y : Int} (h : xa_ok x) (hy : 0 < y) : xa_ok (x.tmod y) := by
  have h1 := h.1
  have h2 := h.2
  by_cases h0 : 0 ≤ x
  · have e := Int.tmod_eq_emod_of_nonneg (b := y) h0
    have a := Int.emod_nonneg x (by omega : y ≠ 0)
    have b := Int.emod_lt_of_pos x hy
    have c : x % y ≤ x := by have := Int.emod_def x y; have := Int.mul_nonneg (by omega : 0 ≤ y) (Int.ediv_nonneg h0 (by omega : 0 ≤ y)); omega
    exact ⟨by omega, by omega⟩
  · have e : x.tmod y = -((-x).tmod y) := by rw [Int.neg_tmod, Int.neg_neg]
    have e2 := Int.tmod_eq_emod_of_nonneg (a := -x) (b := y) (by omega)
    have a := Int.emod_nonneg (-x) (by omega : y ≠ 0)
    have c : (-x) % y ≤ -x := by have := Int.emod_def (-x) y; have := Int.mul_nonneg (by omega : 0 ≤ y) (Int.ediv_nonneg (by omega : 0 ≤ -x) (by omega : 0 ≤ y)); omega
    exact ⟨by omega, by omega⟩
theorem c_isWithin {G : xa_G} {h : xa_H} (n a b : Int) (h1 : xa_ok n) (h2 : xa_ok a) (h3 : xa_ok b)  : xa_M G mX9_isWithin [xa_i n, xa_i a, xa_i b] h 0 0 (fun r h' => r = some (xa_i (xa_b (a ≤ n ∧ n ≤ b))) ∧ h' = h) := by
  refine xa_enter (by decide +kernel) (Nat.le_of_ble_eq_true rfl) ?_
  refine xa_locals (ls' := [some (xa_i n), some (xa_i a), some (xa_i b)]) rfl ?_
  refine xa_iload_n (pc := 0) dX9_isWithin_0 rfl ?_
  refine xa_iload_n (pc := 1) dX9_isWithin_1 rfl ?_
  refine xa_icmp_lt (pc := 2) (tgt := 14) dX9_isWithin_2 (by decide) ⟨by omega, by omega⟩ ⟨by omega, by omega⟩ (fun c_2 => ?_) (fun c_2 => ?_)
  · skip
    refine xa_iconst (pc := 14) dX9_isWithin_14 ?_
    refine xa_ireturn (pc := 15) dX9_isWithin_15 rfl (Or.inl rfl) ?_
    exact ⟨congrArg (fun z => some (xa_i z)) (xa_bf (by omega)), rfl⟩
  · skip
    refine xa_iload_n (pc := 5) dX9_isWithin_5 rfl ?_
    refine xa_iload_n (pc := 6) dX9_isWithin_6 rfl ?_
    refine xa_icmp_gt (pc := 7) (tgt := 14) dX9_isWithin_7 (by decide) ⟨by omega, by omega⟩ ⟨by omega, by omega⟩ (fun c_7 => ?_) (fun c_7 => ?_)
    · skip
      refine xa_iconst (pc := 14) dX9_isWithin_14 ?_
      refine xa_ireturn (pc := 15) dX9_isWithin_15 rfl (Or.inl rfl) ?_
      exact ⟨congrArg (fun z => some (xa_i z)) (xa_bf (by omega)), rfl⟩
    · skip
      refine xa_iconst (pc := 10) dX9_isWithin_10 ?_
      refine xa_goto (pc := 11) (tgt := 15) dX9_isWithin_11 (by decide) ?_
      refine xa_ireturn (pc := 15) dX9_isWithin_15 rfl (Or.inr rfl) ?_
      exact ⟨congrArg (fun z => some (xa_i z)) (xa_bt (by omega)), rfl⟩
theorem c_cut {G : xa_G} {h : xa_H} (n b : Int) (h1 : xa_ok n) (h2 : xa_ok b)  : xa_M G mX9_cut [xa_i n, xa_i b] h 0 0 (fun r h' => r = some (xa_i (n.tdiv b)) ∧ h' = h) := by
  refine xa_enter (by decide +kernel) (Nat.le_of_ble_eq_true rfl) ?_
  refine xa_locals (ls' := [some (xa_i n), some (xa_i b)]) rfl ?_
  refine xa_iload_n (pc := 0) dX9_cut_0 rfl ?_
  refine xa_if_ne (pc := 1) (tgt := 8) dX9_cut_1 (by decide) ⟨by omega, by omega⟩ (fun c_1 => ?_) (fun c_1 => ?_)
  · skip
    refine xa_iload_n (pc := 8) dX9_cut_8 rfl ?_
    refine xa_iload_n (pc := 9) dX9_cut_9 rfl ?_
    refine xa_idiv (pc := 10) dX9_cut_10 ⟨by omega, by omega⟩ ⟨by omega, by omega⟩ c_1 ?_
    refine xa_ireturn (pc := 11) dX9_cut_11 rfl trivial ?_
    exact ⟨congrArg (fun z => some (xa_i z)) (show n.tdiv b = n.tdiv b by first | rfl | (subst c_1; simp)), rfl⟩
  · skip
    refine xa_iconst (pc := 4) dX9_cut_4 ?_
    refine xa_goto (pc := 5) (tgt := 11) dX9_cut_5 (by decide) ?_
    refine xa_ireturn (pc := 11) dX9_cut_11 rfl trivial ?_
    exact ⟨congrArg (fun z => some (xa_i z)) (show 0 = n.tdiv b by first | rfl | (subst c_1; simp)), rfl⟩
theorem c_floorMod {G : xa_G} {h : xa_H} (x y : Int) (h1 : xa_ok x) (h2 : xa_ok y) (h3 : 0 < y)  : xa_M G mJ9_floorMod_7cf53 [xa_i x, xa_i y] h 0 0 (fun r h' => r = some (xa_i (x % y)) ∧ h' = h) := by
  refine xa_enter (by decide +kernel) (Nat.le_of_ble_eq_true rfl) ?_
  refine xa_locals (ls' := [some (xa_i x), some (xa_i y), none]) rfl ?_
  refine xa_iload_n (pc := 0) dJ9_floorMod_7cf53_0 rfl ?_
  refine xa_iload_n (pc := 1) dJ9_floorMod_7cf53_1 rfl ?_
  refine xa_irem (pc := 2) dJ9_floorMod_7cf53_2 ⟨by omega, by omega⟩ ⟨by omega, by omega⟩ (by omega) ?_
  refine xa_istoren (pc := 3) [some (xa_i x), some (xa_i y), some (xa_i (x.tmod y))] dJ9_floorMod_7cf53_3 (by decide) (by simp) rfl rfl ?_
  refine xa_iload_n (pc := 4) dJ9_floorMod_7cf53_4 rfl ?_
  refine xa_iload_n (pc := 5) dJ9_floorMod_7cf53_5 rfl ?_
  refine xa_ixor (pc := 6) dJ9_floorMod_7cf53_6 ?_
  refine xa_if_ge (pc := 7) (tgt := 18) dJ9_floorMod_7cf53_7 (by decide) (xa_ok_xor _ _) (fun c_7 => ?_) (fun c_7 => ?_)
  · skip
    refine xa_iload_n (pc := 18) dJ9_floorMod_7cf53_18 rfl ?_
    refine xa_ireturn (pc := 19) dJ9_floorMod_7cf53_19 rfl trivial ?_
    exact ⟨congrArg (fun z => some (xa_i z)) (show x.tmod y = x % y by (have e := xa_tmod_pos (x := x) h3; have z := xa_xor_neg h1 h2 (by omega); rw [e]; split <;> omega)), rfl⟩
  · skip
    refine xa_iload_n (pc := 10) dJ9_floorMod_7cf53_10 rfl ?_
    refine xa_if_eq (pc := 11) (tgt := 18) dJ9_floorMod_7cf53_11 (by decide) (xa_ok_tmod h1 h3) (fun c_11 => ?_) (fun c_11 => ?_)
    · skip
      refine xa_iload_n (pc := 18) dJ9_floorMod_7cf53_18 rfl ?_
      refine xa_ireturn (pc := 19) dJ9_floorMod_7cf53_19 rfl trivial ?_
      exact ⟨congrArg (fun z => some (xa_i z)) (show x.tmod y = x % y by (have e := xa_tmod_pos (x := x) h3; have z := xa_xor_neg h1 h2 (by omega); rw [e]; split <;> omega)), rfl⟩
    · skip
      refine xa_iload_n (pc := 14) dJ9_floorMod_7cf53_14 rfl ?_
      refine xa_iload_n (pc := 15) dJ9_floorMod_7cf53_15 rfl ?_
      refine xa_iadd (pc := 16) dJ9_floorMod_7cf53_16 ?_
      refine xa_ireturn (pc := 17) dJ9_floorMod_7cf53_17 rfl trivial ?_
      exact ⟨congrArg (fun z => some (xa_i z)) (show (x.tmod y) + y = x % y by (have e := xa_tmod_pos (x := x) h3; have z := xa_xor_neg h1 h2 (by omega); rw [e]; split <;> omega)), rfl⟩
theorem c_abs {G : xa_G} {h : xa_H} (x : Int) (h1 : xa_ok x)  : xa_M G mJ9_abs_0f7a4 [xa_i x] h 0 0 (fun r h' => r = some (xa_i (x.natAbs : Int)) ∧ h' = h) := by
  refine xa_enter (by decide +kernel) (Nat.le_of_ble_eq_true rfl) ?_
  refine xa_locals (ls' := [some (xa_i x)]) rfl ?_
  refine xa_iload_n (pc := 0) dJ9_abs_0f7a4_0 rfl ?_
  refine xa_if_ge (pc := 1) (tgt := 9) dJ9_abs_0f7a4_1 (by decide) ⟨by omega, by omega⟩ (fun c_1 => ?_) (fun c_1 => ?_)
  · skip
    refine xa_iload_n (pc := 9) dJ9_abs_0f7a4_9 rfl ?_
    refine xa_ireturn (pc := 10) dJ9_abs_0f7a4_10 rfl trivial ?_
    exact ⟨congrArg (fun z => some (xa_i z)) (show x = (x.natAbs : Int) by omega), rfl⟩
  · skip
    refine xa_iload_n (pc := 4) dJ9_abs_0f7a4_4 rfl ?_
    refine xa_ineg (pc := 5) dJ9_abs_0f7a4_5 ?_
    refine xa_goto (pc := 6) (tgt := 10) dJ9_abs_0f7a4_6 (by decide) ?_
    refine xa_ireturn (pc := 10) dJ9_abs_0f7a4_10 rfl trivial ?_
    exact ⟨congrArg (fun z => some (xa_i z)) (show -x = (x.natAbs : Int) by omega), rfl⟩
theorem c_max {G : xa_G} {h : xa_H} (x y : Int) (h1 : xa_ok x) (h2 : xa_ok y)  : xa_M G mJ9_max_7cf53 [xa_i x, xa_i y] h 0 0 (fun r h' => r = some (xa_i (max x y)) ∧ h' = h) := by
  refine xa_enter (by decide +kernel) (Nat.le_of_ble_eq_true rfl) ?_
  refine xa_locals (ls' := [some (xa_i x), some (xa_i y)]) rfl ?_
  refine xa_iload_n (pc := 0) dJ9_max_7cf53_0 rfl ?_
  refine xa_iload_n (pc := 1) dJ9_max_7cf53_1 rfl ?_
  refine xa_icmp_lt (pc := 2) (tgt := 9) dJ9_max_7cf53_2 (by decide) ⟨by omega, by omega⟩ ⟨by omega, by omega⟩ (fun c_2 => ?_) (fun c_2 => ?_)
  · skip
    refine xa_iload_n (pc := 9) dJ9_max_7cf53_9 rfl ?_
    refine xa_ireturn (pc := 10) dJ9_max_7cf53_10 rfl trivial ?_
    exact ⟨congrArg (fun z => some (xa_i z)) (show y = max x y by omega), rfl⟩
  · skip
    refine xa_iload_n (pc := 5) dJ9_max_7cf53_5 rfl ?_
    refine xa_goto (pc := 6) (tgt := 10) dJ9_max_7cf53_6 (by decide) ?_
    refine xa_ireturn (pc := 10) dJ9_max_7cf53_10 rfl trivial ?_
    exact ⟨congrArg (fun z => some (xa_i z)) (show x = max x y by omega), rfl⟩
theorem c_min {G : xa_G} {h : xa_H} (x y : Int) (h1 : xa_ok x) (h2 : xa_ok y)  : xa_M G mJ9_min_7cf53 [xa_i x, xa_i y] h 0 0 (fun r h' => r = some (xa_i (min x y)) ∧ h' = h) := by
  refine xa_enter (by decide +kernel) (Nat.le_of_ble_eq_true rfl) ?_
  refine xa_locals (ls' := [some (xa_i x), some (xa_i y)]) rfl ?_
  refine xa_iload_n (pc := 0) dJ9_min_7cf53_0 rfl ?_
  refine xa_iload_n (pc := 1) dJ9_min_7cf53_1 rfl ?_
  refine xa_icmp_gt (pc := 2) (tgt := 9) dJ9_min_7cf53_2 (by decide) ⟨by omega, by omega⟩ ⟨by omega, by omega⟩ (fun c_2 => ?_) (fun c_2 => ?_)
  · skip
    refine xa_iload_n (pc := 9) dJ9_min_7cf53_9 rfl ?_
    refine xa_ireturn (pc := 10) dJ9_min_7cf53_10 rfl trivial ?_
    exact ⟨congrArg (fun z => some (xa_i z)) (show y = min x y by omega), rfl⟩
  · skip
    refine xa_iload_n (pc := 5) dJ9_min_7cf53_5 rfl ?_
    refine xa_goto (pc := 6) (tgt := 10) dJ9_min_7cf53_6 (by decide) ?_
    refine xa_ireturn (pc := 10) dJ9_min_7cf53_10 rfl trivial ?_
    exact ⟨congrArg (fun z => some (xa_i z)) (show x = min x y by omega), rfl⟩
theorem c_off {G : xa_G} {h : xa_H} (t o : Int) (h1 : xa_ok (t - o))  : xa_M G mX9_off [xa_i t, xa_i o] h 0 0 (fun r h' => r = some (xa_i (sp_off t o)) ∧ h' = h) := by
  refine xa_enter (by decide +kernel) (Nat.le_of_ble_eq_true rfl) ?_
  refine xa_locals (ls' := [some (xa_i t), some (xa_i o), none]) rfl ?_
  refine xa_iload_n (pc := 0) dX9_off_0 rfl ?_
  refine xa_iload_n (pc := 1) dX9_off_1 rfl ?_
  refine xa_isub (pc := 2) dX9_off_2 ?_
  refine xa_sipush (pc := 3) dX9_off_3 rfl ?_
  refine xa_callS (pc := 6) (as := [xa_i (t - o), xa_i 360]) (rest := []) dX9_off_6 ⟨qJ9_floorMod_7cf53.1, qJ9_floorMod_7cf53.2.1, qJ9_floorMod_7cf53.2.2, by decide, by decide⟩ lkRX9_180 smJ9_floorMod_7cf53 rfl rfl (by decide) (Nat.zero_le _) (Nat.zero_le _) (c_floorMod _ _ ⟨by omega, by omega⟩ (by decide) (by omega)) (fun r h' hq => ?_)
  obtain ⟨rfl, rfl⟩ := hq
  refine xa_istoren (pc := 9) [some (xa_i t), some (xa_i o), some (xa_i ((t - o) % 360))] dX9_off_9 (by decide) (by simp) rfl rfl ?_
  refine xa_iload_n (pc := 10) dX9_off_10 rfl ?_
  refine xa_sipush (pc := 11) dX9_off_11 rfl ?_
  refine xa_iload_n (pc := 14) dX9_off_14 rfl ?_
  refine xa_isub (pc := 15) dX9_off_15 ?_
  refine xa_callS (pc := 16) (as := [xa_i ((t - o) % 360), xa_i (360 - ((t - o) % 360))]) (rest := []) dX9_off_16 ⟨qJ9_min_7cf53.1, qJ9_min_7cf53.2.1, qJ9_min_7cf53.2.2, by decide, by decide⟩ lkRX9_244 smJ9_min_7cf53 rfl rfl (by decide) (Nat.zero_le _) (Nat.zero_le _) (c_min _ _ ⟨by omega, by omega⟩ ⟨by omega, by omega⟩) (fun r h' hq => ?_)
  obtain ⟨rfl, rfl⟩ := hq
  refine xa_ireturn (pc := 19) dX9_off_19 rfl trivial ?_
  exact ⟨congrArg (fun z => some (xa_i z)) (show min ((t - o) % 360) (360 - ((t - o) % 360)) = sp_off t o by rfl), rfl⟩
theorem c_isWay {G : xa_G} {h : xa_H} (n : Int) (h1 : xa_ok n)  : xa_M G mX9_isWay [xa_i n] h 0 0 (fun r h' => r = some (xa_i (xa_b (0 ≤ n ∧ n ≤ 3))) ∧ h' = h) := by
  refine xa_enter (by decide +kernel) (Nat.le_of_ble_eq_true rfl) ?_
  refine xa_locals (ls' := [some (xa_i n)]) rfl ?_
  refine xa_iload_n (pc := 0) dX9_isWay_0 rfl ?_
  refine xa_iconst (pc := 1) dX9_isWay_1 ?_
  refine xa_iconst (pc := 2) dX9_isWay_2 ?_
  refine xa_callS (pc := 3) (as := [xa_i n, xa_i 0, xa_i 3]) (rest := []) dX9_isWay_3 ⟨qX9_isWithin.1, qX9_isWithin.2.1, qX9_isWithin.2.2, by decide, by decide⟩ lkRX9_89 smX9_isWithin rfl rfl (by decide) (Nat.zero_le _) (Nat.zero_le _) (c_isWithin _ _ _ ⟨by omega, by omega⟩ (by decide) (by decide)) (fun r h' hq => ?_)
  obtain ⟨rfl, rfl⟩ := hq
  refine xa_ireturn (pc := 6) dX9_isWay_6 rfl xa_bq ?_
  exact ⟨congrArg (fun z => some (xa_i z)) (xa_bc (show (0 ≤ n ∧ n ≤ 3) ↔ (0 ≤ n ∧ n ≤ 3) by omega)), rfl⟩
theorem c_isTurn {G : xa_G} {h : xa_H} (n : Int) (h1 : xa_ok n)  : xa_M G mX9_isTurn [xa_i n] h 0 0 (fun r h' => r = some (xa_i (xa_b (0 ≤ n ∧ n ≤ 359))) ∧ h' = h) := by
  refine xa_enter (by decide +kernel) (Nat.le_of_ble_eq_true rfl) ?_
  refine xa_locals (ls' := [some (xa_i n)]) rfl ?_
  refine xa_iload_n (pc := 0) dX9_isTurn_0 rfl ?_
  refine xa_iconst (pc := 1) dX9_isTurn_1 ?_
  refine xa_sipush (pc := 2) dX9_isTurn_2 rfl ?_
  refine xa_callS (pc := 5) (as := [xa_i n, xa_i 0, xa_i 359]) (rest := []) dX9_isTurn_5 ⟨qX9_isWithin.1, qX9_isWithin.2.1, qX9_isWithin.2.2, by decide, by decide⟩ lkRX9_89 smX9_isWithin rfl rfl (by decide) (Nat.zero_le _) (Nat.zero_le _) (c_isWithin _ _ _ ⟨by omega, by omega⟩ (by decide) (by decide)) (fun r h' hq => ?_)
  obtain ⟨rfl, rfl⟩ := hq
  refine xa_ireturn (pc := 8) dX9_isTurn_8 rfl xa_bq ?_
  exact ⟨congrArg (fun z => some (xa_i z)) (xa_bc (show (0 ≤ n ∧ n ≤ 359) ↔ (0 ≤ n ∧ n ≤ 359) by omega)), rfl⟩
theorem c_fill_loop {G : xa_G} {h0 : xa_H} {k n : Nat} {f : Nat → Int} {v : Int} (hk : 2 ≤ k) (hk2 : k < h0.2) (hn31 : n < 2 ^ 31) : ∀ (d m : Nat) (h : xa_H), n - m = d → m ≤ n → h.2 = h0.2 → h.1 k = xa_a n (xa_fl f m v) → (∀ i, i ≠ k → h.1 i = h0.1 i) →
    xa_W G mJ7_fill_53178 (xa_Z G (fun r h' => r = none ∧ h'.2 = h0.2 ∧ h'.1 k = xa_a n (xa_fl f n v) ∧ ∀ i, i ≠ k → h'.1 i = h0.1 i)) 5 [some (xa_r k), some (xa_i v), some (xa_i ((m : Nat) : Int)), some (xa_i ((n : Nat) : Int))] [] h 0 0 := by
  intro d
  induction d with
  | zero =>
    intro m h hd hm hn hA fr
    have hmn : m = n := by omega
    subst hmn
    refine xa_iload_n (pc := 5) dJ7_fill_53178_5 rfl ?_
    refine xa_iload_n (pc := 6) dJ7_fill_53178_6 rfl ?_
    refine xa_icmp_ge (pc := 7) (tgt := 20) dJ7_fill_53178_7 (by decide) ⟨by omega, by omega⟩ ⟨by omega, by omega⟩ (fun c_7 => ?_) (fun c_7 => ?_)
    · skip
      refine xa_return (pc := 20) dJ7_fill_53178_20 rfl ?_
      exact ⟨rfl, hn, hA, fr⟩
    · skip
      exfalso; omega
  | succ d ih =>
    intro m h hd hm hn hA fr
    refine xa_iload_n (pc := 5) dJ7_fill_53178_5 rfl ?_
    refine xa_iload_n (pc := 6) dJ7_fill_53178_6 rfl ?_
    refine xa_icmp_ge (pc := 7) (tgt := 20) dJ7_fill_53178_7 (by decide) ⟨by omega, by omega⟩ ⟨by omega, by omega⟩ (fun c_7 => ?_) (fun c_7 => ?_)
    · skip
      exfalso; omega
    · skip
      refine xa_aload_n (pc := 10) dJ7_fill_53178_10 rfl ?_
      refine xa_iload_n (pc := 11) dJ7_fill_53178_11 rfl ?_
      refine xa_iload_n (pc := 12) dJ7_fill_53178_12 rfl ?_
      refine xa_iastw (pc := 13) m dJ7_fill_53178_13 (by omega) (by omega) hA (by omega) (by omega) (by omega) (fun h1 nh1 ch1 oh1 => ?_)
      have hA : h1.1 k = xa_a n (xa_upf (xa_fl f m v) m v) := ch1
      refine xa_iincw (pc := 14) (y := ((m + 1 : Nat) : Int)) [some (xa_r k), some (xa_i v), some (xa_i ((m + 1 : Nat) : Int)), some (xa_i ((n : Nat) : Int))] dJ7_fill_53178_14 (by decide) rfl rfl (by omega) rfl ?_
      refine xa_goto (pc := 17) (tgt := 5) dJ7_fill_53178_17 (by decide) ?_
      exact ih (m + 1) _ (by omega) (by omega) (nh1.trans hn) (by rw [ch1, xa_fl_s]) (fun i hi => (oh1 i hi).trans (fr i hi))
theorem c_fill {G : xa_G} {h : xa_H} (k n : Nat) (f : Nat → Int) (v : Int) (hk : 2 ≤ k) (hk2 : k < h.2) (hn31 : n < 2 ^ 31) (hA : h.1 k = xa_a n f) : xa_M G mJ7_fill_53178 [xa_r k, xa_i v] h 0 0 (fun r h' => r = none ∧ h'.2 = h.2 ∧ h'.1 k = xa_a n (xa_fl f n v) ∧ ∀ i, i ≠ k → h'.1 i = h.1 i) := by
  refine xa_enter (by decide +kernel) (Nat.le_of_ble_eq_true rfl) ?_
  refine xa_locals (ls' := [some (xa_r k), some (xa_i v), none, none]) rfl ?_
  refine xa_iconst (pc := 0) dJ7_fill_53178_0 ?_
  refine xa_istoren (pc := 1) [some (xa_r k), some (xa_i v), some (xa_i 0), none] dJ7_fill_53178_1 (by decide) (by simp) rfl rfl ?_
  refine xa_aload_n (pc := 2) dJ7_fill_53178_2 rfl ?_
  refine xa_alen (pc := 3) dJ7_fill_53178_3 (by omega) hA ?_
  refine xa_istoren (pc := 4) [some (xa_r k), some (xa_i v), some (xa_i 0), some (xa_i ((n : Nat) : Int))] dJ7_fill_53178_4 (by decide) (by simp) rfl rfl ?_
  exact c_fill_loop hk hk2 hn31 n 0 h rfl (Nat.zero_le _) rfl (by rw [xa_fl_0]; exact hA) (fun _ _ => rfl)
