/-! Loops.common, ticksOfFall, fallOf -/
theorem sp_gcd_half {x y j : Nat} (h : y ≤ x) (hj : x * y < 2 ^ (j + 1)) : y * (x % y) < 2 ^ j := by
  rcases Nat.eq_zero_or_pos y with h0 | h0
  · subst h0; simp [Nat.two_pow_pos]
  · have a := Nat.mod_lt x h0
    have b : 1 ≤ x / y := Nat.div_pos h h0
    have c := Nat.div_add_mod x y
    have d : y * 1 ≤ y * (x / y) := Nat.mul_le_mul_left y b
    have e : 2 * (x % y) ≤ x := by omega
    have f : y * (2 * (x % y)) ≤ y * x := Nat.mul_le_mul_left y e
    have g : y * (2 * (x % y)) = 2 * (y * (x % y)) := by rw [Nat.mul_left_comm]
    rw [Nat.mul_comm y x] at f
    rw [Nat.pow_succ] at hj
    omega
theorem sp_gcd_j {x y j : Nat} (h0 : y ≠ 0) (h : y ≤ x) (hj : x * y < 2 ^ j) : ∃ i, j = i + 1 := by
  cases j with
  | zero =>
    have : 0 < x * y := Nat.mul_pos (by omega) (by omega)
    simp at hj
    omega
  | succ i => exact ⟨i, rfl⟩
theorem sp_gcd_s (x y : Nat) : Nat.gcd y (x % y) = Nat.gcd x y := by
  rw [Nat.gcd_comm x y, Nat.gcd_rec y x, Nat.gcd_comm]

theorem c_common_loop {G : xa_G} {h : xa_H} {a b : Int} {ga gb : Nat} : ∀ (d : Nat) (j i x y : Nat) (g5 : Option xa_V), j < d → (y ≤ x) → (x * y < 2 ^ j) → (i + j ≤ 358) → (x ≤ 100000) → (y ≤ 100000) → (Nat.gcd x y = Nat.gcd ga gb) → xa_W G mX1_common (xa_Z G (fun r h' => r = some (xa_i ((Nat.gcd ga gb : Nat) : Int)) ∧ h' = h)) 13 [some (xa_i a), some (xa_i b), some (xa_i ((x : Nat) : Int)), some (xa_i ((y : Nat) : Int)), some (xa_i ((i : Nat) : Int)), g5] [] h 0 0 := by
  intro d
  induction d with
  | zero => intros; exfalso; omega
  | succ d ih =>
    intro j i x y g5 hd hyx hj hi hx9 hy9 hg
    refine xa_iload (pc := 13) dX1_common_13 rfl ?_
    refine xa_sipush (pc := 15) dX1_common_15 rfl ?_
    refine xa_icmp_ge (pc := 18) (tgt := 41) dX1_common_18 (by decide) ⟨by omega, by omega⟩ (by decide) (fun c_18 => ?_) (fun c_18 => ?_)
    · skip
      refine xa_iload_n (pc := 41) dX1_common_41 rfl ?_
      refine xa_ireturn (pc := 42) dX1_common_42 rfl trivial ?_
      have hy : y = 0 := by omega
      subst hy
      rw [Nat.gcd_zero_right] at hg
      exact ⟨congrArg (fun z => some (xa_i z)) (congrArg (fun z : Nat => (z : Int)) hg), rfl⟩
    · skip
      refine xa_iload_n (pc := 21) dX1_common_21 rfl ?_
      refine xa_if_eq (pc := 22) (tgt := 41) dX1_common_22 (by decide) ⟨by omega, by omega⟩ (fun c_22 => ?_) (fun c_22 => ?_)
      · skip
        refine xa_iload_n (pc := 41) dX1_common_41 rfl ?_
        refine xa_ireturn (pc := 42) dX1_common_42 rfl trivial ?_
        have hy : y = 0 := by omega
        subst hy
        rw [Nat.gcd_zero_right] at hg
        exact ⟨congrArg (fun z => some (xa_i z)) (congrArg (fun z : Nat => (z : Int)) hg), rfl⟩
      · skip
        refine xa_iload_n (pc := 25) dX1_common_25 rfl ?_
        refine xa_iload_n (pc := 26) dX1_common_26 rfl ?_
        refine xa_iremn (pc := 27) dX1_common_27 ⟨by omega, by omega⟩ ⟨by omega, by omega⟩ (by omega) (by omega) ?_
        refine xa_top (y := ((x % y : Nat) : Int)) (Int.natCast_emod x y).symm ?_
        refine xa_istorew (pc := 28) [some (xa_i a), some (xa_i b), some (xa_i ((x : Nat) : Int)), some (xa_i ((y : Nat) : Int)), some (xa_i ((i : Nat) : Int)), some (xa_i ((x % y : Nat) : Int))] dX1_common_28 (by decide) (Nat.le_of_ble_eq_true rfl) rfl rfl ?_
        refine xa_iload_n (pc := 30) dX1_common_30 rfl ?_
        refine xa_istoren (pc := 31) [some (xa_i a), some (xa_i b), some (xa_i ((y : Nat) : Int)), some (xa_i ((y : Nat) : Int)), some (xa_i ((i : Nat) : Int)), some (xa_i ((x % y : Nat) : Int))] dX1_common_31 (by decide) (Nat.le_of_ble_eq_true rfl) rfl rfl ?_
        refine xa_iload (pc := 32) dX1_common_32 rfl ?_
        refine xa_istoren (pc := 34) [some (xa_i a), some (xa_i b), some (xa_i ((y : Nat) : Int)), some (xa_i ((x % y : Nat) : Int)), some (xa_i ((i : Nat) : Int)), some (xa_i ((x % y : Nat) : Int))] dX1_common_34 (by decide) (Nat.le_of_ble_eq_true rfl) rfl rfl ?_
        refine xa_iincw (pc := 35) (y := ((i + 1 : Nat) : Int)) [some (xa_i a), some (xa_i b), some (xa_i ((y : Nat) : Int)), some (xa_i ((x % y : Nat) : Int)), some (xa_i ((i + 1 : Nat) : Int)), some (xa_i ((x % y : Nat) : Int))] dX1_common_35 (by decide) rfl rfl (by omega) rfl ?_
        refine xa_goto (pc := 38) (tgt := 13) dX1_common_38 (by decide) ?_
        obtain ⟨j1, rfl⟩ := sp_gcd_j (j := j) (x := x) (y := y) (by omega) hyx hj
        exact ih j1 (i + 1) y (x % y) _ (by omega) (Nat.le_of_lt (Nat.mod_lt x (by omega))) (sp_gcd_half hyx hj) (by omega) (by omega) (by have := Nat.mod_lt x (show 0 < y by omega); omega) (by rw [sp_gcd_s]; exact hg)
theorem c_common0 {G : xa_G} {h : xa_H} {a b : Int} {ga gb : Nat} (x y : Nat) (hx9 : x ≤ 100000) (hy9 : y ≤ 100000) (hxy : y ≠ 0 → y * (x % y) < 2 ^ 300) (hg : Nat.gcd x y = Nat.gcd ga gb) : xa_W G mX1_common (xa_Z G (fun r h' => r = some (xa_i ((Nat.gcd ga gb : Nat) : Int)) ∧ h' = h)) 13 [some (xa_i a), some (xa_i b), some (xa_i ((x : Nat) : Int)), some (xa_i ((y : Nat) : Int)), some (xa_i ((0 : Nat) : Int)), none] [] h 0 0 := by
  refine xa_iload (pc := 13) dX1_common_13 rfl ?_
  refine xa_sipush (pc := 15) dX1_common_15 rfl ?_
  refine xa_icmp_ge (pc := 18) (tgt := 41) dX1_common_18 (by decide) ⟨by omega, by omega⟩ (by decide) (fun c_18 => ?_) (fun c_18 => ?_)
  · skip
    refine xa_iload_n (pc := 41) dX1_common_41 rfl ?_
    refine xa_ireturn (pc := 42) dX1_common_42 rfl trivial ?_
    have hy : y = 0 := by omega
    subst hy
    rw [Nat.gcd_zero_right] at hg
    exact ⟨congrArg (fun z => some (xa_i z)) (congrArg (fun z : Nat => (z : Int)) hg), rfl⟩
  · skip
    refine xa_iload_n (pc := 21) dX1_common_21 rfl ?_
    refine xa_if_eq (pc := 22) (tgt := 41) dX1_common_22 (by decide) ⟨by omega, by omega⟩ (fun c_22 => ?_) (fun c_22 => ?_)
    · skip
      refine xa_iload_n (pc := 41) dX1_common_41 rfl ?_
      refine xa_ireturn (pc := 42) dX1_common_42 rfl trivial ?_
      have hy : y = 0 := by omega
      subst hy
      rw [Nat.gcd_zero_right] at hg
      exact ⟨congrArg (fun z => some (xa_i z)) (congrArg (fun z : Nat => (z : Int)) hg), rfl⟩
    · skip
      refine xa_iload_n (pc := 25) dX1_common_25 rfl ?_
      refine xa_iload_n (pc := 26) dX1_common_26 rfl ?_
      refine xa_iremn (pc := 27) dX1_common_27 ⟨by omega, by omega⟩ ⟨by omega, by omega⟩ (by omega) (by omega) ?_
      refine xa_top (y := ((x % y : Nat) : Int)) (Int.natCast_emod x y).symm ?_
      refine xa_istorew (pc := 28) [some (xa_i a), some (xa_i b), some (xa_i ((x : Nat) : Int)), some (xa_i ((y : Nat) : Int)), some (xa_i ((0 : Nat) : Int)), some (xa_i ((x % y : Nat) : Int))] dX1_common_28 (by decide) (Nat.le_of_ble_eq_true rfl) rfl rfl ?_
      refine xa_iload_n (pc := 30) dX1_common_30 rfl ?_
      refine xa_istoren (pc := 31) [some (xa_i a), some (xa_i b), some (xa_i ((y : Nat) : Int)), some (xa_i ((y : Nat) : Int)), some (xa_i ((0 : Nat) : Int)), some (xa_i ((x % y : Nat) : Int))] dX1_common_31 (by decide) (Nat.le_of_ble_eq_true rfl) rfl rfl ?_
      refine xa_iload (pc := 32) dX1_common_32 rfl ?_
      refine xa_istoren (pc := 34) [some (xa_i a), some (xa_i b), some (xa_i ((y : Nat) : Int)), some (xa_i ((x % y : Nat) : Int)), some (xa_i ((0 : Nat) : Int)), some (xa_i ((x % y : Nat) : Int))] dX1_common_34 (by decide) (Nat.le_of_ble_eq_true rfl) rfl rfl ?_
      refine xa_iincw (pc := 35) (y := ((0 + 1 : Nat) : Int)) [some (xa_i a), some (xa_i b), some (xa_i ((y : Nat) : Int)), some (xa_i ((x % y : Nat) : Int)), some (xa_i ((0 + 1 : Nat) : Int)), some (xa_i ((x % y : Nat) : Int))] dX1_common_35 (by decide) rfl rfl (by omega) rfl ?_
      refine xa_goto (pc := 38) (tgt := 13) dX1_common_38 (by decide) ?_
      exact c_common_loop 301 300 (0 + 1) y (x % y) _ (by omega) (Nat.le_of_lt (Nat.mod_lt x (by omega))) (hxy (by omega)) (by omega) (by omega) (by have := Nat.mod_lt x (show 0 < y by omega); omega) (by rw [sp_gcd_s]; exact hg)
theorem c_common {G : xa_G} {h : xa_H} (a b : Int) (ha : -100000 ≤ a ∧ a ≤ 100000) (hb : -100000 ≤ b ∧ b ≤ 100000)  : xa_M G mX1_common [xa_i a, xa_i b] h 0 0 (fun r h' => r = some (xa_i ((Nat.gcd a.natAbs b.natAbs : Nat) : Int)) ∧ h' = h) := by
  refine xa_enter (by decide +kernel) (Nat.le_of_ble_eq_true rfl) ?_
  refine xa_locals (ls' := [some (xa_i a), some (xa_i b), none, none, none, none]) rfl ?_
  refine xa_iload_n (pc := 0) dX1_common_0 rfl ?_
  refine xa_callS (pc := 1) (as := [xa_i a]) (rest := []) dX1_common_1 ⟨qJ9_abs_0f7a4.1, qJ9_abs_0f7a4.2.1, qJ9_abs_0f7a4.2.2, by decide, by decide⟩ lkRX1_62 smJ9_abs_0f7a4 rfl rfl (Nat.le_of_ble_eq_true rfl) (Nat.zero_le _) (Nat.zero_le _) (c_abs _ ⟨by omega, by omega⟩) (fun r h' hq => ?_)
  obtain ⟨rfl, hq⟩ := hq
  have hq := hq.symm
  subst hq
  refine xa_istoren (pc := 4) [some (xa_i a), some (xa_i b), some (xa_i ((a.natAbs : Nat) : Int)), none, none, none] dX1_common_4 (by decide) (Nat.le_of_ble_eq_true rfl) rfl rfl ?_
  refine xa_iload_n (pc := 5) dX1_common_5 rfl ?_
  refine xa_callS (pc := 6) (as := [xa_i b]) (rest := []) dX1_common_6 ⟨qJ9_abs_0f7a4.1, qJ9_abs_0f7a4.2.1, qJ9_abs_0f7a4.2.2, by decide, by decide⟩ lkRX1_62 smJ9_abs_0f7a4 rfl rfl (Nat.le_of_ble_eq_true rfl) (Nat.zero_le _) (Nat.zero_le _) (c_abs _ ⟨by omega, by omega⟩) (fun r h' hq => ?_)
  obtain ⟨rfl, hq⟩ := hq
  have hq := hq.symm
  subst hq
  refine xa_istoren (pc := 9) [some (xa_i a), some (xa_i b), some (xa_i ((a.natAbs : Nat) : Int)), some (xa_i ((b.natAbs : Nat) : Int)), none, none] dX1_common_9 (by decide) (Nat.le_of_ble_eq_true rfl) rfl rfl ?_
  refine xa_iconst (pc := 10) dX1_common_10 ?_
  refine xa_istorew (pc := 11) [some (xa_i a), some (xa_i b), some (xa_i ((a.natAbs : Nat) : Int)), some (xa_i ((b.natAbs : Nat) : Int)), some (xa_i 0), none] dX1_common_11 (by decide) (Nat.le_of_ble_eq_true rfl) rfl rfl ?_
  exact c_common0 a.natAbs b.natAbs (by omega) (by omega) (fun hy => by have m1 := Nat.mod_lt a.natAbs (show 0 < b.natAbs by omega); have m2 : b.natAbs * (a.natAbs % b.natAbs) ≤ 100000 * 100000 := Nat.mul_le_mul (by omega) (by omega); exact Nat.lt_of_le_of_lt m2 (by decide)) rfl
theorem c_ticksOfFall_loop {G : xa_G} {h : xa_H} {H : Int} (hH : 0 ≤ H ∧ H ≤ 100000) : ∀ (d : Nat) (t : Nat), 100001 - t < d → (t : Int) * t ≤ H → xa_W G mX9_ticksOfFall (xa_Z G (fun r h' => (∃ t : Nat, r = some (xa_i ((t : Nat) : Int)) ∧ (t : Int) * t ≤ H ∧ H < ((t : Int) + 1) * ((t : Int) + 1)) ∧ h' = h)) 2 [some (xa_i H), some (xa_i ((t : Nat) : Int))] [] h 0 0 := by
  intro d
  induction d with
  | zero => intros; exfalso; omega
  | succ d ih =>
    intro t hd ht
    have ht2 : t ≤ 100000 := by
      rcases Nat.lt_or_ge 100000 t with q | q
      · exfalso
        have : (100001 : Int) * 100001 ≤ (t : Int) * t := Int.mul_le_mul (by omega) (by omega) (by decide) (by omega)
        omega
      · exact q
    have z1 : (((t : Nat) : Int) + 1) * (((t : Nat) : Int) + 1) ≤ 100001 * 100001 := Int.mul_le_mul (by omega) (by omega) (by omega) (by decide)
    have z0 : 0 ≤ (((t : Nat) : Int) + 1) * (((t : Nat) : Int) + 1) := Int.mul_nonneg (by omega) (by omega)
    refine xa_iload_n (pc := 2) dX9_ticksOfFall_2 rfl ?_
    refine xa_ldc (pc := 3) (n := 100000) dX9_ticksOfFall_3 ctRX9_207 rfl ?_
    refine xa_icmp_ge (pc := 5) (tgt := 29) dX9_ticksOfFall_5 (by decide) ⟨by omega, by omega⟩ (by decide) (fun c_5 => ?_) (fun c_5 => ?_)
    · skip
      refine xa_iload_n (pc := 29) dX9_ticksOfFall_29 rfl ?_
      refine xa_ireturn (pc := 30) dX9_ticksOfFall_30 rfl trivial ?_
      exact ⟨⟨t, rfl, ht, by first | exact c_20 | (obtain rfl : t = 100000 := (by omega); omega)⟩, rfl⟩
    · skip
      refine xa_iload_n (pc := 8) dX9_ticksOfFall_8 rfl ?_
      refine xa_iconst (pc := 9) dX9_ticksOfFall_9 ?_
      refine xa_iadd (pc := 10) dX9_ticksOfFall_10 ?_
      refine xa_i2l (pc := 11) dX9_ticksOfFall_11 ⟨by omega, by omega⟩ ?_
      refine xa_iload_n (pc := 12) dX9_ticksOfFall_12 rfl ?_
      refine xa_iconst (pc := 13) dX9_ticksOfFall_13 ?_
      refine xa_iadd (pc := 14) dX9_ticksOfFall_14 ?_
      refine xa_i2l (pc := 15) dX9_ticksOfFall_15 ⟨by omega, by omega⟩ ?_
      refine xa_lmul (pc := 16) dX9_ticksOfFall_16 ?_
      refine xa_iload_n (pc := 17) dX9_ticksOfFall_17 rfl ?_
      refine xa_i2l (pc := 18) dX9_ticksOfFall_18 ⟨by omega, by omega⟩ ?_
      refine xa_lcmp (pc := 19) dX9_ticksOfFall_19 ⟨by omega, by omega⟩ ⟨by omega, by omega⟩ ?_
      refine xa_if_gt (pc := 20) (tgt := 29) dX9_ticksOfFall_20 (by decide) (by split <;> first | decide | (split <;> decide)) (fun c_20 => ?_) (fun c_20 => ?_)
      · have c_20 : ((((t : Nat) : Int) + 1) * (((t : Nat) : Int) + 1)) > H := by revert c_20; split <;> first | omega | (split <;> omega)
        refine xa_iload_n (pc := 29) dX9_ticksOfFall_29 rfl ?_
        refine xa_ireturn (pc := 30) dX9_ticksOfFall_30 rfl trivial ?_
        exact ⟨⟨t, rfl, ht, by first | exact c_20 | (obtain rfl : t = 100000 := (by omega); omega)⟩, rfl⟩
      · have c_20 : ((((t : Nat) : Int) + 1) * (((t : Nat) : Int) + 1)) ≤ H := by revert c_20; split <;> first | omega | (split <;> omega)
        refine xa_iincw (pc := 23) (y := ((t + 1 : Nat) : Int)) [some (xa_i H), some (xa_i ((t + 1 : Nat) : Int))] dX9_ticksOfFall_23 (by decide) rfl rfl (by omega) rfl ?_
        refine xa_goto (pc := 26) (tgt := 2) dX9_ticksOfFall_26 (by decide) ?_
        exact ih (t + 1) (by omega) (by rw [Int.natCast_add]; exact c_20)
theorem c_ticksOfFall {G : xa_G} {h : xa_H} (H : Int) (hH : 0 ≤ H ∧ H ≤ 100000)  : xa_M G mX9_ticksOfFall [xa_i H] h 0 0 (fun r h' => (∃ t : Nat, r = some (xa_i ((t : Nat) : Int)) ∧ (t : Int) * t ≤ H ∧ H < ((t : Int) + 1) * ((t : Int) + 1)) ∧ h' = h) := by
  refine xa_enter (by decide +kernel) (Nat.le_of_ble_eq_true rfl) ?_
  refine xa_locals (ls' := [some (xa_i H), none]) rfl ?_
  refine xa_iconst (pc := 0) dX9_ticksOfFall_0 ?_
  refine xa_istoren (pc := 1) [some (xa_i H), some (xa_i 0)] dX9_ticksOfFall_1 (by decide) (Nat.le_of_ble_eq_true rfl) rfl rfl ?_
  exact c_ticksOfFall_loop hH 100002 0 (by omega) (by simpa using hH.1)
theorem c_fallOf_loop {G : xa_G} {h : xa_H} {H : Int} (hH : 0 ≤ H ∧ H ≤ 100000) : ∀ (d : Nat) (t : Nat), 100001 - t < d → (t : Int) * t ≤ H → xa_W G mX10_fallOf (xa_Z G (fun r h' => (∃ t : Nat, r = some (xa_i ((t : Nat) : Int)) ∧ (t : Int) * t ≤ H ∧ H < ((t : Int) + 1) * ((t : Int) + 1)) ∧ h' = h)) 2 [some (xa_i H), some (xa_i ((t : Nat) : Int))] [] h 0 0 := by
  intro d
  induction d with
  | zero => intros; exfalso; omega
  | succ d ih =>
    intro t hd ht
    have ht2 : t ≤ 317 := by
      rcases Nat.lt_or_ge 317 t with q | q
      · exfalso
        have : (318 : Int) * 318 ≤ (t : Int) * t := Int.mul_le_mul (by omega) (by omega) (by decide) (by omega)
        omega
      · exact q
    have z1 : (((t : Nat) : Int) + 1) * (((t : Nat) : Int) + 1) ≤ 318 * 318 := Int.mul_le_mul (by omega) (by omega) (by omega) (by decide)
    have z0 : 0 ≤ (((t : Nat) : Int) + 1) * (((t : Nat) : Int) + 1) := Int.mul_nonneg (by omega) (by omega)
    refine xa_iload_n (pc := 2) dX10_fallOf_2 rfl ?_
    refine xa_iconst (pc := 3) dX10_fallOf_3 ?_
    refine xa_iadd (pc := 4) dX10_fallOf_4 ?_
    refine xa_iload_n (pc := 5) dX10_fallOf_5 rfl ?_
    refine xa_iconst (pc := 6) dX10_fallOf_6 ?_
    refine xa_iadd (pc := 7) dX10_fallOf_7 ?_
    refine xa_imul (pc := 8) dX10_fallOf_8 ?_
    refine xa_iload_n (pc := 9) dX10_fallOf_9 rfl ?_
    refine xa_icmp_gt (pc := 10) (tgt := 19) dX10_fallOf_10 (by decide) ⟨by omega, by omega⟩ ⟨by omega, by omega⟩ (fun c_10 => ?_) (fun c_10 => ?_)
    · skip
      refine xa_iload_n (pc := 19) dX10_fallOf_19 rfl ?_
      refine xa_ireturn (pc := 20) dX10_fallOf_20 rfl trivial ?_
      exact ⟨⟨t, rfl, ht, c_10⟩, rfl⟩
    · skip
      refine xa_iincw (pc := 13) (y := ((t + 1 : Nat) : Int)) [some (xa_i H), some (xa_i ((t + 1 : Nat) : Int))] dX10_fallOf_13 (by decide) rfl rfl (by omega) rfl ?_
      refine xa_goto (pc := 16) (tgt := 2) dX10_fallOf_16 (by decide) ?_
      exact ih (t + 1) (by omega) (by rw [Int.natCast_add]; exact c_10)
theorem c_fallOf {G : xa_G} {h : xa_H} (H : Int) (hH : 0 ≤ H ∧ H ≤ 100000)  : xa_M G mX10_fallOf [xa_i H] h 0 0 (fun r h' => (∃ t : Nat, r = some (xa_i ((t : Nat) : Int)) ∧ (t : Int) * t ≤ H ∧ H < ((t : Int) + 1) * ((t : Int) + 1)) ∧ h' = h) := by
  refine xa_enter (by decide +kernel) (Nat.le_of_ble_eq_true rfl) ?_
  refine xa_locals (ls' := [some (xa_i H), none]) rfl ?_
  refine xa_iconst (pc := 0) dX10_fallOf_0 ?_
  refine xa_istoren (pc := 1) [some (xa_i H), some (xa_i 0)] dX10_fallOf_1 (by decide) (Nat.le_of_ble_eq_true rfl) rfl rfl ?_
  exact c_fallOf_loop hH 100002 0 (by omega) (by simpa using hH.1)
theorem sp_fall_1 {s t : Nat} {H : Int} (h1 : (s : Int) * s ≤ H) (h2 : H < ((s : Int) + 1) * ((s : Int) + 1)) (h3 : (t : Int) * t ≤ H) (h4 : H < ((t : Int) + 1) * ((t : Int) + 1)) : s = t := by
  rcases Nat.lt_trichotomy s t with h | h | h
  · exfalso
    have : ((s : Int) + 1) * ((s : Int) + 1) ≤ (t : Int) * t := Int.mul_le_mul (by omega) (by omega) (by omega) (by omega)
    omega
  · exact h
  · exfalso
    have : ((t : Int) + 1) * ((t : Int) + 1) ≤ (s : Int) * s := Int.mul_le_mul (by omega) (by omega) (by omega) (by omega)
    omega
