/-! the model's numbers of shapes, and configurations -/
def mR (F : Nat → Nat → Int) (ld dg : Nat → Int) (pa jo : Nat) (wa : Int) : Prop := F 2 0 = (pa : Int) ∧ F 4 0 = (jo : Int) ∧ (∀ i, i < 3 * pa → F 3 i = ld i) ∧ (∀ j, j < jo → F 5 j = dg j) ∧ (∀ j : Nat, j < jo → F 6 j = if (j : Int) = wa then 1 else 0)
def mE (jo : Nat) (wa sr : Int) (c : xCf) : Int := ((c.1 + 3 * c.2.1 + 9 * c.2.2.1) * cf_st jo wa sr 0 + (c.2.2.2.1 + cf_z jo wa 0)) * cf_st jo wa sr 1 + (c.2.2.2.2 + cf_z jo wa 1)
theorem en_1 {P A B a b : Int} (hb : 0 ≤ b ∧ b < B) : ((P * A + a) * B + b) % B = b ∧ ((P * A + a) * B + b) / B = P * A + a := by
  constructor
  · rw [Int.add_comm, Int.add_mul_emod_self_right, Int.emod_eq_of_lt hb.1 hb.2]
  · rw [Int.add_comm, Int.add_mul_ediv_right _ _ (by omega), Int.ediv_eq_zero_of_lt hb.1 hb.2, Int.zero_add]
theorem en_2 {P A a : Int} (ha : 0 ≤ a ∧ a < A) : (P * A + a) % A = a ∧ (P * A + a) / A = P := by
  constructor
  · rw [Int.add_comm, Int.add_mul_emod_self_right, Int.emod_eq_of_lt ha.1 ha.2]
  · rw [Int.add_comm, Int.add_mul_ediv_right _ _ (by omega), Int.ediv_eq_zero_of_lt ha.1 ha.2, Int.zero_add]
theorem en_3 {P A B a b : Int} (ha : 0 ≤ a ∧ a < A) (hb : 0 ≤ b ∧ b < B) : ((P * A + a) * B + b) / (A * B) = P := by
  rw [Int.mul_comm A B, ← Int.ediv_ediv_of_nonneg (by omega), (en_1 hb).2, (en_2 ha).2]
theorem en_4 {P A B a b K : Int} (hP : 0 ≤ P ∧ P < K) (ha : 0 ≤ a ∧ a < A) (hb : 0 ≤ b ∧ b < B) : 0 ≤ (P * A + a) * B + b ∧ (P * A + a) * B + b < K * A * B := by
  have h1 : 0 ≤ P * A := Int.mul_nonneg hP.1 (by omega)
  have h2 : P * A ≤ (K - 1) * A := Int.mul_le_mul_of_nonneg_right (by omega) (by omega)
  have h3 : (K - 1) * A = K * A - A := by rw [Int.sub_mul]; omega
  have h4 : 0 ≤ (P * A + a) * B := Int.mul_nonneg (by omega) (by omega)
  have h5 : (P * A + a) * B ≤ (K * A - 1) * B := Int.mul_le_mul_of_nonneg_right (by omega) (by omega)
  have h6 : (K * A - 1) * B = K * A * B - B := by rw [Int.sub_mul]; omega
  omega
section CM
variable {F : Nat → Nat → Int} {ld dg : Nat → Int} {pa jo : Nat} {wa sr pu ri : Int}
theorem mR_st (h : vB ld dg pa jo wa sr pu ri) (hR : mR F ld dg pa jo wa) (j : Nat) : sm_steps F (j : Int) = cf_st jo wa sr j := by
  have hw := h.wag
  obtain ⟨-, -, -, -, h5, h6, -⟩ := h
  obtain ⟨-, r2, -, r4, r5⟩ := hR
  unfold sm_steps cf_st
  rw [r2, Int.toNat_natCast]
  by_cases hj : j < jo
  · rw [if_pos hj, if_pos ⟨by omega, by omega⟩, r5 j hj, r4 j hj]
    by_cases e : (j : Int) = wa
    · rw [if_pos e, if_pos e, if_pos rfl]
      rcases h6 with h6 | ⟨w, w1, w2, w3, w4, w5⟩
      · omega
      · have : w = j := by omega
        subst this
        have := h5 w hj
        exact Int.ediv_eq_of_eq_mul_left (by omega) w5.symm
    · rw [if_neg e, if_neg e, if_neg (by decide)]
  · rw [if_neg hj, if_neg (fun q => hj (by omega))]
theorem mR_z (hR : mR F ld dg pa jo wa) (j : Nat) : sm_zero F (j : Int) = cf_z jo wa j := by
  obtain ⟨-, r2, -, r4, r5⟩ := hR
  unfold sm_zero cf_z
  rw [r2, Int.toNat_natCast]
  by_cases hj : j < jo
  · rw [r5 j hj]
    by_cases e : (j : Int) = wa
    · rw [if_pos e, if_neg (fun q => absurd q.2 (by decide)), if_neg (fun q => q.2 e)]
    · rw [if_neg e, if_pos ⟨⟨by omega, by omega⟩, rfl⟩, if_pos ⟨hj, e⟩]
  · rw [if_neg (fun q => hj (by omega)), if_neg (fun q => hj q.1)]
theorem mR_shapes (h : vB ld dg pa jo wa sr pu ri) (hR : mR F ld dg pa jo wa) : sm_shapes F = (if 2 < pa then 27 else 9) * cf_st jo wa sr 0 * cf_st jo wa sr 1 := by
  have h0 := h.1
  have e0 := mR_st h hR 0
  have e1 := mR_st h hR 1
  unfold sm_shapes
  rw [show sm_steps F 0 = _ from e0, show sm_steps F 1 = _ from e1, hR.1]
  by_cases h2 : 2 < pa
  · rw [if_neg (by omega), if_pos h2]
  · rw [if_pos (by omega), if_neg h2]
theorem cf_P {c : xCf} (h : vB ld dg pa jo wa sr pu ri) (hc : cf_ok pa jo wa sr c) : 0 ≤ c.1 + 3 * c.2.1 + 9 * c.2.2.1 ∧ c.1 + 3 * c.2.1 + 9 * c.2.2.1 < (if 2 < pa then 27 else 9) := by
  have h0 := h.1
  obtain ⟨c1, c2, c3, -⟩ := hc
  split <;> omega
theorem mE_b {c : xCf} (h : vB ld dg pa jo wa sr pu ri) (hR : mR F ld dg pa jo wa) (hc : cf_ok pa jo wa sr c) : 0 ≤ mE jo wa sr c ∧ mE jo wa sr c < sm_shapes F := by
  rw [mR_shapes h hR]
  exact en_4 (cf_P h hc) hc.2.2.2.1 hc.2.2.2.2
theorem sm_shapes_b (h : vB ld dg pa jo wa sr pu ri) (hR : mR F ld dg pa jo wa) : 9 ≤ sm_shapes F ∧ sm_shapes F ≤ 1620 := by
  rw [mR_shapes h hR]
  have hw := h.wag
  have h0 := h.1
  have a := cf_st_b h 0
  have b := cf_st_b h 1
  have hab : 1 ≤ cf_st jo wa sr 0 * cf_st jo wa sr 1 ∧ cf_st jo wa sr 0 * cf_st jo wa sr 1 ≤ 60 := by
    unfold cf_st at a b ⊢
    have hp : 0 < jo := by omega
    rw [if_pos hp] at a ⊢
    by_cases j1 : 1 < jo
    · rw [if_pos j1] at b ⊢
      by_cases w0 : ((0 : Nat) : Int) = wa
      · rw [if_pos w0, if_neg (by omega)] at *; omega
      · rw [if_neg w0] at *
        by_cases w1 : ((1 : Nat) : Int) = wa
        · rw [if_pos w1] at *; omega
        · rw [if_neg w1] at *; omega
    · rw [if_neg j1] at b ⊢
      split at a <;> (rename_i z; first | rw [if_pos z] | rw [if_neg z]) <;> omega
  rw [Int.mul_assoc]
  split <;> omega
theorem mE_at {c : xCf} (h : vB ld dg pa jo wa sr pu ri) (hR : mR F ld dg pa jo wa) (hc : cf_ok pa jo wa sr c) : sm_at F (mE jo wa sr c) 0 = c.2.2.2.1 + cf_z jo wa 0 ∧ sm_at F (mE jo wa sr c) 1 = c.2.2.2.2 + cf_z jo wa 1 := by
  unfold sm_at
  rw [show sm_steps F 0 = _ from mR_st h hR 0, show sm_steps F 1 = _ from mR_st h hR 1, if_pos rfl, if_neg (by decide)]
  unfold mE
  rw [(en_1 hc.2.2.2.2).1, (en_1 hc.2.2.2.2).2, (en_2 hc.2.2.2.1).1]
  exact ⟨rfl, rfl⟩
theorem mE_pose {c : xCf} (h : vB ld dg pa jo wa sr pu ri) (hR : mR F ld dg pa jo wa) (hc : cf_ok pa jo wa sr c) : sm_pose F (mE jo wa sr c) 0 = c.1 ∧ sm_pose F (mE jo wa sr c) 1 = c.2.1 ∧ sm_pose F (mE jo wa sr c) 2 = c.2.2.1 := by
  obtain ⟨c1, c2, c3, c4, c5⟩ := hc
  unfold sm_pose sm_three
  rw [show sm_steps F 0 = _ from mR_st h hR 0, show sm_steps F 1 = _ from mR_st h hR 1]
  unfold mE
  rw [en_3 c4 c5, if_pos rfl, if_neg (by decide), if_pos rfl, if_neg (by decide), if_neg (by decide)]
  omega
theorem mE_from {c : xCf} (h : vB ld dg pa jo wa sr pu ri) (hR : mR F ld dg pa jo wa) (hc : cf_ok pa jo wa sr c) : sm_from F (mE jo wa sr c) 0 = cf_all ld pa c ∧ sm_from F (mE jo wa sr c) 1 = cf_beh ld pa c 0 ∧ sm_from F (mE jo wa sr c) 2 = cf_beh ld pa c 1 := by
  obtain ⟨q0, q1, q2⟩ := mE_pose h hR hc
  obtain ⟨r1, r2, r3, -, -⟩ := hR
  obtain ⟨c1, c2, c3, c4, c5⟩ := hc
  have h0 := h.1
  have e0 : sm_ld F (mE jo wa sr c) 0 = cf_l ld 0 c.1 := by
    unfold sm_ld cf_l
    rw [q0, r3 _ (by omega)]
    congr 1; omega
  have e1 : sm_ld F (mE jo wa sr c) 1 = cf_l ld 1 c.2.1 := by
    unfold sm_ld cf_l
    rw [q1, r3 _ (by omega)]
    congr 1; omega
  unfold sm_from cf_all cf_beh
  rw [r1]
  by_cases hp : 2 < pa
  · have e2 : sm_ld F (mE jo wa sr c) 2 = cf_l ld 2 c.2.2.1 := by
      unfold sm_ld cf_l
      rw [q2, r3 _ (by omega)]
      congr 1; omega
    simp only [e0, e1, e2, if_pos hp]
    refine ⟨?_, ?_, ?_⟩ <;> (repeat' split) <;> omega
  · simp only [e0, e1, if_neg hp]
    refine ⟨?_, ?_, ?_⟩ <;> (repeat' split) <;> omega
theorem mE_rest (h : vB ld dg pa jo wa sr pu ri) (hR : mR F ld dg pa jo wa) : sm_rest F = mE jo wa sr (cf_rest pa) := by
  have h0 := h.1
  unfold sm_rest mE cf_rest
  rw [show sm_steps F 0 = _ from mR_st h hR 0, show sm_steps F 1 = _ from mR_st h hR 1, show sm_zero F 0 = _ from mR_z hR 0, show sm_zero F 1 = _ from mR_z hR 1, hR.1]
  dsimp only
  rw [Int.zero_add, Int.zero_add]
  by_cases h2 : 2 < pa
  · rw [if_neg (by omega), if_pos h2]
    rfl
  · rw [if_pos (by omega), if_neg h2]
    rfl
theorem mE_str {c : xCf} (h : vB ld dg pa jo wa sr pu ri) (hR : mR F ld dg pa jo wa) (hc : cf_ok pa jo wa sr c) : (sm_at F (mE jo wa sr c) 0 = sm_zero F 0 ∧ sm_at F (mE jo wa sr c) 1 = sm_zero F 1) ↔ cf_str c := by
  obtain ⟨e0, e1⟩ := mE_at h hR hc
  rw [e0, e1, show sm_zero F 0 = _ from mR_z hR 0, show sm_zero F 1 = _ from mR_z hR 1]
  unfold cf_str
  omega
theorem mE_inj {c d : xCf} (h : vB ld dg pa jo wa sr pu ri) (hR : mR F ld dg pa jo wa) (hc : cf_ok pa jo wa sr c) (hd : cf_ok pa jo wa sr d) (e : mE jo wa sr c = mE jo wa sr d) : c = d := by
  obtain ⟨q0, q1, q2⟩ := mE_pose h hR hc
  obtain ⟨a0, a1⟩ := mE_at h hR hc
  obtain ⟨q0', q1', q2'⟩ := mE_pose h hR hd
  obtain ⟨a0', a1'⟩ := mE_at h hR hd
  rw [e] at q0 q1 q2 a0 a1
  obtain ⟨p0, p1, p2, s0, s1⟩ := c
  obtain ⟨p0', p1', p2', s0', s1'⟩ := d
  dsimp only at *
  simp only [Prod.mk.injEq]
  omega
theorem mE_dec (h : vB ld dg pa jo wa sr pu ri) (hR : mR F ld dg pa jo wa) {sh : Int} (hs : 0 ≤ sh ∧ sh < sm_shapes F) : ∃ c, cf_ok pa jo wa sr c ∧ mE jo wa sr c = sh := by
  rw [mR_shapes h hR] at hs
  have h0 := h.1
  have sa := cf_st_b h 0
  have sb := cf_st_b h 1
  have b1 := Int.emod_nonneg sh (by omega : cf_st jo wa sr 1 ≠ 0)
  have b2 := Int.emod_lt_of_pos sh (by omega : 0 < cf_st jo wa sr 1)
  have a1 := Int.emod_nonneg (sh / cf_st jo wa sr 1) (by omega : cf_st jo wa sr 0 ≠ 0)
  have a2 := Int.emod_lt_of_pos (sh / cf_st jo wa sr 1) (by omega : 0 < cf_st jo wa sr 0)
  have p1 : 0 ≤ sh / cf_st jo wa sr 1 / cf_st jo wa sr 0 := Int.ediv_nonneg (Int.ediv_nonneg hs.1 (by omega)) (by omega)
  have p2 : sh / cf_st jo wa sr 1 / cf_st jo wa sr 0 < (if 2 < pa then 27 else 9) := by
    rw [Int.ediv_lt_iff_lt_mul (by omega), Int.ediv_lt_iff_lt_mul (by omega)]
    exact hs.2
  generalize hP : sh / cf_st jo wa sr 1 / cf_st jo wa sr 0 = P at p1 p2
  refine ⟨(P % 3, P / 3 % 3, P / 9, sh / cf_st jo wa sr 1 % cf_st jo wa sr 0 - cf_z jo wa 0, sh % cf_st jo wa sr 1 - cf_z jo wa 1), ⟨by dsimp only; omega, by dsimp only; omega, ?_, ?_, ?_⟩, ?_⟩
  · dsimp only
    split at p2 <;> omega
  · unfold cf_in; dsimp only; omega
  · unfold cf_in; dsimp only; omega
  · unfold mE
    dsimp only
    have e1 : P % 3 + 3 * (P / 3 % 3) + 9 * (P / 9) = P := by omega
    rw [e1, Int.sub_add_cancel, Int.sub_add_cancel, ← hP]
    have e2 := Int.mul_ediv_add_emod (sh / cf_st jo wa sr 1) (cf_st jo wa sr 0)
    have e3 := Int.mul_ediv_add_emod sh (cf_st jo wa sr 1)
    rw [Int.mul_comm _ (cf_st jo wa sr 0), e2, Int.mul_comm _ (cf_st jo wa sr 1), e3]
theorem mE_posed {c : xCf} (h : vB ld dg pa jo wa sr pu ri) (hR : mR F ld dg pa jo wa) (hc : cf_ok pa jo wa sr c) (q : Int) : sm_posed F (mE jo wa sr c) 0 q = mE jo wa sr (q, c.2.1, c.2.2.1, c.2.2.2.1, c.2.2.2.2) ∧ sm_posed F (mE jo wa sr c) 1 q = mE jo wa sr (c.1, q, c.2.2.1, c.2.2.2.1, c.2.2.2.2) ∧ sm_posed F (mE jo wa sr c) 2 q = mE jo wa sr (c.1, c.2.1, q, c.2.2.2.1, c.2.2.2.2) := by
  obtain ⟨q0, q1, q2⟩ := mE_pose h hR hc
  unfold sm_posed
  rw [q0, q1, q2, show sm_steps F 0 = _ from mR_st h hR 0, show sm_steps F 1 = _ from mR_st h hR 1]
  unfold mE sm_three
  rw [if_pos rfl, if_neg (by decide), if_pos rfl, if_neg (by decide), if_neg (by decide)]
  dsimp only
  generalize cf_st jo wa sr 0 = A
  generalize cf_st jo wa sr 1 = B
  generalize cf_z jo wa 0 = z0
  generalize cf_z jo wa 1 = z1
  obtain ⟨p0, p1, p2, s0, s1⟩ := c
  dsimp only
  refine ⟨?_, ?_, ?_⟩
  · have e : q + 3 * p1 + 9 * p2 = (p0 + 3 * p1 + 9 * p2) + (q - p0) * 1 := by omega
    rw [e, Int.add_mul (p0 + 3 * p1 + 9 * p2), Int.add_right_comm ((p0 + 3 * p1 + 9 * p2) * A), Int.add_mul _ ((q - p0) * 1 * A)]
    omega
  · have e : p0 + 3 * q + 9 * p2 = (p0 + 3 * p1 + 9 * p2) + (q - p1) * 3 := by omega
    rw [e, Int.add_mul (p0 + 3 * p1 + 9 * p2), Int.add_right_comm ((p0 + 3 * p1 + 9 * p2) * A), Int.add_mul _ ((q - p1) * 3 * A)]
    omega
  · have e : p0 + 3 * p1 + 9 * q = (p0 + 3 * p1 + 9 * p2) + (q - p2) * 9 := by omega
    rw [e, Int.add_mul (p0 + 3 * p1 + 9 * p2), Int.add_right_comm ((p0 + 3 * p1 + 9 * p2) * A), Int.add_mul _ ((q - p2) * 9 * A)]
    omega
theorem cf_m0 (c : xCf) : cf_move pa jo wa sr c 0 = some c := rfl
theorem cf_m1 (c : xCf) : cf_move pa jo wa sr c 1 = if 0 < jo then (cf_step wa sr 0 c.2.2.2.1 1).map (fun s => (c.1, c.2.1, c.2.2.1, s, c.2.2.2.2)) else none := rfl
theorem cf_m2 (c : xCf) : cf_move pa jo wa sr c 2 = if 0 < jo then (cf_step wa sr 0 c.2.2.2.1 (-1)).map (fun s => (c.1, c.2.1, c.2.2.1, s, c.2.2.2.2)) else none := rfl
theorem cf_m3 (c : xCf) : cf_move pa jo wa sr c 3 = if 1 < jo then (cf_step wa sr 1 c.2.2.2.2 1).map (fun s => (c.1, c.2.1, c.2.2.1, c.2.2.2.1, s)) else none := rfl
theorem cf_m4 (c : xCf) : cf_move pa jo wa sr c 4 = if 1 < jo then (cf_step wa sr 1 c.2.2.2.2 (-1)).map (fun s => (c.1, c.2.1, c.2.2.1, c.2.2.2.1, s)) else none := rfl
theorem cf_m9 (c : xCf) {mv : Int} (h : 5 ≤ mv ∧ mv ≤ 9) : cf_move pa jo wa sr c mv = none := by
  unfold cf_move
  rw [if_neg (by omega), if_neg (by omega), if_neg (by omega), if_neg (by omega), if_neg (by omega), if_neg (by omega)]
theorem cf_mp0 (c : xCf) {mv : Int} (h : 10 ≤ mv ∧ mv ≤ 12) : cf_move pa jo wa sr c mv = if c.1 ≠ mv - 10 then some (mv - 10, c.2.1, c.2.2.1, c.2.2.2.1, c.2.2.2.2) else none := by
  unfold cf_move
  rw [if_neg (by omega), if_neg (by omega), if_neg (by omega), if_pos h]
theorem cf_mp1 (c : xCf) {mv : Int} (h : 13 ≤ mv ∧ mv ≤ 15) : cf_move pa jo wa sr c mv = if c.2.1 ≠ mv - 13 then some (c.1, mv - 13, c.2.2.1, c.2.2.2.1, c.2.2.2.2) else none := by
  unfold cf_move
  rw [if_neg (by omega), if_neg (by omega), if_neg (by omega), if_neg (by omega), if_pos h]
theorem cf_mp2 (c : xCf) {mv : Int} (h : 16 ≤ mv ∧ mv ≤ 18) : cf_move pa jo wa sr c mv = if 2 < pa ∧ c.2.2.1 ≠ mv - 16 then some (c.1, c.2.1, mv - 16, c.2.2.2.1, c.2.2.2.2) else none := by
  unfold cf_move
  rw [if_neg (by omega), if_neg (by omega), if_neg (by omega), if_neg (by omega), if_neg (by omega), if_pos h]
theorem en_5 (P A B a a' b z : Int) : ((P * A + (a + z)) * B + b) + (a' + z - (a + z)) * B = (P * A + (a' + z)) * B + b := by
  have e : P * A + (a' + z) = (P * A + (a + z)) + (a' + z - (a + z)) := by omega
  rw [e, Int.add_mul (P * A + (a + z))]
  omega
theorem en_6 (X b b' z : Int) : (X + (b + z)) + (b' + z - (b + z)) * 1 = X + (b' + z) := by omega
/-- a joint's step in the model's numbers -/
theorem mE_bent {c : xCf} (h : vB ld dg pa jo wa sr pu ri) (hR : mR F ld dg pa jo wa) (hc : cf_ok pa jo wa sr c) (d : Int) (hd : d = 1 ∨ d = -1) :
    (0 < jo → sm_bent F (mE jo wa sr c) 0 d = (match cf_step wa sr 0 c.2.2.2.1 d with | some s => mE jo wa sr (c.1, c.2.1, c.2.2.1, s, c.2.2.2.2) | none => -4)) ∧
    (1 < jo → sm_bent F (mE jo wa sr c) 1 d = (match cf_step wa sr 1 c.2.2.2.2 d with | some s => mE jo wa sr (c.1, c.2.1, c.2.2.1, c.2.2.2.1, s) | none => -4)) := by
  have hw := h.wag
  obtain ⟨a0, a1⟩ := mE_at h hR hc
  obtain ⟨c1, c2, c3, c4, c5⟩ := hc
  have key : ∀ (j : Nat) (s : Int), j < jo → cf_in jo wa sr j s → sm_at F (mE jo wa sr c) (j : Int) = s + cf_z jo wa j → (∃ s', cf_step wa sr j s d = some s' ∧ sm_now F (mE jo wa sr c) (j : Int) d = s' + cf_z jo wa j ∧ 0 ≤ s' + cf_z jo wa j ∧ s' + cf_z jo wa j ≤ sm_steps F (j : Int) - 1) ∨ (cf_step wa sr j s d = none ∧ ¬ (0 ≤ sm_now F (mE jo wa sr c) (j : Int) d ∧ sm_now F (mE jo wa sr c) (j : Int) d ≤ sm_steps F (j : Int) - 1)) := by
    intro j s hj hs ha
    unfold cf_in at hs
    unfold sm_now cf_step
    rw [ha, mR_st h hR j, Int.toNat_natCast, hR.2.2.2.2 j hj]
    by_cases e : (j : Int) = wa
    · have hz : cf_z jo wa j = 0 := if_neg (fun q => q.2 e)
      have hst : cf_st jo wa sr j = sr := by unfold cf_st; rw [if_pos hj, if_pos e]
      rw [hz, hst] at hs ⊢
      simp only [if_pos e]
      have e1 := Int.emod_nonneg (s + d) (by omega : sr ≠ 0)
      have e2 := Int.emod_lt_of_pos (s + d) (by omega : 0 < sr)
      exact Or.inl ⟨_, rfl, by simp, by omega, by omega⟩
    · have hz : cf_z jo wa j = 2 := if_pos ⟨hj, e⟩
      have hst : cf_st jo wa sr j = 5 := by unfold cf_st; rw [if_pos hj, if_neg e]
      rw [hz, hst] at hs ⊢
      simp only [if_neg e]
      by_cases e2 : -2 ≤ s + d ∧ s + d ≤ 2
      · exact Or.inl ⟨s + d, if_pos e2, by simp; omega, by omega, by omega⟩
      · exact Or.inr ⟨if_neg e2, by simp; omega⟩
  constructor
  · intro hj
    rcases key 0 _ hj c4 a0 with ⟨s', k1, k2, k3, k4⟩ | ⟨k1, k2⟩
    · rw [k1]
      show sm_bent F (mE jo wa sr c) 0 d = mE jo wa sr (c.1, c.2.1, c.2.2.1, s', c.2.2.2.2)
      unfold sm_bent
      rw [show sm_now F (mE jo wa sr c) 0 d = _ from k2, if_pos (show _ ∧ _ ≤ sm_steps F 0 - 1 from ⟨k3, k4⟩), a0, if_pos rfl, show sm_steps F 1 = _ from mR_st h hR 1]
      exact en_5 _ _ _ _ _ _ _
    · rw [k1]
      exact if_neg k2
  · intro hj
    rcases key 1 _ hj c5 a1 with ⟨s', k1, k2, k3, k4⟩ | ⟨k1, k2⟩
    · rw [k1]
      show sm_bent F (mE jo wa sr c) 1 d = mE jo wa sr (c.1, c.2.1, c.2.2.1, c.2.2.2.1, s')
      unfold sm_bent
      rw [show sm_now F (mE jo wa sr c) 1 d = _ from k2, if_pos (show _ ∧ _ ≤ sm_steps F 1 - 1 from ⟨k3, k4⟩), a1, if_neg (by decide : ¬ (1 : Int) = 0)]
      exact en_6 _ _ _ _
    · rw [k1]
      exact if_neg k2
/-- a move in the model's numbers -/
theorem mE_moved {c : xCf} (h : vB ld dg pa jo wa sr pu ri) (hR : mR F ld dg pa jo wa) (hc : cf_ok pa jo wa sr c) {mv : Int} (hmv : 0 ≤ mv ∧ mv ≤ 18) : sm_moved F (mE jo wa sr c) mv = (match cf_move pa jo wa sr c mv with | some c' => mE jo wa sr c' | none => -4) := by
  have h0 := h.1
  obtain ⟨r1, r2, -⟩ := id hR
  obtain ⟨q0, q1, q2⟩ := mE_pose h hR hc
  by_cases m0 : mv = 0
  · subst m0; rfl
  by_cases m5 : mv < 5
  · obtain ⟨b1, b2⟩ := mE_bent h hR hc 1 (Or.inl rfl)
    obtain ⟨b3, b4⟩ := mE_bent h hR hc (-1) (Or.inr rfl)
    rcases (show mv = 1 ∨ mv = 2 ∨ mv = 3 ∨ mv = 4 by omega) with rfl | rfl | rfl | rfl
    · show (if 0 ≤ (0 : Int) ∧ (0 : Int) ≤ F 4 0 - 1 then sm_bent F (mE jo wa sr c) 0 1 else -4) = _
      rw [if_pos ⟨by omega, by omega⟩, b1 (by omega), cf_m1, if_pos (show 0 < jo by omega)]
      cases cf_step wa sr 0 c.2.2.2.1 1 <;> rfl
    · show (if 0 ≤ (0 : Int) ∧ (0 : Int) ≤ F 4 0 - 1 then sm_bent F (mE jo wa sr c) 0 (-1) else -4) = _
      rw [if_pos ⟨by omega, by omega⟩, b3 (by omega), cf_m2, if_pos (show 0 < jo by omega)]
      cases cf_step wa sr 0 c.2.2.2.1 (-1) <;> rfl
    · show (if 0 ≤ (1 : Int) ∧ (1 : Int) ≤ F 4 0 - 1 then sm_bent F (mE jo wa sr c) 1 1 else -4) = _
      rw [cf_m3]
      by_cases j1 : 1 < jo
      · rw [if_pos (show 0 ≤ (1 : Int) ∧ (1 : Int) ≤ F 4 0 - 1 by omega), b2 j1, if_pos j1]
        cases cf_step wa sr 1 c.2.2.2.2 1 <;> rfl
      · rw [if_neg (show ¬ (0 ≤ (1 : Int) ∧ (1 : Int) ≤ F 4 0 - 1) by omega), if_neg j1]
    · show (if 0 ≤ (1 : Int) ∧ (1 : Int) ≤ F 4 0 - 1 then sm_bent F (mE jo wa sr c) 1 (-1) else -4) = _
      rw [cf_m4]
      by_cases j1 : 1 < jo
      · rw [if_pos (show 0 ≤ (1 : Int) ∧ (1 : Int) ≤ F 4 0 - 1 by omega), b4 j1, if_pos j1]
        cases cf_step wa sr 1 c.2.2.2.2 (-1) <;> rfl
      · rw [if_neg (show ¬ (0 ≤ (1 : Int) ∧ (1 : Int) ≤ F 4 0 - 1) by omega), if_neg j1]
  have em : sm_moved F (mE jo wa sr c) mv = if mv < 10 ∨ ¬ (0 ≤ (mv - 10) / 3 ∧ (mv - 10) / 3 ≤ F 2 0 - 1) ∨ sm_pose F (mE jo wa sr c) ((mv - 10) / 3) = (mv - 10) % 3 then -4 else sm_posed F (mE jo wa sr c) ((mv - 10) / 3) ((mv - 10) % 3) := by
    unfold sm_moved
    rw [if_neg m0, if_neg m5]
  rw [em, r1]
  by_cases m9 : mv < 10
  · rw [if_pos (Or.inl m9), cf_m9 c (by omega)]
  by_cases k0 : mv ≤ 12
  · obtain ⟨p1, p2, p3⟩ := mE_posed h hR hc (mv - 10)
    rw [cf_mp0 c (by omega), show (mv - 10) / 3 = 0 by omega, show (mv - 10) % 3 = mv - 10 by omega, q0]
    by_cases e : c.1 = mv - 10
    · rw [if_pos (Or.inr (Or.inr e)), if_neg (fun z => z e)]
    · rw [if_neg (show ¬ (mv < 10 ∨ ¬ (0 ≤ (0 : Int) ∧ (0 : Int) ≤ (pa : Int) - 1) ∨ c.1 = mv - 10) by omega), if_pos e, p1]
  by_cases k1 : mv ≤ 15
  · obtain ⟨p1, p2, p3⟩ := mE_posed h hR hc (mv - 13)
    rw [cf_mp1 c (by omega), show (mv - 10) / 3 = 1 by omega, show (mv - 10) % 3 = mv - 13 by omega, q1]
    by_cases e : c.2.1 = mv - 13
    · rw [if_pos (Or.inr (Or.inr e)), if_neg (fun z => z e)]
    · rw [if_neg (show ¬ (mv < 10 ∨ ¬ (0 ≤ (1 : Int) ∧ (1 : Int) ≤ (pa : Int) - 1) ∨ c.2.1 = mv - 13) by omega), if_pos e, p2]
  · obtain ⟨p1, p2, p3⟩ := mE_posed h hR hc (mv - 16)
    rw [cf_mp2 c (by omega), show (mv - 10) / 3 = 2 by omega, show (mv - 10) % 3 = mv - 16 by omega, q2]
    by_cases h2 : 2 < pa
    · by_cases e : c.2.2.1 = mv - 16
      · rw [if_pos (Or.inr (Or.inr e)), if_neg (fun (z : 2 < pa ∧ c.2.2.1 ≠ mv - 16) => z.2 e)]
      · rw [if_neg (show ¬ (mv < 10 ∨ ¬ (0 ≤ (2 : Int) ∧ (2 : Int) ≤ (pa : Int) - 1) ∨ c.2.2.1 = mv - 16) by omega), if_pos (show 2 < pa ∧ c.2.2.1 ≠ mv - 16 from ⟨h2, e⟩), p3]
    · rw [if_pos (Or.inr (Or.inl (by omega))), if_neg (fun (z : 2 < pa ∧ c.2.2.1 ≠ mv - 16) => h2 z.1)]
theorem cf_b9 (ld dg : Nat → Int) (pa : Nat) (c : xCf) {mv : Int} (h : mv ≤ 0 ∨ 5 ≤ mv) : cf_bend ld dg pa c mv = 0 := by
  unfold cf_bend
  rw [if_neg (by omega), if_neg (by omega), if_neg (by omega), if_neg (by omega)]
theorem mE_turned {c : xCf} (h : vB ld dg pa jo wa sr pu ri) (hR : mR F ld dg pa jo wa) (hc : cf_ok pa jo wa sr c) {mv : Int} (hmv : 0 ≤ mv ∧ mv ≤ 18) (hj : mv = 3 ∨ mv = 4 → 1 < jo) (push : Int) : sm_turned F push (mE jo wa sr c) mv = cf_turn ld dg pa push c mv := by
  have h0 := h.1
  obtain ⟨f0, f1, f2⟩ := mE_from h hR hc
  obtain ⟨-, -, -, r4, -⟩ := hR
  by_cases m1 : mv = 1
  · subst m1
    show _ - ((F 5 0) * sm_from F (mE jo wa sr c) 1).tdiv _ = _ - (dg 0 * cf_beh ld pa c 0).tdiv (cf_all ld pa c)
    rw [f0, f1, r4 0 (by omega)]
  by_cases m2 : mv = 2
  · subst m2
    show _ - ((-F 5 0) * sm_from F (mE jo wa sr c) 1).tdiv _ = _ - (-dg 0 * cf_beh ld pa c 0).tdiv (cf_all ld pa c)
    rw [f0, f1, r4 0 (by omega)]
  by_cases m3 : mv = 3
  · subst m3
    show _ - ((F 5 1) * sm_from F (mE jo wa sr c) 2).tdiv _ = _ - (dg 1 * cf_beh ld pa c 1).tdiv (cf_all ld pa c)
    rw [f0, f2, r4 1 (hj (Or.inl rfl))]
  by_cases m4 : mv = 4
  · subst m4
    show _ - ((-F 5 1) * sm_from F (mE jo wa sr c) 2).tdiv _ = _ - (-dg 1 * cf_beh ld pa c 1).tdiv (cf_all ld pa c)
    rw [f0, f2, r4 1 (hj (Or.inr rfl))]
  · unfold sm_turned cf_turn
    rw [f0, if_neg (by omega), cf_b9 ld dg pa c (by omega)]
theorem cf_move_j {c c' : xCf} {mv : Int} (hm : cf_move pa jo wa sr c mv = some c') : mv = 3 ∨ mv = 4 → 1 < jo := by
  intro e
  unfold cf_move at hm
  rw [if_neg (by omega), if_neg (by omega), if_pos e] at hm
  split at hm
  · assumption
  · cases hm
end CM
