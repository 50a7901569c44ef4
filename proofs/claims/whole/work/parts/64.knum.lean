/-! the class's shapes by numbers, its moves, its states -/
def tp (jo : Nat) (wa sr sj : Int) (j : Nat) : Int := if j < jo ∧ (j : Int) ≠ sj then cf_st jo wa sr j else 1
def tz (jo : Nat) (wa sj : Int) (j : Nat) : Int := if j < jo ∧ (j : Int) ≠ sj then cf_z jo wa j else 0
def cs_ok (pa jo : Nat) (wa sr sj : Int) (c : xCf) : Prop := cf_ok pa jo wa sr c ∧ (sj = 0 → c.2.2.2.1 = 0) ∧ (sj = 1 → c.2.2.2.2 = 0)
def kS (jo : Nat) (wa sr sj : Int) (c : xCf) : Int := (c.2.2.2.2 + tz jo wa sj 1) * tp jo wa sr sj 0 + (c.2.2.2.1 + tz jo wa sj 0)
def kE (pa jo : Nat) (wa sr sj : Int) (c : xCf) : Int := if 2 < pa then ((kS jo wa sr sj c * 3 + c.2.2.1) * 3 + c.2.1) * 3 + c.1 else (kS jo wa sr sj c * 3 + c.2.1) * 3 + c.1
def kN (pa jo : Nat) (wa sr sj : Int) : Int := (if 2 < pa then 27 else 9) * tp jo wa sr sj 0 * tp jo wa sr sj 1
def kF (pa jo : Nat) (wa sr sj : Int) : Int := (if 2 < pa then 27 else 9) * (tz jo wa sj 1 * tp jo wa sr sj 0 + tz jo wa sj 0)
def kD (pa jo : Nat) (wa sr sj n : Int) : xCf := (n % 3, n / 3 % 3, (if 2 < pa then n / 3 / 3 % 3 else 0), (if 2 < pa then n / 3 / 3 / 3 else n / 3 / 3) % tp jo wa sr sj 0 - tz jo wa sj 0, (if 2 < pa then n / 3 / 3 / 3 else n / 3 / 3) / tp jo wa sr sj 0 % tp jo wa sr sj 1 - tz jo wa sj 1)
section KN
variable {ld dg : Nat → Int} {pa jo : Nat} {wa sr pu ri sj : Int}
theorem tp_b (h : vB ld dg pa jo wa sr pu ri) (j : Nat) : 1 ≤ tp jo wa sr sj j ∧ tp jo wa sr sj j ≤ 12 := by
  have := cf_st_b h j
  unfold tp
  split <;> omega
theorem tz_b (j : Nat) : 0 ≤ tz jo wa sj j ∧ tz jo wa sj j ≤ 2 := by
  have := cf_z_b jo wa j
  unfold tz
  split <;> omega
theorem tp_tz (h : vB ld dg pa jo wa sr pu ri) (j : Nat) : tz jo wa sj j < tp jo wa sr sj j := by
  have hw := h.wag
  unfold tz tp
  split
  · unfold cf_z cf_st
    rename_i e
    rw [if_pos e.1]
    by_cases w : (j : Int) = wa
    · rw [if_neg (fun z => z.2 w), if_pos w]; omega
    · rw [if_pos ⟨e.1, w⟩, if_neg w]; omega
  · omega
theorem cs_b (h : vB ld dg pa jo wa sr pu ri) {c : xCf} (hc : cs_ok pa jo wa sr sj c) : (0 ≤ c.2.2.2.1 + tz jo wa sj 0 ∧ c.2.2.2.1 + tz jo wa sj 0 < tp jo wa sr sj 0) ∧ (0 ≤ c.2.2.2.2 + tz jo wa sj 1 ∧ c.2.2.2.2 + tz jo wa sj 1 < tp jo wa sr sj 1) := by
  obtain ⟨⟨-, -, -, h0, h1⟩, k0, k1⟩ := hc
  unfold cf_in at h0 h1
  unfold tz tp
  constructor
  · by_cases e : 0 < jo ∧ ((0 : Nat) : Int) ≠ sj
    · rw [if_pos e, if_pos e]; exact h0
    · rw [if_neg e, if_neg e]
      have z : c.2.2.2.1 = 0 := by
        by_cases e1 : 0 < jo
        · exact k0 (by omega)
        · unfold cf_z cf_st at h0
          rw [if_neg (fun z => e1 z.1), if_neg e1] at h0
          omega
      omega
  · by_cases e : 1 < jo ∧ ((1 : Nat) : Int) ≠ sj
    · rw [if_pos e, if_pos e]; exact h1
    · rw [if_neg e, if_neg e]
      have z : c.2.2.2.2 = 0 := by
        by_cases e1 : 1 < jo
        · exact k1 (by omega)
        · unfold cf_z cf_st at h1
          rw [if_neg (fun z => e1 z.1), if_neg e1] at h1
          omega
      omega
theorem kN_b (h : vB ld dg pa jo wa sr pu ri) : 9 ≤ kN pa jo wa sr sj ∧ kN pa jo wa sr sj ≤ 1620 ∧ kN pa jo wa sr sj % 9 = 0 ∧ (0 ≤ sj → (sj : Int) < jo → kN pa jo wa sr sj ≤ 324) := by
  have hw := h.wag
  have h0 := h.1
  have a := tp_b (sj := sj) h 0
  have b := tp_b (sj := sj) h 1
  have hab : (1 ≤ tp jo wa sr sj 0 * tp jo wa sr sj 1 ∧ tp jo wa sr sj 0 * tp jo wa sr sj 1 ≤ 60) ∧ (0 ≤ sj → (sj : Int) < jo → tp jo wa sr sj 0 * tp jo wa sr sj 1 ≤ 12) := by
    by_cases s0 : sj = 0
    · have e : tp jo wa sr sj 0 = 1 := by unfold tp; rw [if_neg (fun z => z.2 s0.symm)]
      rw [e, Int.one_mul]
      omega
    by_cases s1 : sj = 1
    · have e : tp jo wa sr sj 1 = 1 := by unfold tp; rw [if_neg (fun z => z.2 s1.symm)]
      rw [e, Int.mul_one]
      omega
    refine ⟨?_, fun z1 z2 => by omega⟩
    have hp : 0 < jo := by omega
    have e0 : tp jo wa sr sj 0 = if wa = 0 then sr else 5 := by
      unfold tp cf_st
      rw [if_pos ⟨hp, by omega⟩, if_pos hp]
      by_cases w : wa = 0
      · rw [if_pos w, if_pos (by omega)]
      · rw [if_neg w, if_neg (by omega)]
    have e1 : tp jo wa sr sj 1 = if 1 < jo then (if wa = 1 then sr else 5) else 1 := by
      unfold tp cf_st
      by_cases j1 : 1 < jo
      · rw [if_pos ⟨j1, by omega⟩, if_pos j1, if_pos j1]
        by_cases w : wa = 1
        · rw [if_pos w, if_pos (by omega)]
        · rw [if_neg w, if_neg (by omega)]
      · rw [if_neg (fun z => j1 z.1), if_neg j1]
    rw [e0, e1]
    by_cases w0 : wa = 0
    · rw [if_pos w0, if_neg (show ¬ wa = 1 by omega)]
      split <;> omega
    · rw [if_neg w0]
      by_cases w1 : wa = 1
      · rw [if_pos w1]
        split <;> omega
      · rw [if_neg w1]
        split <;> omega
  unfold kN
  rw [Int.mul_assoc]
  generalize tp jo wa sr sj 0 * tp jo wa sr sj 1 = X at hab
  split <;> omega
theorem kS_b (h : vB ld dg pa jo wa sr pu ri) {c : xCf} (hc : cs_ok pa jo wa sr sj c) : 0 ≤ kS jo wa sr sj c ∧ kS jo wa sr sj c < tp jo wa sr sj 0 * tp jo wa sr sj 1 := by
  obtain ⟨a, b⟩ := cs_b h hc
  have k := en_4 (P := 0) (K := 1) (A := tp jo wa sr sj 1) (B := tp jo wa sr sj 0) (by omega) b a
  rw [Int.zero_mul, Int.zero_add, Int.one_mul, Int.mul_comm (tp jo wa sr sj 1)] at k
  exact k
theorem kE_b (h : vB ld dg pa jo wa sr pu ri) {c : xCf} (hc : cs_ok pa jo wa sr sj c) : 0 ≤ kE pa jo wa sr sj c ∧ kE pa jo wa sr sj c < kN pa jo wa sr sj := by
  have k := kS_b h hc
  obtain ⟨h0, h1, h2, -, -⟩ := hc.1
  unfold kE kN
  rw [Int.mul_assoc]
  generalize tp jo wa sr sj 0 * tp jo wa sr sj 1 = X at k
  split <;> omega
theorem kE_D (h : vB ld dg pa jo wa sr pu ri) {c : xCf} (hc : cs_ok pa jo wa sr sj c) : kD pa jo wa sr sj (kE pa jo wa sr sj c) = c := by
  obtain ⟨a, b⟩ := cs_b h hc
  obtain ⟨h0, h1, h2, -, -⟩ := hc.1
  have tb := tp_b (sj := sj) h 0
  have k2 := en_2 (P := c.2.2.2.2 + tz jo wa sj 1) (A := tp jo wa sr sj 0) a
  have k3 := Int.emod_eq_of_lt b.1 b.2
  have key : ∀ n : Int, n = kE pa jo wa sr sj c → kD pa jo wa sr sj n = c := by
    intro n hn
    unfold kE at hn
    unfold kD
    by_cases p : 2 < pa
    · rw [if_pos p] at hn
      rw [if_pos p, if_pos p]
      have e1 : n / 3 / 3 / 3 = kS jo wa sr sj c := by omega
      rw [e1]
      unfold kS
      rw [k2.1, k2.2, k3, show n % 3 = c.1 by omega, show n / 3 % 3 = c.2.1 by omega, show n / 3 / 3 % 3 = c.2.2.1 by omega, Int.add_sub_cancel, Int.add_sub_cancel]
    · rw [if_neg p] at hn
      rw [if_neg p, if_neg p]
      have e1 : n / 3 / 3 = kS jo wa sr sj c := by omega
      rw [e1]
      unfold kS
      have p2 := h.1
      have z := h2.2.2 (by omega)
      rw [k2.1, k2.2, k3, show n % 3 = c.1 by omega, show n / 3 % 3 = c.2.1 by omega, Int.add_sub_cancel, Int.add_sub_cancel, ← z]
  exact key _ rfl
theorem kD_ok (h : vB ld dg pa jo wa sr pu ri) {n : Int} (hn : 0 ≤ n ∧ n < kN pa jo wa sr sj) : cs_ok pa jo wa sr sj (kD pa jo wa sr sj n) ∧ kE pa jo wa sr sj (kD pa jo wa sr sj n) = n := by
  have hw := h.wag
  have h0 := h.1
  have ta := tp_b (sj := sj) h 0
  have tb := tp_b (sj := sj) h 1
  have inb : ∀ (j : Nat) (x : Int), 0 ≤ x → x < tp jo wa sr sj j → cf_in jo wa sr j (x - tz jo wa sj j) ∧ (sj = (j : Int) → x - tz jo wa sj j = 0) := by
    intro j x x0 x1
    unfold cf_in
    unfold tp at x1
    unfold tz
    by_cases e : j < jo ∧ (j : Int) ≠ sj
    · rw [if_pos e] at x1 ⊢
      exact ⟨⟨by omega, by omega⟩, fun z => absurd z.symm e.2⟩
    · rw [if_neg e] at x1 ⊢
      refine ⟨?_, fun _ => by omega⟩
      have x2 : x = 0 := by omega
      subst x2
      unfold cf_z cf_st
      by_cases q : j < jo
      · rw [if_pos q]
        by_cases w : (j : Int) = wa
        · rw [if_neg (fun z => z.2 w), if_pos w]; omega
        · rw [if_pos ⟨q, w⟩, if_neg w]; omega
      · rw [if_neg q, if_neg (fun z => q z.1)]; omega
  have m0 := fun r : Int => (⟨Int.emod_nonneg r (by omega : tp jo wa sr sj 0 ≠ 0), Int.emod_lt_of_pos r (by omega : 0 < tp jo wa sr sj 0)⟩ : 0 ≤ r % tp jo wa sr sj 0 ∧ r % tp jo wa sr sj 0 < tp jo wa sr sj 0)
  have m1 := fun r : Int => (⟨Int.emod_nonneg r (by omega : tp jo wa sr sj 1 ≠ 0), Int.emod_lt_of_pos r (by omega : 0 < tp jo wa sr sj 1)⟩ : 0 ≤ r % tp jo wa sr sj 1 ∧ r % tp jo wa sr sj 1 < tp jo wa sr sj 1)
  have big : ∀ r : Int, 0 ≤ r → r < tp jo wa sr sj 0 * tp jo wa sr sj 1 → r / tp jo wa sr sj 0 % tp jo wa sr sj 1 * tp jo wa sr sj 0 + r % tp jo wa sr sj 0 = r := by
    intro r r0 r1
    have d1 : r / tp jo wa sr sj 0 < tp jo wa sr sj 1 := by
      rw [Int.ediv_lt_iff_lt_mul (by omega), Int.mul_comm]
      exact r1
    have d0 : 0 ≤ r / tp jo wa sr sj 0 := Int.ediv_nonneg r0 (by omega)
    rw [Int.emod_eq_of_lt d0 d1, Int.mul_comm]
    exact Int.mul_ediv_add_emod r _
  unfold kN at hn
  rw [Int.mul_assoc] at hn
  by_cases p : 2 < pa
  · rw [if_pos p] at hn
    have hr := big (n / 3 / 3 / 3) (by omega) (by generalize tp jo wa sr sj 0 * tp jo wa sr sj 1 = X at hn ⊢; omega)
    obtain ⟨i1, i2⟩ := inb 0 _ (m0 (n / 3 / 3 / 3)).1 (m0 (n / 3 / 3 / 3)).2
    obtain ⟨i3, i4⟩ := inb 1 _ (m1 (n / 3 / 3 / 3 / tp jo wa sr sj 0)).1 (m1 (n / 3 / 3 / 3 / tp jo wa sr sj 0)).2
    unfold kD kE kS
    rw [if_pos p, if_pos p, if_pos p]
    dsimp only
    refine ⟨⟨⟨by dsimp only; omega, by dsimp only; omega, ⟨by dsimp only; omega, by dsimp only; omega, fun z => by omega⟩, i1, i3⟩, i2, i4⟩, ?_⟩
    rw [Int.sub_add_cancel, Int.sub_add_cancel, hr]
    omega
  · rw [if_neg p] at hn
    have hr := big (n / 3 / 3) (by omega) (by generalize tp jo wa sr sj 0 * tp jo wa sr sj 1 = X at hn ⊢; omega)
    obtain ⟨i1, i2⟩ := inb 0 _ (m0 (n / 3 / 3)).1 (m0 (n / 3 / 3)).2
    obtain ⟨i3, i4⟩ := inb 1 _ (m1 (n / 3 / 3 / tp jo wa sr sj 0)).1 (m1 (n / 3 / 3 / tp jo wa sr sj 0)).2
    unfold kD kE kS
    rw [if_neg p, if_neg p, if_neg p]
    dsimp only
    refine ⟨⟨⟨by dsimp only; omega, by dsimp only; omega, ⟨by dsimp only; omega, by dsimp only; omega, fun z => rfl⟩, i1, i3⟩, i2, i4⟩, ?_⟩
    rw [Int.sub_add_cancel, Int.sub_add_cancel, hr]
    omega
theorem kE_str (h : vB ld dg pa jo wa sr pu ri) {c : xCf} (hc : cs_ok pa jo wa sr sj c) : (kF pa jo wa sr sj ≤ kE pa jo wa sr sj c ∧ kE pa jo wa sr sj c ≤ kF pa jo wa sr sj + (if 2 < pa then 27 else 9) - 1) ↔ cf_str c := by
  obtain ⟨a, b⟩ := cs_b h hc
  obtain ⟨h0, h1, h2, -, -⟩ := hc.1
  have z0 := tz_b (jo := jo) (wa := wa) (sj := sj) 0
  have z1 := tz_b (jo := jo) (wa := wa) (sj := sj) 1
  have t0 := tp_tz (sj := sj) h 0
  have hS : kS jo wa sr sj c = tz jo wa sj 1 * tp jo wa sr sj 0 + tz jo wa sj 0 ↔ cf_str c := by
    unfold kS cf_str
    constructor
    · intro e
      have k := en_2 (P := c.2.2.2.2 + tz jo wa sj 1) a
      have k2 := en_2 (P := tz jo wa sj 1) (A := tp jo wa sr sj 0) (a := tz jo wa sj 0) (by omega)
      rw [e] at k
      omega
    · rintro ⟨e1, e2⟩
      rw [e1, e2, Int.zero_add, Int.zero_add]
  rw [← hS]
  unfold kF kE
  generalize tz jo wa sj 1 * tp jo wa sr sj 0 + tz jo wa sj 0 = X
  split <;> omega
theorem kF_b (h : vB ld dg pa jo wa sr pu ri) : 0 ≤ kF pa jo wa sr sj ∧ kF pa jo wa sr sj ≤ 1000 := by
  have z0 := tz_b (jo := jo) (wa := wa) (sj := sj) 0
  have z1 := tz_b (jo := jo) (wa := wa) (sj := sj) 1
  have t0 := tp_b (sj := sj) h 0
  have m0 : 0 ≤ tz jo wa sj 1 * tp jo wa sr sj 0 := Int.mul_nonneg z1.1 (by omega)
  have m1 : tz jo wa sj 1 * tp jo wa sr sj 0 ≤ 2 * tp jo wa sr sj 0 := Int.mul_le_mul_of_nonneg_right z1.2 (by omega)
  unfold kF
  split <;> omega
theorem cs_rest (h : vB ld dg pa jo wa sr pu ri) : cs_ok pa jo wa sr sj (cf_rest pa) := ⟨cf_rest_ok h, fun _ => rfl, fun _ => rfl⟩
end KN
