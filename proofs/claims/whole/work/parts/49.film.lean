/-! what both sides say of ways that are run, of films -/
def cf_bto (dg : Nat → Int) (c : xCf) (p : Int) : Int := (if 0 < p then dg 0 * c.2.2.2.1 else 0) + (if 1 < p then dg 1 * c.2.2.2.2 else 0)
theorem ds_b {d s : Int} (hd : 0 ≤ d ∧ d ≤ 120) (hs : -2 ≤ s ∧ s ≤ 12) : -240 ≤ d * s ∧ d * s ≤ 1440 := by
  have h1 : d * s ≤ d * 12 := Int.mul_le_mul_of_nonneg_left hs.2 hd.1
  have h2 : d * (-2) ≤ d * s := Int.mul_le_mul_of_nonneg_left hs.1 hd.1
  omega
section CB
variable {ld dg : Nat → Int} {pa jo : Nat} {wa sr pu ri push : Int} {ms : Nat → Int}
theorem cf_bto_b (hB : vB ld dg pa jo wa sr pu ri) {c : xCf} (hc : cf_ok pa jo wa sr c) (p : Int) : -480 ≤ cf_bto dg c p ∧ cf_bto dg c p ≤ 2880 := by
  have a := cf_in_b hB hc.2.2.2.1
  have b := cf_in_b hB hc.2.2.2.2
  have d0 := ds_b (hB.2.2.2.1 0) (s := c.2.2.2.1) (by omega)
  have d1 := ds_b (hB.2.2.2.1 1) (s := c.2.2.2.2) (by omega)
  unfold cf_bto
  repeat' split
  all_goals omega
def cr_done (ld dg : Nat → Int) (pa jo : Nat) (wa sr push : Int) (ms : Nat → Int) (len m : Nat) (c : xCf) (u : Int) : Prop := m ≤ len ∧ cr_run ld dg pa jo wa sr push ms m = some (c, u) ∧ (m < len → cf_move pa jo wa sr c (ms m) = none)
theorem cr_some : ∀ {n m : Nat}, m ≤ n → (cr_run ld dg pa jo wa sr push ms n).isSome = true → (cr_run ld dg pa jo wa sr push ms m).isSome = true := by
  intro n
  induction n with
  | zero =>
    intro m hm h
    have : m = 0 := by omega
    subst this
    exact h
  | succ n ih =>
    intro m hm h
    by_cases e : m = n + 1
    · subst e; exact h
    · refine ih (by omega) ?_
      have h : ((cr_run ld dg pa jo wa sr push ms n).bind fun q => (cf_move pa jo wa sr q.1 (ms n)).map fun c => (c, q.2 + cf_turn ld dg pa push c (ms n))).isSome = true := h
      cases hr : cr_run ld dg pa jo wa sr push ms n with
      | none => rw [hr] at h; cases h
      | some q => rfl
theorem cr_stop {len m : Nat} {c : xCf} {u : Int} (h : cr_done ld dg pa jo wa sr push ms len m c u) {t : Nat} (ht : t ≤ len) : (cr_run ld dg pa jo wa sr push ms t).isSome = true ↔ t ≤ m := by
  obtain ⟨h1, h2, h3⟩ := h
  constructor
  · intro hs
    by_cases e : t ≤ m
    · exact e
    · exfalso
      have hs := cr_some (m := m + 1) (by omega) hs
      have hs : ((cr_run ld dg pa jo wa sr push ms m).bind fun q => (cf_move pa jo wa sr q.1 (ms m)).map fun c => (c, q.2 + cf_turn ld dg pa push c (ms m))).isSome = true := hs
      rw [h2] at hs
      have hs : ((cf_move pa jo wa sr c (ms m)).map fun c => (c, u + cf_turn ld dg pa push c (ms m))).isSome = true := hs
      rw [h3 (by omega)] at hs
      cases hs
  · intro hs
    exact cr_some hs (by rw [h2]; rfl)
theorem cr_done_u {len m m' : Nat} {c c' : xCf} {u u' : Int} (h : cr_done ld dg pa jo wa sr push ms len m c u) (h' : cr_done ld dg pa jo wa sr push ms len m' c' u') : m = m' ∧ c = c' ∧ u = u' := by
  have a := (cr_stop h h'.1).mp (by rw [h'.2.1]; rfl)
  have b := (cr_stop h' h.1).mp (by rw [h.2.1]; rfl)
  have e : m = m' := by omega
  subst e
  have := h.2.1.symm.trans h'.2.1
  cases this
  exact ⟨rfl, rfl, rfl⟩
/-- a run of t moves at most, out of a longer one -/
theorem cr_done_le {len l m : Nat} {c : xCf} {u : Int} (h : cr_done ld dg pa jo wa sr push ms len m c u) (hl : m ≤ l) (h2 : l ≤ len) : cr_done ld dg pa jo wa sr push ms l m c u := ⟨hl, h.2.1, fun q => h.2.2 (by omega)⟩
/-- where a way is does not hang on what it is begun with -/
theorem cr_push {push' : Int} : ∀ (n : Nat) {c : xCf} {u : Int}, cr_run ld dg pa jo wa sr push ms n = some (c, u) → ∃ u', cr_run ld dg pa jo wa sr push' ms n = some (c, u')
  | 0, c, u, h => by
    cases h
    exact ⟨0, rfl⟩
  | n + 1, c, u, h => by
    have h : ((cr_run ld dg pa jo wa sr push ms n).bind fun q => (cf_move pa jo wa sr q.1 (ms n)).map fun c => (c, q.2 + cf_turn ld dg pa push c (ms n))) = some (c, u) := h
    cases hr : cr_run ld dg pa jo wa sr push ms n with
    | none => rw [hr] at h; cases h
    | some q =>
      rw [hr] at h
      obtain ⟨c1, u1⟩ := q
      have h : ((cf_move pa jo wa sr c1 (ms n)).map fun c => (c, u1 + cf_turn ld dg pa push c (ms n))) = some (c, u) := h
      obtain ⟨u2, hu⟩ := cr_push n hr
      rw [Option.map_eq_some_iff] at h
      obtain ⟨c2, hc2, hc3⟩ := h
      cases hc3
      exact ⟨_, cr_run_s hu hc2⟩
theorem cr_push_none {push' : Int} {n : Nat} (h : cr_run ld dg pa jo wa sr push ms n = none) : cr_run ld dg pa jo wa sr push' ms n = none := by
  cases hr : cr_run ld dg pa jo wa sr push' ms n with
  | none => rfl
  | some q =>
    obtain ⟨c, u⟩ := q
    obtain ⟨u', hu⟩ := cr_push (push' := push) n hr
    rw [h] at hu
    cases hu
theorem cr_ok (hB : vB ld dg pa jo wa sr pu ri) : ∀ (n : Nat) {c : xCf} {u : Int}, cr_run ld dg pa jo wa sr push ms n = some (c, u) → cf_ok pa jo wa sr c
  | 0, c, u, h => by
    cases h
    exact cf_rest_ok hB
  | n + 1, c, u, h => by
    have h : ((cr_run ld dg pa jo wa sr push ms n).bind fun q => (cf_move pa jo wa sr q.1 (ms n)).map fun c => (c, q.2 + cf_turn ld dg pa push c (ms n))) = some (c, u) := h
    cases hr : cr_run ld dg pa jo wa sr push ms n with
    | none => rw [hr] at h; cases h
    | some q =>
      rw [hr] at h
      have h : ((cf_move pa jo wa sr q.1 (ms n)).map fun c => (c, q.2 + cf_turn ld dg pa push c (ms n))) = some (c, u) := h
      rw [Option.map_eq_some_iff] at h
      obtain ⟨c2, hc2, hc3⟩ := h
      cases hc3
      exact cf_move_ok hB (cr_ok hB n hr) hc2
end CB
/-- one picture: its tick, part, turn, doubt -/
def fl_one (ld dg : Nat → Int) (pa jo : Nat) (wa sr push : Int) (ms : Nat → Int) (len : Nat) (turn a b c d : Int) : Bool := match (if a ≤ (len : Int) then cr_run ld dg pa jo wa sr push ms a.toNat else none) with
  | some q => decide (sp_off (turn + q.2 + cf_bto dg q.1 b) c ≤ d)
  | none => false
def fl_all (ld dg : Nat → Int) (pa jo : Nat) (wa sr push : Int) (ms : Nat → Int) (len : Nat) (fi : Nat → Int) (turn : Int) : Nat → Bool
  | 0 => true
  | n + 1 => fl_all ld dg pa jo wa sr push ms len fi turn n && fl_one ld dg pa jo wa sr push ms len turn (fi (4 * n)) (fi (4 * n + 1)) (fi (4 * n + 2)) (fi (4 * n + 3))
theorem fl_all_no {ld dg : Nat → Int} {pa jo : Nat} {wa sr push : Int} {ms : Nat → Int} {len : Nat} {fi : Nat → Int} {turn : Int} {m : Nat} (h : fl_one ld dg pa jo wa sr push ms len turn (fi (4 * m)) (fi (4 * m + 1)) (fi (4 * m + 2)) (fi (4 * m + 3)) = false) : ∀ n, m < n → ¬ fl_all ld dg pa jo wa sr push ms len fi turn n = true
  | 0, hn => absurd hn (Nat.not_lt_zero _)
  | n + 1, hn => by
    show ¬ (fl_all ld dg pa jo wa sr push ms len fi turn n && fl_one ld dg pa jo wa sr push ms len turn (fi (4 * n)) (fi (4 * n + 1)) (fi (4 * n + 2)) (fi (4 * n + 3))) = true
    by_cases e : m = n
    · subst e
      rw [h]
      simp
    · have := fl_all_no h n (by omega)
      simp [this]
theorem sm_sp_off {a b : Int} (ha : 0 ≤ a ∧ a ≤ 359) (hb : 0 ≤ b ∧ b ≤ 359) (x : Int) (e : x % 360 = a) : sm_off a b = sp_off x b := by
  unfold sm_off sp_off
  repeat' split
  all_goals omega
/-- the first of a kind; how many -/
def ft_is (P : Nat → Bool) (n : Nat) (r : Int) : Prop := (∃ t : Nat, t < n ∧ P t = true ∧ (∀ t', t' < t → P t' = false) ∧ r = (t : Int)) ∨ ((∀ t, t < n → P t = false) ∧ r = -4)
theorem ft_u {P : Nat → Bool} {n : Nat} {r r' : Int} (h : ft_is P n r) (h' : ft_is P n r') : r = r' := by
  rcases h with ⟨t, t1, t2, t3, t4⟩ | ⟨t1, t2⟩ <;> rcases h' with ⟨u, u1, u2, u3, u4⟩ | ⟨u1, u2⟩
  · by_cases e : t < u
    · have := u3 t e
      rw [t2] at this
      cases this
    · by_cases e2 : u < t
      · have := t3 u e2
        rw [u2] at this
        cases this
      · omega
  · have := u1 t t1
    rw [t2] at this
    cases this
  · have := t1 u u1
    rw [u2] at this
    cases this
  · omega
def ct_n (P : Nat → Bool) : Nat → Nat
  | 0 => 0
  | n + 1 => ct_n P n + (if P n = true then 1 else 0)
theorem ct_le (P : Nat → Bool) : ∀ n, ct_n P n ≤ n
  | 0 => Nat.le_refl _
  | n + 1 => by
    have := ct_le P n
    show ct_n P n + (if P n = true then 1 else 0) ≤ n + 1
    split <;> omega
/-- counted from the end -/
def ct_d (P : Nat → Bool) (n : Nat) : Nat → Nat
  | 0 => 0
  | m + 1 => ct_d P n m + (if P (n - 1 - m) = true then 1 else 0)
theorem ct_split (P : Nat → Bool) : ∀ (n m : Nat), ct_n P (n + m) = ct_n P n + ct_n (fun i => P (n + i)) m
  | n, 0 => rfl
  | n, m + 1 => by
    show ct_n P (n + m) + (if P (n + m) = true then 1 else 0) = ct_n P n + (ct_n (fun i => P (n + i)) m + (if P (n + m) = true then 1 else 0))
    rw [ct_split P n m]
    omega
theorem ct_d_eq (P : Nat → Bool) (n : Nat) : ∀ m, m ≤ n → ct_n P (n - m) + ct_d P n m = ct_n P n
  | 0, _ => rfl
  | m + 1, h => by
    have ih := ct_d_eq P n m (by omega)
    have e : n - m = n - (m + 1) + 1 := by omega
    rw [e] at ih
    have ih : ct_n P (n - (m + 1)) + (if P (n - (m + 1)) = true then 1 else 0) + ct_d P n m = ct_n P n := ih
    show ct_n P (n - (m + 1)) + (ct_d P n m + (if P (n - 1 - m) = true then 1 else 0)) = ct_n P n
    rw [show n - 1 - m = n - (m + 1) by omega]
    omega
theorem ct_ext {P P' : Nat → Bool} : ∀ n, (∀ i, i < n → P i = P' i) → ct_n P n = ct_n P' n
  | 0, _ => rfl
  | n + 1, h => by
    show ct_n P n + (if P n = true then 1 else 0) = ct_n P' n + (if P' n = true then 1 else 0)
    rw [ct_ext n (fun i hi => h i (by omega)), h n (by omega)]
