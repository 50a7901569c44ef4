/-! what the calls over ways answer, for both sides -/
def wy (f : Nat → Int) (w : Int) : Nat → Int := fun i => f (60 * w.toNat + i)
def an_turn (ld dg : Nat → Int) (pa jo : Nat) (wa sr pu : Int) (ms : Nat → Int) (len : Nat) (turn : Int) (t : Nat) (p r : Int) : Prop := (t ≤ len ∧ ∃ c u, cr_run ld dg pa jo wa sr pu ms t = some (c, u) ∧ r = (turn + u + cf_bto dg c p) % 360) ∨ ((t ≤ len → cr_run ld dg pa jo wa sr pu ms t = none) ∧ r = -4)
def sq_turn (ld dg : Nat → Int) (pa jo : Nat) (wa sr pu : Int) (mvs les : Nat → Int) (w turn t p r : Int) : Prop := (¬ ((0 ≤ w ∧ w ≤ 3) ∧ (0 ≤ turn ∧ turn ≤ 359) ∧ (0 ≤ t ∧ t ≤ 60) ∧ (0 ≤ p ∧ p ≤ (pa : Int) - 1)) ∧ r = -1) ∨ (((0 ≤ w ∧ w ≤ 3) ∧ (0 ≤ turn ∧ turn ≤ 359) ∧ (0 ≤ t ∧ t ≤ 60) ∧ (0 ≤ p ∧ p ≤ (pa : Int) - 1)) ∧ an_turn ld dg pa jo wa sr pu (wy mvs w) (les w.toNat).toNat turn t.toNat p r)
def sq_run (ld dg : Nat → Int) (pa jo : Nat) (wa sr pu : Int) (mvs les : Nat → Int) (w q r : Int) : Prop := (¬ ((0 ≤ w ∧ w ≤ 3) ∧ (0 ≤ q ∧ q ≤ 3)) ∧ r = -1) ∨ (((0 ≤ w ∧ w ≤ 3) ∧ (0 ≤ q ∧ q ≤ 3)) ∧ ∃ m c u, cr_done ld dg pa jo wa sr pu (wy mvs w) (les w.toNat).toNat m c u ∧ r = if q = 0 then (m : Int) else if q = 1 then xa_b (m = (les w.toNat).toNat) else if q = 2 then xa_b (m = (les w.toNat).toNat ∧ c = cf_rest pa) else xa_b (c.2.2.2.1 = 0 ∧ c.2.2.2.2 = 0))
def sq_spun (ld dg : Nat → Int) (pa jo : Nat) (wa sr pu : Int) (mvs les : Nat → Int) (w r : Int) : Prop := (¬ (0 ≤ w ∧ w ≤ 3) ∧ r = -1) ∨ ((0 ≤ w ∧ w ≤ 3) ∧ ∃ m c u, cr_done ld dg pa jo wa sr pu (wy mvs w) (les w.toNat).toNat m c u ∧ r = u % 360)
def sq_times (ld dg : Nat → Int) (pa jo : Nat) (wa sr pu : Int) (mvs les : Nat → Int) (w n r : Int) : Prop := (¬ ((0 ≤ w ∧ w ≤ 3) ∧ (1 ≤ n ∧ n ≤ 1000)) ∧ r = -1) ∨ (((0 ≤ w ∧ w ≤ 3) ∧ (1 ≤ n ∧ n ≤ 1000)) ∧ ∃ m c u, cr_done ld dg pa jo wa sr pu (wy mvs w) (les w.toNat).toNat m c u ∧ r = if m = (les w.toNat).toNat ∧ c = cf_rest pa then (u % 360 * n) % 360 else -2)
def fl_P (ld dg : Nat → Int) (pa jo : Nat) (wa sr push : Int) (mvs les : Nat → Int) (w : Int) (fi : Nat → Int) (pc : Nat) (turn : Int) : Bool := fl_all ld dg pa jo wa sr push (wy mvs w) (les w.toNat).toNat fi turn pc
def sq_may (ld dg : Nat → Int) (pa jo : Nat) (wa sr pu : Int) (mvs les : Nat → Int) (fi : Nat → Int) (pc : Nat) (w turn r : Int) : Prop := (¬ ((0 ≤ w ∧ w ≤ 3) ∧ (0 ≤ turn ∧ turn ≤ 359)) ∧ r = -1) ∨ (((0 ≤ w ∧ w ≤ 3) ∧ (0 ≤ turn ∧ turn ≤ 359)) ∧ r = xa_b (fl_P ld dg pa jo wa sr pu mvs les w fi pc turn = true))
def sq_looked (ld dg : Nat → Int) (pa jo : Nat) (wa sr pu : Int) (mvs les : Nat → Int) (fi : Nat → Int) (pc : Nat) (w q r : Int) : Prop := (¬ ((0 ≤ w ∧ w ≤ 3) ∧ (0 ≤ q ∧ q ≤ 1)) ∧ r = -1) ∨ (((0 ≤ w ∧ w ≤ 3) ∧ (0 ≤ q ∧ q ≤ 1)) ∧ (if q = 0 then r = (ct_n (fun t => fl_P ld dg pa jo wa sr pu mvs les w fi pc (t : Int)) 360 : Int) else ft_is (fun t => fl_P ld dg pa jo wa sr pu mvs les w fi pc (t : Int)) 360 r))
/-- the one nearest 0, of two the lower, of a kind of numbers from -m to m -/
def nr_is (P : Int → Bool) (m : Int) (r : Int) : Prop := (∃ l : Int, (-m ≤ l ∧ l ≤ m) ∧ P l = true ∧ (∀ l' : Int, (-m ≤ l' ∧ l' ≤ m) → P l' = true → l.natAbs < l'.natAbs ∨ l.natAbs = l'.natAbs ∧ l ≤ l') ∧ r = l) ∨ ((∀ l : Int, (-m ≤ l ∧ l ≤ m) → P l = false) ∧ r = -10004)
def sq_pushed (ld dg : Nat → Int) (pa jo : Nat) (wa sr : Int) (mvs les : Nat → Int) (fi : Nat → Int) (pc : Nat) (w turn m q r : Int) : Prop := (¬ ((0 ≤ w ∧ w ≤ 3) ∧ (0 ≤ turn ∧ turn ≤ 359) ∧ (0 ≤ m ∧ m ≤ 200) ∧ (0 ≤ q ∧ q ≤ 1)) ∧ r = -10001) ∨ (((0 ≤ w ∧ w ≤ 3) ∧ (0 ≤ turn ∧ turn ≤ 359) ∧ (0 ≤ m ∧ m ≤ 200) ∧ (0 ≤ q ∧ q ≤ 1)) ∧ (if q = 0 then r = (ct_n (fun i => fl_P ld dg pa jo wa sr ((i : Int) - m) mvs les w fi pc turn) (2 * m + 1).toNat : Int) else nr_is (fun l => fl_P ld dg pa jo wa sr l mvs les w fi pc turn) m r))
theorem nr_u {P : Int → Bool} {m r r' : Int} (h : nr_is P m r) (h' : nr_is P m r') : r = r' := by
  rcases h with ⟨l, a1, a2, a3, a4⟩ | ⟨a1, a2⟩ <;> rcases h' with ⟨l', b1, b2, b3, b4⟩ | ⟨b1, b2⟩
  · have c1 := a3 l' b1 b2
    have c2 := b3 l a1 a2
    omega
  · have := b1 l a1
    rw [a2] at this
    cases this
  · have := a1 l' b1
    rw [b2] at this
    cases this
  · omega
/-- a way from a turn ends straight and right -/
def hd_B (ld dg : Nat → Int) (pa jo : Nat) (wa sr pu ri : Int) (ms : Nat → Int) (len : Nat) (from_ : Int) : Bool := match cr_run ld dg pa jo wa sr pu ms len with
  | some q => decide ((q.1.2.2.2.1 = 0 ∧ q.1.2.2.2.2 = 0) ∧ sp_off (from_ + q.2) 0 ≤ ri)
  | none => false
def hd_ok (ld dg : Nat → Int) (pa jo : Nat) (wa sr pu ri : Int) (ms : Nat → Int) (len : Nat) (from_ : Int) : Prop := hd_B ld dg pa jo wa sr pu ri ms len from_ = true
def hd_any (ld dg : Nat → Int) (pa jo : Nat) (wa sr pu ri : Int) (mvs les : Nat → Int) (from_ : Int) : Bool := hd_B ld dg pa jo wa sr pu ri (wy mvs 0) (les 0).toNat from_ || hd_B ld dg pa jo wa sr pu ri (wy mvs 1) (les 1).toNat from_ || hd_B ld dg pa jo wa sr pu ri (wy mvs 2) (les 2).toNat from_ || hd_B ld dg pa jo wa sr pu ri (wy mvs 3) (les 3).toNat from_
def an_head (ld dg : Nat → Int) (pa jo : Nat) (wa sr pu ri : Int) (mvs les : Nat → Int) (from_ r : Int) : Prop := (∃ w : Nat, w < 4 ∧ hd_ok ld dg pa jo wa sr pu ri (wy mvs w) (les w).toNat from_ ∧ (∀ w' : Nat, w' < w → ¬ hd_ok ld dg pa jo wa sr pu ri (wy mvs w') (les w').toNat from_) ∧ r = (w : Int)) ∨ ((∀ w : Nat, w < 4 → ¬ hd_ok ld dg pa jo wa sr pu ri (wy mvs w) (les w).toNat from_) ∧ r = -4)
theorem an_head_u {ld dg : Nat → Int} {pa jo : Nat} {wa sr pu ri : Int} {mvs les : Nat → Int} {f r r' : Int} (h : an_head ld dg pa jo wa sr pu ri mvs les f r) (h' : an_head ld dg pa jo wa sr pu ri mvs les f r') : r = r' := by
  rcases h with ⟨w, a1, a2, a3, a4⟩ | ⟨a1, a2⟩ <;> rcases h' with ⟨v, b1, b2, b3, b4⟩ | ⟨b1, b2⟩
  · by_cases e : w < v
    · exact absurd a2 (b3 w e)
    · by_cases e2 : v < w
      · exact absurd b2 (a3 v e2)
      · omega
  · exact absurd a2 (b1 w a1)
  · exact absurd b2 (a1 v b1)
  · omega
/-- late by n ticks: how much part 0 has turned then -/
def hd_late (ld : Nat → Int) (pa : Nat) (pu n : Int) : Int := n * pu.tdiv (cf_all ld pa (cf_rest pa))
def sq_head (ld dg : Nat → Int) (pa jo : Nat) (wa sr pu ri : Int) (mvs les : Nat → Int) (turn n r : Int) : Prop := (¬ ((0 ≤ turn ∧ turn ≤ 359) ∧ (0 ≤ n ∧ n ≤ 60)) ∧ r = -1) ∨ (((0 ≤ turn ∧ turn ≤ 359) ∧ (0 ≤ n ∧ n ≤ 60)) ∧ an_head ld dg pa jo wa sr pu ri mvs les (turn + hd_late ld pa pu n) r)
def sq_down (ld dg : Nat → Int) (pa jo : Nat) (wa sr pu ri : Int) (mvs les : Nat → Int) (n r : Int) : Prop := (¬ (0 ≤ n ∧ n ≤ 60) ∧ r = -1) ∨ ((0 ≤ n ∧ n ≤ 60) ∧ r = (ct_n (fun t => hd_any ld dg pa jo wa sr pu ri mvs les ((t : Int) + hd_late ld pa pu n)) 360 : Int))
theorem an_head_any {ld dg : Nat → Int} {pa jo : Nat} {wa sr pu ri : Int} {mvs les : Nat → Int} {f r : Int} (h : an_head ld dg pa jo wa sr pu ri mvs les f r) : hd_any ld dg pa jo wa sr pu ri mvs les f = true ↔ r ≠ -4 := by
  unfold hd_any
  rw [Bool.or_eq_true, Bool.or_eq_true, Bool.or_eq_true]
  rcases h with ⟨w, a1, a2, a3, a4⟩ | ⟨a1, a2⟩
  · constructor
    · intro _; omega
    · intro _
      rcases (show w = 0 ∨ w = 1 ∨ w = 2 ∨ w = 3 by omega) with rfl | rfl | rfl | rfl
      · exact Or.inl (Or.inl (Or.inl a2))
      · exact Or.inl (Or.inl (Or.inr a2))
      · exact Or.inl (Or.inr a2)
      · exact Or.inr a2
  · constructor
    · rintro (((z | z) | z) | z)
      · exact absurd z (a1 0 (by decide))
      · exact absurd z (a1 1 (by decide))
      · exact absurd z (a1 2 (by decide))
      · exact absurd z (a1 3 (by decide))
    · intro z; exact absurd a2 z
section SQ
variable {ld dg : Nat → Int} {pa jo : Nat} {wa sr pu ri : Int} {mvs les mvs' les' fi fi' : Nat → Int} {pc : Nat}
theorem cr_ext {ms ms' : Nat → Int} : ∀ n, (∀ i, i < n → ms i = ms' i) → cr_run ld dg pa jo wa sr pu ms n = cr_run ld dg pa jo wa sr pu ms' n
  | 0, _ => rfl
  | n + 1, h => by
    show (cr_run ld dg pa jo wa sr pu ms n).bind _ = (cr_run ld dg pa jo wa sr pu ms' n).bind _
    rw [cr_ext n (fun i hi => h i (by omega)), h n (by omega)]
theorem an_turn_u {ms : Nat → Int} {len t : Nat} {turn p r r' : Int} (h : an_turn ld dg pa jo wa sr pu ms len turn t p r) (h' : an_turn ld dg pa jo wa sr pu ms len turn t p r') : r = r' := by
  rcases h with ⟨a1, c, u, a2, a3⟩ | ⟨a1, a2⟩ <;> rcases h' with ⟨b1, c', u', b2, b3⟩ | ⟨b1, b2⟩
  · cases a2.symm.trans b2
    omega
  · cases a2.symm.trans (b1 a1)
  · cases b2.symm.trans (a1 b1)
  · omega
end SQ
