/-! the search within the taking of one state -/
theorem kc_next {pa jo : Nat} {wa sr sj n : Int} {mb i : Nat} (hi : kc pa jo wa sr sj n mb = i) (h : i < kc pa jo wa sr sj n 19) : ∃ m c', mb ≤ m ∧ m ≤ 18 ∧ kmv pa jo wa sr sj n m = some c' ∧ kc pa jo wa sr sj n m = i ∧ ∀ m', mb ≤ m' → m' < m → kmv pa jo wa sr sj n m' = none := by
  obtain ⟨m, c', h1, h2, h3⟩ := kc_at (pa := pa) (jo := jo) (wa := wa) (sr := sr) (sj := sj) (n := n) 19 h
  have hm : mb ≤ m := by
    by_cases q : m < mb
    · exfalso
      have k1 := kc_y h2
      have k2 := (kc_le (pa := pa) (jo := jo) (wa := wa) (sr := sr) (sj := sj) n (m + 1) (mb - (m + 1))).1
      rw [show m + 1 + (mb - (m + 1)) = mb by omega] at k2
      omega
    · omega
  refine ⟨m, c', hm, by omega, h2, h3, fun m' m1 m2 => ?_⟩
  cases e : kmv pa jo wa sr sj n m' with
  | none => rfl
  | some c1 =>
    exfalso
    have k1 := kc_y e
    have k2 := (kc_le (pa := pa) (jo := jo) (wa := wa) (sr := sr) (sj := sj) n (m' + 1) (m - (m' + 1))).1
    rw [show m' + 1 + (m - (m' + 1)) = m by omega] at k2
    have k3 := (kc_le (pa := pa) (jo := jo) (wa := wa) (sr := sr) (sj := sj) n mb (m' - mb)).1
    rw [show mb + (m' - mb) = m' by omega] at k3
    omega
theorem kc_last {pa jo : Nat} {wa sr sj n : Int} {mb : Nat} (h : ¬ kc pa jo wa sr sj n mb < kc pa jo wa sr sj n 19) (m : Nat) (hm : mb ≤ m) : kmv pa jo wa sr sj n m = none := by
  cases e : kmv pa jo wa sr sj n m with
  | none => rfl
  | some c1 =>
    exfalso
    have k1 := kc_10 e
    have k3 := (kc_le (pa := pa) (jo := jo) (wa := wa) (sr := sr) (sj := sj) n mb (m - mb)).1
    rw [show mb + (m - mb) = m by omega] at k3
    omega
def eI (ld dg : Nat → Int) (pa jo : Nat) (wa sr pu ri sj : Int) (lk tk en : Nat → Int) (la lo ti : Int) (Q P M D : Nat → Nat) (n k mb : Nat) : Prop :=
  qI (knx ld dg pa jo wa sr pu sj) (kx pa jo wa sr sj (cf_rest pa) 0) (360 * kN pa jo wa sr sj).toNat Q P M D n k mb ∧ sL (360 * kN pa jo wa sr sj).toNat lk Q P n ∧ sA pa jo wa sr ri sj tk en Q D n ∧ (∀ c, c < n → D c ≤ 200) ∧ la = ((Q (n - 1) : Nat) : Int) ∧ k < n ∧ ((D k : Nat) : Int) = ti ∧ (0 ≤ ti ∧ ti < 200) ∧ ∃ e, e < n ∧ k ≤ e ∧ lo = ((Q e : Nat) : Int) ∧ ((D e : Nat) : Int) = ti ∧ ∀ i, e < i → i < n → ((D i : Nat) : Int) = ti + 1
section EI
variable {ld dg : Nat → Int} {pa jo : Nat} {wa sr pu ri sj : Int} {lk tk en : Nat → Int} {op fi la lo ti an : Int} {Q P M D : Nat → Nat} {n k mb : Nat}
theorem eI_of (h : sI ld dg pa jo wa sr pu ri sj lk tk en op fi la lo ti an Q P M D n k) (ho : op = 1) : eI ld dg pa jo wa sr pu ri sj lk tk en la lo ti Q P M D n k 0 ∧ fi = ((Q k : Nat) : Int) ∧ an = ((sC tk : Nat) : Int) := by
  obtain ⟨h1, h2, h3, h4, h5, h6, h7, h8, h9⟩ := h
  rcases h9 with ⟨-, o2, o3, o4, o5, o6⟩ | ⟨o1, -⟩
  · exact ⟨⟨h1, h2, h3, h4, h5, o2, o4, ⟨by omega, o5⟩, o6⟩, o3, h6⟩
  · omega
theorem qI_P (h : qI (knx ld dg pa jo wa sr pu sj) (kx pa jo wa sr sj (cf_rest pa) 0) (360 * kN pa jo wa sr sj).toNat Q P M D n k mb) (hP : P 0 < n) {i : Nat} (hi : i < n) : P i < n := by
  by_cases e : i = 0
  · subst e; exact hP
  · have := (h.2.2.2.1 i (by omega) hi).1
    omega
theorem knx_none {x m : Nat} (h : kmv pa jo wa sr sj ((x / 360 : Nat) : Int) m = none) : knx ld dg pa jo wa sr pu sj x m = none := by
  unfold knx
  rw [h]
  rfl
theorem knx_some {x m : Nat} {c' : xCf} (h : kmv pa jo wa sr sj ((x / 360 : Nat) : Int) m = some c') : knx ld dg pa jo wa sr pu sj x m = some (kx pa jo wa sr sj c' ((((x % 360 : Nat) : Int) + cf_turn ld dg pa pu c' (m : Int)) % 360)) := by
  unfold knx
  rw [h]
  rfl
theorem eI_skip (h : eI ld dg pa jo wa sr pu ri sj lk tk en la lo ti Q P M D n k mb) {m : Nat} (hm : mb ≤ m) (hn : ∀ m', mb ≤ m' → m' < m → kmv pa jo wa sr sj ((Q k / 360 : Nat) : Int) m' = none) : eI ld dg pa jo wa sr pu ri sj lk tk en la lo ti Q P M D n k m := by
  obtain ⟨h1, h2⟩ := h
  refine ⟨?_, h2⟩
  have r := qI_nones h1 (m - mb) (fun m' m1 m2 => knx_none (hn m' m1 (by omega)))
  rw [show mb + (m - mb) = m by omega] at r
  exact r
theorem lk_pos (hL : sL (360 * kN pa jo wa sr sj).toNat lk Q P n) {b : Nat} (hb : b < n) : 0 ≤ lk (Q b) := by
  have := hL.1 b hb
  split at this <;> omega
theorem eI_old (h : eI ld dg pa jo wa sr pu ri sj lk tk en la lo ti Q P M D n k mb) {c' : xCf} (hm : kmv pa jo wa sr sj ((Q k / 360 : Nat) : Int) mb = some c') {y : Nat} (hy : y = kx pa jo wa sr sj c' ((((Q k % 360 : Nat) : Int) + cf_turn ld dg pa pu c' (mb : Int)) % 360)) (hyN : y < (360 * kN pa jo wa sr sj).toNat) (hl : lk y ≠ -1) : eI ld dg pa jo wa sr pu ri sj lk tk en la lo ti Q P M D n k (mb + 1) := by
  obtain ⟨h1, h2⟩ := h
  refine ⟨qI_old h1 (fun z hz => ?_), h2⟩
  rw [knx_some hm, ← hy] at hz
  cases hz
  by_cases q : ∃ b, b < n ∧ Q b = y
  · exact q
  · exact absurd (h2.1.2 y hyN (fun i hi e => q ⟨i, hi, e⟩)) hl
theorem eI_fresh (h : eI ld dg pa jo wa sr pu ri sj lk tk en la lo ti Q P M D n k mb) {y : Nat} (hl : lk y = -1) : ∀ b, b < n → Q b ≠ y := fun b hb e => by
  have := lk_pos h.2.1 hb
  rw [e] at this
  omega
theorem eI_new (h : eI ld dg pa jo wa sr pu ri sj lk tk en la lo ti Q P M D n k mb) (hP : P 0 < n) {c' : xCf} (hm : kmv pa jo wa sr sj ((Q k / 360 : Nat) : Int) mb = some c') {y : Nat} (hy : y = kx pa jo wa sr sj c' ((((Q k % 360 : Nat) : Int) + cf_turn ld dg pa pu c' (mb : Int)) % 360)) (hyN : y < (360 * kN pa jo wa sr sj).toNat) (hl : lk y = -1) {tk' en' : Nat → Int}
    (ha : ∀ t : Nat, t < 360 → ((tk t = -1 ∧ kans pa jo wa sr ri sj (t : Int) y) → tk' t = ti + 1 ∧ en' t = (y : Int)) ∧ (¬ (tk t = -1 ∧ kans pa jo wa sr ri sj (t : Int) y) → tk' t = tk t ∧ en' t = en t)) :
    lk (Q (n - 1)) = ((Q (P (n - 1)) / 360 : Nat) : Int) * 1048576 + 1048575 ∧ eI ld dg pa jo wa sr pu ri sj (xa_upf (xa_upf lk y (((Q k / 360 : Nat) : Int) * 1048576 + 1048575)) (Q (n - 1)) (((Q (P (n - 1)) / 360 : Nat) : Int) * 1048576 + ((y : Nat) : Int))) tk' en' ((y : Nat) : Int) lo ti (qup Q n y) (qup P n k) (qup M n mb) (qup D n (D k + 1)) (n + 1) k (mb + 1) := by
  have hf := eI_fresh h hl
  obtain ⟨h1, h2, h3, h4, h5, h6, h7, h8, e, e1, e2, e3, e4, e5⟩ := h
  have hn1 := h1.1.1
  obtain ⟨s1, s2⟩ := sL_new h2 hn1 hf h6 rfl h1.2.2.1 (fun i hi => qI_P h1 hP hi)
  refine ⟨s1, qI_new h1 h6 (by rw [knx_some hm, ← hy]) hyN hf, s2, sA_new h3 (fun t ht => ?_), fun c hc => ?_, ?_, by omega, ?_, h8, e, by omega, e2, ?_, ?_, fun i i1 i2 => ?_⟩
  · have z := ha t ht
    have e : ((D k + 1 : Nat) : Int) = ti + 1 := by omega
    rw [e]
    exact z
  · by_cases z : c = n
    · subst z; rw [qup_at]; omega
    · rw [qup_ne _ _ z]; exact h4 c (by omega)
  · rw [show n + 1 - 1 = n by omega, qup_at]
  · rw [qup_ne _ _ (by omega)]; exact h7
  · rw [qup_ne _ _ (by omega)]; exact e3
  · rw [qup_ne _ _ (by omega)]; exact e4
  · by_cases z : i = n
    · subst z; rw [qup_at]; omega
    · rw [qup_ne _ _ z]; exact e5 i i1 (by omega)
/-- a state is taken: what is next -/
theorem eI_end (h : eI ld dg pa jo wa sr pu ri sj lk tk en la lo ti Q P M D n k mb) (hno : ∀ m, mb ≤ m → kmv pa jo wa sr sj ((Q k / 360 : Nat) : Int) m = none) {op' fi' lo' ti' : Int} {z : Nat} (hz : k + 1 < n → z = Q (k + 1))
    (h1 : (((Q k : Nat) : Int) = lo ∧ ti' = ti + 1 ∧ lo' = la) ∨ (¬ ((Q k : Nat) : Int) = lo ∧ ti' = ti ∧ lo' = lo)) (h2 : ((((Q k : Nat) : Int) = la ∨ 200 ≤ ti' ∨ 360 ≤ ((sC tk : Nat) : Int)) ∧ op' = 0) ∨ (¬ (((Q k : Nat) : Int) = la ∨ 200 ≤ ti' ∨ 360 ≤ ((sC tk : Nat) : Int)) ∧ op' = 1 ∧ fi' = ((z : Nat) : Int))) :
    sI ld dg pa jo wa sr pu ri sj lk tk en op' fi' la lo' ti' ((sC tk : Nat) : Int) Q P M D n (k + 1) := by
  obtain ⟨g1, g2, g3, g4, g5, g6, g7, g8, e, e1, e2, e3, e4, e5⟩ := h
  have hq := qI_next g1 g6 (fun m hm => knx_none (hno m hm))
  have inj : ∀ i j, i < n → j < n → Q i = Q j → i = j := fun i j i1 j1 q => by
    by_cases a : i < j
    · exact absurd q (g1.2.2.1 i j a j1)
    by_cases b : j < i
    · exact absurd q.symm (g1.2.2.1 j i b i1)
    · omega
  have hmono := qI_mono hq
  have hek : ((Q k : Nat) : Int) = lo ↔ k = e := by
    rw [e3]
    constructor
    · intro q; exact inj k e g6 e1 (by omega)
    · intro q; rw [q]
  have hlast : ((Q k : Nat) : Int) = la ↔ k = n - 1 := by
    rw [g5]
    constructor
    · intro q; exact inj k (n - 1) g6 (by omega) (by omega)
    · intro q; rw [← q]
  have hct := ct_le (fun t => decide (tk t ≠ -1)) 360
  have hct' : sC tk ≤ 360 := hct
  have hlt : ∀ c, c < n → ((D c : Nat) : Int) < ti' → c < k + 1 := by
    intro c c1 c2
    by_cases q : c ≤ k
    · omega
    · exfalso
      have m1 := hmono c k (by omega) c1
      rcases h1 with ⟨a1, a2, a3⟩ | ⟨a1, a2, a3⟩
      · have := hek.mp a1
        have := e5 c (by omega) c1
        omega
      · omega
  refine ⟨hq, g2, g3, g4, g5, rfl, hlt, ⟨by omega, by omega⟩, ?_⟩
  rcases h2 with ⟨b1, b2⟩ | ⟨b1, b2, b3⟩
  · refine Or.inr ⟨b2, ?_⟩
    rcases b1 with b1 | b1 | b1
    · have := hlast.mp b1
      exact Or.inl (by omega)
    · exact Or.inr (Or.inl (by omega))
    · exact Or.inr (Or.inr (by omega))
  · have c1 : ¬ k = n - 1 := fun q => b1 (Or.inl (hlast.mpr q))
    have c2 : k + 1 < n := by omega
    refine Or.inl ⟨b2, c2, by rw [b3, hz c2], ?_, by omega, ?_⟩
    · rcases h1 with ⟨a1, a2, a3⟩ | ⟨a1, a2, a3⟩
      · have := hek.mp a1
        have := e5 (k + 1) (by omega) c2
        omega
      · have hne : k ≠ e := fun q => a1 (hek.mpr q)
        have m1 := hmono (k + 1) k (by omega) c2
        have m2 := hmono e (k + 1) (by omega) e1
        omega
    · rcases h1 with ⟨a1, a2, a3⟩ | ⟨a1, a2, a3⟩
      · have := hek.mp a1
        have d1 := e5 (n - 1) (by omega) (by omega)
        exact ⟨n - 1, by omega, by omega, by rw [a3, g5], by omega, fun i i1 i2 => by omega⟩
      · have hne : k ≠ e := fun q => a1 (hek.mpr q)
        exact ⟨e, e1, by omega, by rw [a3, e3], by omega, fun i i1 i2 => by rw [a2]; exact e5 i i1 i2⟩
end EI
