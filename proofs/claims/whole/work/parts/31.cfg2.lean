/-! what a move makes of the class's rows, as a configuration -/
section CF3
variable {ld dg : Nat → Int} {pa jo : Nat} {wa sr pu ri : Int}
theorem cf_stepc (h : vB ld dg pa jo wa sr pu ri) {po sp : Nat → Int} {tj tb : Int} (j : Nat) (hj2 : j < 2) (b : Int) : sp_step dg jo wa sr (po, sp, tj, tb) (j : Int) b = if j < jo then (cf_step wa sr j (sp j) b).map (fun s' => (po, xa_upf sp j s', (j : Int), b * sp_dg dg (j : Int))) else none := by
  have hw := h.wag
  unfold sp_step cf_step sp_nstep
  dsimp only
  rw [Int.toNat_natCast]
  by_cases hj : j < jo
  · rw [if_pos hj]
    by_cases e : (j : Int) = wa
    · rw [if_pos e, if_pos ⟨⟨⟨by omega, by omega⟩, by omega⟩, Or.inl e⟩, if_pos e, show max sr 1 = sr by omega]
      rfl
    · rw [if_neg e, if_neg e]
      by_cases e2 : -2 ≤ sp j + b ∧ sp j + b ≤ 2
      · rw [if_pos e2, if_pos ⟨⟨⟨by omega, by omega⟩, by omega⟩, Or.inr e2⟩]
        rfl
      · rw [if_neg e2, if_neg (fun q => q.2.elim e e2)]
        rfl
  · rw [if_neg hj, if_neg (fun q => hj (by have := q.1.2; omega))]
theorem cf_make1 (h : vB ld dg pa jo wa sr pu ri) {c : xCf} {po sp : Nat → Int} {tj tb : Int} (hc : cf_ok pa jo wa sr c) (ha : cf_as pa c po sp) (j : Nat) (hj2 : j < 2) (b mv : Int) (hb : b = 1 ∨ b = -1)
    (hm : sp_make dg pa jo wa sr (po, sp, tj, tb) mv = sp_step dg jo wa sr (po, sp, tj, tb) (j : Int) b)
    (hcm : cf_move pa jo wa sr c mv = if j < jo then (cf_step wa sr j (sp j) b).map (fun s => if j = 0 then (c.1, c.2.1, c.2.2.1, s, c.2.2.2.2) else (c.1, c.2.1, c.2.2.1, c.2.2.2.1, s)) else none)
    (hbe : ∀ c', cf_bend ld dg pa c' mv = (b * dg j * cf_beh ld pa c' j).tdiv (cf_all ld pa c')) :
    (∀ t, sp_make dg pa jo wa sr (po, sp, tj, tb) mv = some t → ∃ c', cf_move pa jo wa sr c mv = some c' ∧ cf_as pa c' t.1 t.2.1 ∧ sp_last ld t.1 pa t.2.2.1 t.2.2.2 = -cf_bend ld dg pa c' mv) ∧ (sp_make dg pa jo wa sr (po, sp, tj, tb) mv = none → cf_move pa jo wa sr c mv = none) := by
  have h0 := h.1
  rw [hm, cf_stepc h j hj2]
  by_cases hj : j < jo
  · rw [if_pos hj] at hcm ⊢
    cases hs : cf_step wa sr j (sp j) b with
    | none =>
      rw [hs] at hcm
      exact ⟨fun t ht => (by cases ht), fun _ => hcm⟩
    | some s' =>
      rw [hs] at hcm
      refine ⟨fun t ht => ?_, fun ht => by cases ht⟩
      cases ht
      refine ⟨_, hcm, ?_⟩
      have hok := cf_move_ok h hc hcm
      obtain ⟨a1, a2, a3, a4, a5⟩ := ha
      have has : cf_as pa (if j = 0 then (c.1, c.2.1, c.2.2.1, s', c.2.2.2.2) else (c.1, c.2.1, c.2.2.1, c.2.2.2.1, s')) po (xa_upf sp j s') := by
        rcases (show j = 0 ∨ j = 1 by omega) with rfl | rfl
        · exact ⟨a1, a2, a3, xa_upf_at _ _ _, (xa_upf_ne _ _ (by decide)).trans a5⟩
        · exact ⟨a1, a2, a3, (xa_upf_ne _ _ (by decide)).trans a4, xa_upf_at _ _ _⟩
      refine ⟨has, ?_⟩
      obtain ⟨f0, f1, f2⟩ := cf_from h hok has
      rw [hbe, ← f0]
      show sp_last ld po pa (j : Int) (b * sp_dg dg (j : Int)) = _
      rw [cf_last b hb j (h.2.2.2.2.1 j hj) hj2 rfl rfl]
      rcases (show j = 0 ∨ j = 1 by omega) with rfl | rfl
      · exact congrArg (fun z => -((b * dg 0 * z).tdiv (sp_from ld po pa 0))) f1
      · exact congrArg (fun z => -((b * dg 1 * z).tdiv (sp_from ld po pa 0))) f2
  · rw [if_neg hj] at hcm ⊢
    exact ⟨fun t ht => (by cases ht), fun _ => hcm⟩
theorem sp_make_pose {t : xSt} (k : Nat) (q : Int) (hq : 0 ≤ q ∧ q ≤ 2) (hk : k < 3) : sp_make dg pa jo wa sr t (10 + 3 * (k : Int) + q) = sp_pose pa t (k : Int) q := by
  unfold sp_make
  rw [if_neg (by omega), if_pos (by omega)]
  congr 1 <;> omega
theorem cf_make (h : vB ld dg pa jo wa sr pu ri) {c : xCf} {po sp : Nat → Int} {tj tb mv : Int} (hc : cf_ok pa jo wa sr c) (ha : cf_as pa c po sp) (hmv : 0 ≤ mv ∧ mv ≤ 18) :
    (∀ t, sp_make dg pa jo wa sr (po, sp, tj, tb) mv = some t → ∃ c', cf_move pa jo wa sr c mv = some c' ∧ cf_as pa c' t.1 t.2.1 ∧ sp_last ld t.1 pa t.2.2.1 t.2.2.2 = -cf_bend ld dg pa c' mv) ∧ (sp_make dg pa jo wa sr (po, sp, tj, tb) mv = none → cf_move pa jo wa sr c mv = none) := by
  have h0 := h.1
  by_cases m0 : mv = 0
  · subst m0
    have e : sp_make dg pa jo wa sr (po, sp, tj, tb) 0 = some (po, sp, tj, 0) := by simp [sp_make]
    have e2 : cf_move pa jo wa sr c 0 = some c := by simp [cf_move]
    rw [e]
    refine ⟨fun t ht => ?_, fun ht => by cases ht⟩
    cases ht
    exact ⟨c, e2, ha, by simp [sp_last, cf_bend]⟩
  by_cases m1 : mv = 1
  · subst m1
    exact cf_make1 h hc ha 0 (by decide) 1 1 (Or.inl rfl) (by simp [sp_make]) (by rw [ha.2.2.2.1]; simp [cf_move]) (fun c' => by simp [cf_bend])
  by_cases m2 : mv = 2
  · subst m2
    exact cf_make1 h hc ha 0 (by decide) (-1) 2 (Or.inr rfl) (by simp [sp_make]) (by rw [ha.2.2.2.1]; simp [cf_move]) (fun c' => by simp [cf_bend])
  by_cases m3 : mv = 3
  · subst m3
    exact cf_make1 h hc ha 1 (by decide) 1 3 (Or.inl rfl) (by simp [sp_make]) (by rw [ha.2.2.2.2]; simp [cf_move]) (fun c' => by simp [cf_bend])
  by_cases m4 : mv = 4
  · subst m4
    exact cf_make1 h hc ha 1 (by decide) (-1) 4 (Or.inr rfl) (by simp [sp_make]) (by rw [ha.2.2.2.2]; simp [cf_move]) (fun c' => by simp [cf_bend])
  by_cases m9 : mv < 10
  · have e : sp_make dg pa jo wa sr (po, sp, tj, tb) mv = none := by
      unfold sp_make sp_step
      rw [if_neg (by omega), if_neg (by omega), if_pos (by omega), if_neg (fun q => by have := q.1.1.2; omega)]
    have e2 : cf_move pa jo wa sr c mv = none := by
      unfold cf_move
      rw [if_neg (by omega), if_neg (by omega), if_neg (by omega), if_neg (by omega), if_neg (by omega), if_neg (by omega)]
    rw [e]
    exact ⟨fun t ht => (by cases ht), fun _ => e2⟩
  obtain ⟨k, q, hk, hq, e⟩ : ∃ (k : Nat) (q : Int), k < 3 ∧ (0 ≤ q ∧ q ≤ 2) ∧ mv = 10 + 3 * (k : Int) + q := ⟨((mv - 10) / 3).toNat, (mv - 10) % 3, by omega, by omega, by omega⟩
  obtain ⟨p0, p1, p2, s0, s1⟩ := c
  obtain ⟨a1, a2, a3, a4, a5⟩ := ha
  dsimp only at a1 a2 a3 a4 a5
  have hb : ∀ c', cf_bend ld dg pa c' mv = 0 := fun c' => by unfold cf_bend; rw [if_neg (by omega), if_neg (by omega), if_neg (by omega), if_neg (by omega)]
  have hm : sp_make dg pa jo wa sr (po, sp, tj, tb) mv = sp_pose pa (po, sp, tj, tb) (k : Int) q := by rw [e]; exact sp_make_pose k q hq hk
  rw [hm]
  unfold sp_pose
  dsimp only
  rw [Int.toNat_natCast]
  rcases (show k = 0 ∨ k = 1 ∨ k = 2 by omega) with rfl | rfl | rfl
  · have hcm : cf_move pa jo wa sr (p0, p1, p2, s0, s1) mv = if p0 ≠ q then some (q, p1, p2, s0, s1) else none := by
      unfold cf_move
      rw [if_neg (by omega), if_neg (by omega), if_neg (by omega), if_pos (by omega), show mv - 10 = q by omega]
    rw [hcm]
    by_cases hp : p0 ≠ q
    · rw [if_pos hp, if_pos ⟨⟨by omega, by omega⟩, by omega, by rw [a1]; exact hp⟩]
      refine ⟨fun t ht => ?_, fun ht => by cases ht⟩
      cases ht
      exact ⟨_, rfl, ⟨xa_upf_at po 0 q, (xa_upf_ne (j := 0) po q (by decide)).trans a2, fun z => (xa_upf_ne (j := 0) po q (by decide)).trans (a3 z), a4, a5⟩, by rw [hb]; simp [sp_last]⟩
    · rw [if_neg hp, if_neg (fun z => hp (by rw [← a1]; exact z.2.2))]
      exact ⟨fun t ht => (by cases ht), fun _ => rfl⟩
  · have hcm : cf_move pa jo wa sr (p0, p1, p2, s0, s1) mv = if p1 ≠ q then some (p0, q, p2, s0, s1) else none := by
      unfold cf_move
      rw [if_neg (by omega), if_neg (by omega), if_neg (by omega), if_neg (by omega), if_pos (by omega), show mv - 13 = q by omega]
    rw [hcm]
    by_cases hp : p1 ≠ q
    · rw [if_pos hp, if_pos ⟨⟨by omega, by omega⟩, by omega, by rw [a2]; exact hp⟩]
      refine ⟨fun t ht => ?_, fun ht => by cases ht⟩
      cases ht
      exact ⟨_, rfl, ⟨(xa_upf_ne (j := 1) po q (by decide)).trans a1, xa_upf_at po 1 q, fun z => (xa_upf_ne (j := 1) po q (by decide)).trans (a3 z), a4, a5⟩, by rw [hb]; simp [sp_last]⟩
    · rw [if_neg hp, if_neg (fun z => hp (by rw [← a2]; exact z.2.2))]
      exact ⟨fun t ht => (by cases ht), fun _ => rfl⟩
  · have hcm : cf_move pa jo wa sr (p0, p1, p2, s0, s1) mv = if 2 < pa ∧ p2 ≠ q then some (p0, p1, q, s0, s1) else none := by
      unfold cf_move
      rw [if_neg (by omega), if_neg (by omega), if_neg (by omega), if_neg (by omega), if_neg (by omega), if_pos (by omega), show mv - 16 = q by omega]
    rw [hcm]
    by_cases h2 : 2 < pa
    · by_cases hp : p2 ≠ q
      · rw [if_pos (show 2 < pa ∧ p2 ≠ q from ⟨h2, hp⟩), if_pos ⟨⟨by omega, by omega⟩, by omega, by rw [a3 h2]; exact hp⟩]
        refine ⟨fun t ht => ?_, fun ht => by cases ht⟩
        cases ht
        exact ⟨_, rfl, ⟨(xa_upf_ne (j := 2) po q (by decide)).trans a1, (xa_upf_ne (j := 2) po q (by decide)).trans a2, fun z => xa_upf_at po 2 q, a4, a5⟩, by rw [hb]; simp [sp_last]⟩
      · rw [if_neg (fun (z : 2 < pa ∧ p2 ≠ q) => hp z.2), if_neg (fun z => hp (by rw [← a3 h2]; exact z.2.2))]
        exact ⟨fun t ht => (by cases ht), fun _ => rfl⟩
    · rw [if_neg (fun (z : 2 < pa ∧ p2 ≠ q) => h2 z.1), if_neg (fun z => h2 (by have := z.2.1; omega))]
      exact ⟨fun t ht => (by cases ht), fun _ => rfl⟩
theorem cf_strB (h : vB ld dg pa jo wa sr pu ri) {c : xCf} {po sp : Nat → Int} (hc : cf_ok pa jo wa sr c) (ha : cf_as pa c po sp) : sp_strB sp jo = true ↔ cf_str c := by
  have h0 := h.1
  rw [sp_strB_iff]
  obtain ⟨a1, a2, a3, a4, a5⟩ := ha
  have c5 := hc.2.2.2.2
  unfold sp_str cf_str
  unfold cf_in cf_z cf_st at c5
  rw [a4, a5]
  by_cases hj : 1 < jo
  · constructor
    · intro z; exact ⟨z.1 (by omega), z.2 hj⟩
    · intro z; exact ⟨fun _ => z.1, fun _ => z.2⟩
  · rw [if_neg (fun z => hj z.1), if_neg hj] at c5
    constructor
    · intro z; exact ⟨z.1 (by omega), by omega⟩
    · intro z; exact ⟨fun _ => z.1, fun q => absurd q hj⟩
theorem cf_restB (h : vB ld dg pa jo wa sr pu ri) {c : xCf} {po sp : Nat → Int} (hc : cf_ok pa jo wa sr c) (ha : cf_as pa c po sp) : sp_restB po sp pa jo = true ↔ c = cf_rest pa := by
  have h0 := h.1
  have e := cf_strB h hc ha
  obtain ⟨p0, p1, p2, s0, s1⟩ := c
  obtain ⟨a1, a2, a3, a4, a5⟩ := ha
  have c3 := hc.2.2.1
  unfold cf_str at e
  dsimp only at a1 a2 a3 e c3
  unfold sp_restB cf_rest
  rw [Bool.and_eq_true, e, a1, a2]
  have d0 : decide (pa ≤ 0) = false := decide_eq_false (by omega)
  have d1 : decide (pa ≤ 1) = false := decide_eq_false (by omega)
  rw [d0, d1]
  by_cases h2 : 2 < pa
  · have d2 : decide (pa ≤ 2) = false := decide_eq_false (by omega)
    rw [d2, a3 h2, if_pos h2]
    simp only [Bool.false_or, Bool.and_eq_true, beq_iff_eq, Prod.mk.injEq]
    constructor
    · rintro ⟨⟨⟨z1, z2⟩, z3⟩, z4, z5⟩; exact ⟨z1, z2, z3, z4, z5⟩
    · rintro ⟨z1, z2, z3, z4, z5⟩; exact ⟨⟨⟨z1, z2⟩, z3⟩, z4, z5⟩
  · have d2 : decide (pa ≤ 2) = true := decide_eq_true (by omega)
    rw [d2, if_neg h2]
    simp only [Bool.false_or, Bool.true_or, Bool.and_true, Bool.and_eq_true, beq_iff_eq, Prod.mk.injEq]
    constructor
    · rintro ⟨⟨z1, z2⟩, z4, z5⟩; exact ⟨z1, z2, c3.2.2 (by omega), z4, z5⟩
    · rintro ⟨z1, z2, z3, z4, z5⟩; exact ⟨⟨z1, z2⟩, z4, z5⟩
end CF3
