/-! coming right: in so many moves; the first of the shortest ways -/
def gd (ld dg : Nat → Int) (pa jo : Nat) (wa sr pu ri J : Int) : Nat → xCf → Int → Prop
  | 0, c, t => cf_str c ∧ sp_off t 0 ≤ ri
  | l + 1, c, t => ∃ (mv : Int) (c' : xCf), (0 ≤ mv ∧ mv ≤ 18) ∧ jOk J mv ∧ cf_move pa jo wa sr c mv = some c' ∧ gd ld dg pa jo wa sr pu ri J l c' ((t + cf_turn ld dg pa pu c' mv) % 360)
def tk_is (ld dg : Nat → Int) (pa jo : Nat) (wa sr pu ri J t r : Int) : Prop := (∃ l : Nat, l ≤ 200 ∧ r = (l : Int) ∧ gd ld dg pa jo wa sr pu ri J l (cf_rest pa) t ∧ ∀ l', l' < l → ¬ gd ld dg pa jo wa sr pu ri J l' (cf_rest pa) t) ∨ (r = -4 ∧ ∀ l, l ≤ 200 → ¬ gd ld dg pa jo wa sr pu ri J l (cf_rest pa) t)
theorem tk_u {ld dg : Nat → Int} {pa jo : Nat} {wa sr pu ri J t r r' : Int} (h : tk_is ld dg pa jo wa sr pu ri J t r) (h' : tk_is ld dg pa jo wa sr pu ri J t r') : r = r' := by
  rcases h with ⟨l, a1, a2, a3, a4⟩ | ⟨a1, a2⟩ <;> rcases h' with ⟨m, b1, b2, b3, b4⟩ | ⟨b1, b2⟩
  · by_cases e : l < m
    · exact absurd a3 (b4 l e)
    · by_cases e2 : m < l
      · exact absurd b3 (a4 m e2)
      · omega
  · exact absurd a3 (b2 l a1)
  · exact absurd b3 (a2 m b1)
  · omega
/-- the least move after which there are l moves more -/
def gstep (ld dg : Nat → Int) (pa jo : Nat) (wa sr pu ri J : Int) (l : Nat) (c : xCf) (t m : Int) (c' : xCf) (t' : Int) : Prop := (0 ≤ m ∧ m ≤ 18) ∧ cf_move pa jo wa sr c m = some c' ∧ t' = (t + cf_turn ld dg pa pu c' m) % 360 ∧ gd ld dg pa jo wa sr pu ri J l c' t' ∧ ∀ (m' : Int) (c1 : xCf), 0 ≤ m' → m' < m → cf_move pa jo wa sr c m' = some c1 → ¬ gd ld dg pa jo wa sr pu ri J l c1 ((t + cf_turn ld dg pa pu c1 m') % 360)
theorem gstep_u {ld dg : Nat → Int} {pa jo : Nat} {wa sr pu ri J : Int} {l : Nat} {c c1 c2 : xCf} {t m1 m2 t1 t2 : Int} (h : gstep ld dg pa jo wa sr pu ri J l c t m1 c1 t1) (h' : gstep ld dg pa jo wa sr pu ri J l c t m2 c2 t2) : m1 = m2 ∧ c1 = c2 ∧ t1 = t2 := by
  obtain ⟨a1, a2, a3, a4, a5⟩ := h
  obtain ⟨b1, b2, b3, b4, b5⟩ := h'
  have e : m1 = m2 := by
    by_cases e1 : m1 < m2
    · exact absurd (by rw [← a3]; exact a4) (b5 m1 c1 a1.1 e1 a2)
    · by_cases e2 : m2 < m1
      · exact absurd (by rw [← b3]; exact b4) (a5 m2 c2 b1.1 e2 b2)
      · omega
  subst e
  cases a2.symm.trans b2
  exact ⟨rfl, rfl, a3.trans b3.symm⟩
/-- the i-th move of that way -/
def gmv (ld dg : Nat → Int) (pa jo : Nat) (wa sr pu ri J : Int) : Nat → Nat → xCf → Int → Int → Prop
  | 0, l, c, t, r => ∃ c' t', gstep ld dg pa jo wa sr pu ri J l c t r c' t'
  | i + 1, l, c, t, r => ∃ m c' t', gstep ld dg pa jo wa sr pu ri J l c t m c' t' ∧ gmv ld dg pa jo wa sr pu ri J i (l - 1) c' t' r
theorem gmv_u {ld dg : Nat → Int} {pa jo : Nat} {wa sr pu ri J : Int} : ∀ (i l : Nat) (c : xCf) (t r r' : Int), gmv ld dg pa jo wa sr pu ri J i l c t r → gmv ld dg pa jo wa sr pu ri J i l c t r' → r = r'
  | 0, l, c, t, r, r', ⟨c1, t1, h⟩, ⟨c2, t2, h'⟩ => (gstep_u h h').1
  | i + 1, l, c, t, r, r', ⟨m1, c1, t1, h, k⟩, ⟨m2, c2, t2, h', k'⟩ => by
    obtain ⟨-, e2, e3⟩ := gstep_u h h'
    subst e2; subst e3
    exact gmv_u i _ _ _ r r' k k'
def sq_soon (ld dg : Nat → Int) (pa jo : Nat) (wa sr pu ri : Int) (t i r : Int) : Prop := (¬ ((0 ≤ t ∧ t ≤ 359) ∧ -1 ≤ i) ∧ r = -1) ∨ (((0 ≤ t ∧ t ≤ 359) ∧ -1 ≤ i) ∧ ∃ v, tk_is ld dg pa jo wa sr pu ri (if jo = 1 then 1 else 3) t v ∧ ((v = -4 ∨ i < 0 ∨ v ≤ i) ∧ r = (if i < 0 then v else -4) ∨ ¬ (v = -4 ∨ i < 0 ∨ v ≤ i) ∧ gmv ld dg pa jo wa sr pu ri (if jo = 1 then 1 else 3) i.toNat (v.toNat - 1) (cf_rest pa) t r))
def tk_B (ld dg : Nat → Int) (pa jo : Nat) (wa sr pu ri J t : Int) (m : Nat) : Prop := ∃ l : Nat, l ≤ 200 ∧ l ≤ m ∧ gd ld dg pa jo wa sr pu ri J l (cf_rest pa) t
def sq_saved (ld dg : Nat → Int) (pa jo : Nat) (wa sr pu ri : Int) (H r : Int) : Prop := (¬ (0 ≤ H ∧ H ≤ 100000) ∧ r = -1) ∨ ((0 ≤ H ∧ H ≤ 100000) ∧ ∃ (m : Nat) (P : Nat → Bool), (((m : Nat) : Int) * m ≤ H ∧ H < (((m : Nat) : Int) + 1) * (((m : Nat) : Int) + 1)) ∧ (∀ t : Nat, t < 360 → (P t = true ↔ tk_B ld dg pa jo wa sr pu ri (if jo = 1 then 1 else 3) (t : Int) m)) ∧ r = (ct_n P 360 : Int))
def sq_worth (ld dg : Nat → Int) (pa jo : Nat) (wa sr pu ri : Int) (j t r : Int) : Prop := (¬ ((0 ≤ j ∧ j ≤ (jo : Int) - 1) ∧ (0 ≤ t ∧ t ≤ 359)) ∧ r = -1) ∨ (((0 ≤ j ∧ j ≤ (jo : Int) - 1) ∧ (0 ≤ t ∧ t ≤ 359)) ∧ ∃ v w, tk_is ld dg pa jo wa sr pu ri (if jo = 1 then 1 else 3) t v ∧ tk_is ld dg pa jo wa sr pu ri (if jo = 1 then 0 else if j = 0 then 2 else 1) t w ∧ r = if v = -4 ∨ w = -4 then -4 else w - v)
theorem saved_u {ld dg : Nat → Int} {pa jo : Nat} {wa sr pu ri H r r' : Int} (h : sq_saved ld dg pa jo wa sr pu ri H r) (h' : sq_saved ld dg pa jo wa sr pu ri H r') : r = r' := by
  rcases h with ⟨a1, a2⟩ | ⟨a1, m, P, ⟨a2, a3⟩, a4, a5⟩ <;> rcases h' with ⟨b1, b2⟩ | ⟨b1, m', P', ⟨b2, b3⟩, b4, b5⟩
  · omega
  · exact absurd b1 a1
  · exact absurd a1 b1
  · have e := sp_fall_1 a2 a3 b2 b3
    subst e
    rw [a5, b5, ct_ext 360 (fun i hi => ?_)]
    have z1 := a4 i hi
    have z2 := b4 i hi
    cases hp : P i <;> cases hq : P' i
    · rfl
    · exact absurd (z1.mpr (z2.mp hq)) (by rw [hp]; decide)
    · exact absurd (z2.mpr (z1.mp hp)) (by rw [hq]; decide)
    · rfl
section GD
variable {F : Nat → Nat → Int} {ld dg : Nat → Int} {pa jo : Nat} {wa sr pu ri J : Int} {T : Nat → Int}
theorem mT_gd (hB : vB ld dg pa jo wa sr pu ri) (hR : mR F ld dg pa jo wa) (hT : mT (360 * sm_shapes F).toNat (sG pa jo wa sr ri) (sR ld dg pa jo wa sr pu J) T) : ∀ (l : Nat) (c : xCf) (t : Int), cf_ok pa jo wa sr c → (0 ≤ t ∧ t < 360) → (T (sx jo wa sr c t) = (l : Int) → gd ld dg pa jo wa sr pu ri J l c t) ∧ (gd ld dg pa jo wa sr pu ri J l c t → 0 ≤ T (sx jo wa sr c t) ∧ T (sx jo wa sr c t) ≤ l)
  | 0, c, t, hc, ht => by
    have hx := (sx_lt hB hR hc ht).1
    have e := hT.1 _ hx
    constructor
    · intro z
      obtain ⟨d, u, d1, d2, d3, d4, d5⟩ := e.mp z
      obtain ⟨e1, e2⟩ := sx_inj hB hR hc d1 ht d2 d3
      subst e1; subst e2
      exact ⟨d4, d5⟩
    · intro z
      have := e.mpr ⟨c, t, hc, ht, rfl, z.1, z.2⟩
      omega
  | l + 1, c, t, hc, ht => by
    have hx := (sx_lt hB hR hc ht).1
    constructor
    · intro z
      obtain ⟨y, y1, ⟨d, d', u, mv, r1, r2, r3, r4, r5, r6, r7⟩, y3⟩ := hT.2.1 _ hx (by omega)
      obtain ⟨e1, e2⟩ := sx_inj hB hR hc r1 ht r2 r6
      subst e1; subst e2
      have hd := cf_move_ok hB hc r5
      subst r7
      exact ⟨mv, d', r3, r4, r5, ((mT_gd hB hR hT l d' _ hd (by omega)).1 (by omega))⟩
    · rintro ⟨mv, d', r3, r4, r5, r6⟩
      have hd := cf_move_ok hB hc r5
      have a := (mT_gd hB hR hT l d' ((t + cf_turn ld dg pa pu d' mv) % 360) hd (by omega)).2 r6
      have b := hT.2.2.1 _ (sx_lt hB hR hd (t := (t + cf_turn ld dg pa pu d' mv) % 360) (by omega)).1 a.1 _ hx ⟨c, d', t, mv, hc, ht, r3, r4, r5, rfl, rfl⟩
      omega
theorem mT_tk (hB : vB ld dg pa jo wa sr pu ri) (hR : mR F ld dg pa jo wa) (hT : mT (360 * sm_shapes F).toNat (sG pa jo wa sr ri) (sR ld dg pa jo wa sr pu J) T) {t : Int} (ht : 0 ≤ t ∧ t < 360) : tk_is ld dg pa jo wa sr pu ri J t (if 0 ≤ T (sx jo wa sr (cf_rest pa) t) ∧ T (sx jo wa sr (cf_rest pa) t) ≤ 200 then T (sx jo wa sr (cf_rest pa) t) else -4) := by
  have hc := cf_rest_ok hB
  by_cases h : 0 ≤ T (sx jo wa sr (cf_rest pa) t) ∧ T (sx jo wa sr (cf_rest pa) t) ≤ 200
  · rw [if_pos h]
    refine Or.inl ⟨(T (sx jo wa sr (cf_rest pa) t)).toNat, by omega, by omega, (mT_gd hB hR hT _ _ t hc ht).1 (by omega), fun l hl z => ?_⟩
    have := (mT_gd hB hR hT l _ t hc ht).2 z
    omega
  · rw [if_neg h]
    refine Or.inr ⟨rfl, fun l hl z => ?_⟩
    have := (mT_gd hB hR hT l _ t hc ht).2 z
    omega
/-- who is one nearer, by the ticks -/
theorem mT_near (hB : vB ld dg pa jo wa sr pu ri) (hR : mR F ld dg pa jo wa) (hT : mT (360 * sm_shapes F).toNat (sG pa jo wa sr ri) (sR ld dg pa jo wa sr pu J) T) {c c' : xCf} {t mv : Int} (hc : cf_ok pa jo wa sr c) (ht : 0 ≤ t ∧ t < 360) (hmv : 0 ≤ mv ∧ mv ≤ 18) (hj : jOk J mv) (hm : cf_move pa jo wa sr c mv = some c') {l : Nat} (hl : T (sx jo wa sr c t) = ((l + 1 : Nat) : Int)) : T (sx jo wa sr c' ((t + cf_turn ld dg pa pu c' mv) % 360)) = (l : Int) ↔ gd ld dg pa jo wa sr pu ri J l c' ((t + cf_turn ld dg pa pu c' mv) % 360) := by
  have hd := cf_move_ok hB hc hm
  have g := mT_gd hB hR hT l c' ((t + cf_turn ld dg pa pu c' mv) % 360) hd (by omega)
  constructor
  · exact g.1
  · intro z
    have a := g.2 z
    have b := hT.2.2.1 _ (sx_lt hB hR hd (t := (t + cf_turn ld dg pa pu c' mv) % 360) (by omega)).1 a.1 _ (sx_lt hB hR hc ht).1 ⟨c, c', t, mv, hc, ht, hmv, hj, hm, rfl, rfl⟩
    omega
theorem jOk_all {c c' : xCf} {mv : Int} (h : vB ld dg pa jo wa sr pu ri) (hm : cf_move pa jo wa sr c mv = some c') : jOk (if jo = 1 then 1 else 3) mv := by
  have h0 := h.1
  constructor
  · intro _
    split <;> omega
  · intro z
    have := cf_move_j hm z
    rw [if_neg (by omega)]
    omega
end GD
