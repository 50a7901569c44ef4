/-! whom one comes to from rest, begun with nothing -/
def rc (ld dg : Nat → Int) (pa jo : Nat) (wa sr J : Int) : Nat → xCf → Int → Prop
  | 0, c, t => c = cf_rest pa ∧ t = 0
  | l + 1, c, t => ∃ (c0 : xCf) (t0 mv : Int), rc ld dg pa jo wa sr J l c0 t0 ∧ (1 ≤ mv ∧ mv ≤ 18) ∧ jOk J mv ∧ cf_move pa jo wa sr c0 mv = some c ∧ t = (t0 + cf_turn ld dg pa 0 c mv) % 360
def fr_P (ld dg : Nat → Int) (pa jo : Nat) (wa sr J : Int) (t : Int) : Prop := ∃ l, rc ld dg pa jo wa sr J l (cf_rest pa) t
/-- how many turns with a set of joints -/
def fr_is (ld dg : Nat → Int) (pa jo : Nat) (wa sr J r : Int) : Prop := ∃ P : Nat → Bool, (∀ t : Nat, t < 360 → (P t = true ↔ fr_P ld dg pa jo wa sr J (t : Int))) ∧ r = (ct_n P 360 : Int)
theorem fr_u {ld dg : Nat → Int} {pa jo : Nat} {wa sr J r r' : Int} (h : fr_is ld dg pa jo wa sr J r) (h' : fr_is ld dg pa jo wa sr J r') : r = r' := by
  obtain ⟨P, a4, a5⟩ := h
  obtain ⟨P', b4, b5⟩ := h'
  rw [a5, b5, ct_ext 360 (fun i hi => ?_)]
  have z1 := a4 i hi
  have z2 := b4 i hi
  cases hp : P i <;> cases hq : P' i
  · rfl
  · exact absurd (z1.mpr (z2.mp hq)) (by rw [hp]; decide)
  · exact absurd (z2.mpr (z1.mp hp)) (by rw [hq]; decide)
  · rfl
def sq_free (ld dg : Nat → Int) (pa jo : Nat) (wa sr J r : Int) : Prop := (¬ (0 ≤ J ∧ J ≤ (if jo = 1 then 1 else 3)) ∧ r = -1) ∨ ((0 ≤ J ∧ J ≤ (if jo = 1 then 1 else 3)) ∧ fr_is ld dg pa jo wa sr J r)
def sq_fewest (ld dg : Nat → Int) (pa jo : Nat) (wa sr r : Int) : Prop := ∃ f : Nat → Int, (∀ J : Nat, J < 4 → fr_is ld dg pa jo wa sr (J : Int) (f J)) ∧ r = if f 1 > 1 then 1 else if jo = 1 then -4 else if f 2 > 1 then 2 else if f 3 > 1 then 3 else -4
theorem fewest_u {ld dg : Nat → Int} {pa jo : Nat} {wa sr r r' : Int} (h : sq_fewest ld dg pa jo wa sr r) (h' : sq_fewest ld dg pa jo wa sr r') : r = r' := by
  obtain ⟨f, a1, a2⟩ := h
  obtain ⟨g, b1, b2⟩ := h'
  have e1 := fr_u (a1 1 (by decide)) (b1 1 (by decide))
  have e2 := fr_u (a1 2 (by decide)) (b1 2 (by decide))
  have e3 := fr_u (a1 3 (by decide)) (b1 3 (by decide))
  rw [a2, b2, e1, e2, e3]
def fR (ld dg : Nat → Int) (pa jo : Nat) (wa sr J : Int) (x y : Nat) : Prop := ∃ (c c' : xCf) (t mv : Int), cf_ok pa jo wa sr c ∧ (0 ≤ t ∧ t < 360) ∧ (1 ≤ mv ∧ mv ≤ 18) ∧ jOk J mv ∧ cf_move pa jo wa sr c mv = some c' ∧ x = sx jo wa sr c t ∧ y = sx jo wa sr c' ((t + cf_turn ld dg pa 0 c' mv) % 360)
/-- whom the moves 1 to n lead to -/
def fa_l (ld dg : Nat → Int) (pa jo : Nat) (wa sr J : Int) (c : xCf) (t : Int) : Nat → List Nat
  | 0 => []
  | n + 1 => fa_l ld dg pa jo wa sr J c t n ++ (if ((1 ≤ ((n + 1 : Nat) : Int) ∧ ((n + 1 : Nat) : Int) ≤ 4) ∧ ¬ (J = 3 ∨ J = (((n + 1 : Nat) : Int) - 1) / 2 + 1)) then [] else (match cf_move pa jo wa sr c ((n + 1 : Nat) : Int) with | some c' => [sx jo wa sr c' ((t + cf_turn ld dg pa 0 c' ((n + 1 : Nat) : Int)) % 360)] | none => []))
section FR
variable {F : Nat → Nat → Int} {ld dg : Nat → Int} {pa jo : Nat} {wa sr pu ri J : Int}
theorem jOk_b {mv : Int} (h : 1 ≤ mv ∧ mv ≤ 18) : jOk J mv ↔ ¬ ((1 ≤ mv ∧ mv ≤ 4) ∧ ¬ (J = 3 ∨ J = (mv - 1) / 2 + 1)) := by
  unfold jOk
  by_cases e : mv ≤ 4
  · rcases (show mv = 1 ∨ mv = 2 ∨ mv = 3 ∨ mv = 4 by omega) with rfl | rfl | rfl | rfl <;> (constructor <;> intro z <;> omega)
  · constructor
    · intro _; omega
    · intro _; exact ⟨fun z => by omega, fun z => by omega⟩
theorem fa_y {c c' : xCf} {t : Int} {n : Nat} (h1 : ¬ ((1 ≤ ((n + 1 : Nat) : Int) ∧ ((n + 1 : Nat) : Int) ≤ 4) ∧ ¬ (J = 3 ∨ J = (((n + 1 : Nat) : Int) - 1) / 2 + 1))) (h2 : cf_move pa jo wa sr c ((n + 1 : Nat) : Int) = some c') : fa_l ld dg pa jo wa sr J c t (n + 1) = fa_l ld dg pa jo wa sr J c t n ++ [sx jo wa sr c' ((t + cf_turn ld dg pa 0 c' ((n + 1 : Nat) : Int)) % 360)] := by
  show fa_l ld dg pa jo wa sr J c t n ++ (if _ then [] else (match cf_move pa jo wa sr c ((n + 1 : Nat) : Int) with | some c' => [sx jo wa sr c' ((t + cf_turn ld dg pa 0 c' ((n + 1 : Nat) : Int)) % 360)] | none => [])) = _
  rw [if_neg h1, h2]
theorem fa_n {c : xCf} {t : Int} {n : Nat} (h : ((1 ≤ ((n + 1 : Nat) : Int) ∧ ((n + 1 : Nat) : Int) ≤ 4) ∧ ¬ (J = 3 ∨ J = (((n + 1 : Nat) : Int) - 1) / 2 + 1)) ∨ cf_move pa jo wa sr c ((n + 1 : Nat) : Int) = none) : fa_l ld dg pa jo wa sr J c t (n + 1) = fa_l ld dg pa jo wa sr J c t n := by
  show fa_l ld dg pa jo wa sr J c t n ++ (if ((1 ≤ ((n + 1 : Nat) : Int) ∧ ((n + 1 : Nat) : Int) ≤ 4) ∧ ¬ (J = 3 ∨ J = (((n + 1 : Nat) : Int) - 1) / 2 + 1)) then [] else (match cf_move pa jo wa sr c ((n + 1 : Nat) : Int) with | some c' => [sx jo wa sr c' ((t + cf_turn ld dg pa 0 c' ((n + 1 : Nat) : Int)) % 360)] | none => [])) = _
  rcases h with h | h
  · rw [if_pos h, List.append_nil]
  · rw [h]
    split <;> exact List.append_nil _
theorem fa_ok (hB : vB ld dg pa jo wa sr pu ri) (hR : mR F ld dg pa jo wa) {c : xCf} (hc : cf_ok pa jo wa sr c) {t : Int} (ht : 0 ≤ t ∧ t < 360) : ∀ n, n ≤ 18 → ∀ x ∈ fa_l ld dg pa jo wa sr J c t n, x < (360 * sm_shapes F).toNat ∧ fR ld dg pa jo wa sr J (sx jo wa sr c t) x
  | 0, _, x, hx => absurd hx List.not_mem_nil
  | n + 1, hn, x, hx => by
    by_cases h1 : ((1 ≤ ((n + 1 : Nat) : Int) ∧ ((n + 1 : Nat) : Int) ≤ 4) ∧ ¬ (J = 3 ∨ J = (((n + 1 : Nat) : Int) - 1) / 2 + 1))
    · rw [fa_n (Or.inl h1)] at hx
      exact fa_ok hB hR hc ht n (by omega) x hx
    · cases h2 : cf_move pa jo wa sr c ((n + 1 : Nat) : Int) with
      | none =>
        rw [fa_n (Or.inr h2)] at hx
        exact fa_ok hB hR hc ht n (by omega) x hx
      | some c' =>
        rw [fa_y h1 h2, List.mem_append] at hx
        rcases hx with hx | hx
        · exact fa_ok hB hR hc ht n (by omega) x hx
        · rw [List.mem_singleton] at hx
          subst hx
          exact ⟨(sx_lt hB hR (cf_move_ok hB hc h2) (t := (t + cf_turn ld dg pa 0 c' ((n + 1 : Nat) : Int)) % 360) (by omega)).1, c, c', t, _, hc, ht, by omega, (jOk_b (by omega)).mpr h1, h2, rfl, rfl⟩
theorem fa_sub {c : xCf} {t : Int} {x n : Nat} (hx : x ∈ fa_l ld dg pa jo wa sr J c t n) : ∀ d, x ∈ fa_l ld dg pa jo wa sr J c t (n + d)
  | 0 => hx
  | d + 1 => List.mem_append.mpr (Or.inl (fa_sub hx d))
theorem fa_all (hB : vB ld dg pa jo wa sr pu ri) (hR : mR F ld dg pa jo wa) {c : xCf} (hc : cf_ok pa jo wa sr c) {t : Int} (ht : 0 ≤ t ∧ t < 360) {x : Nat} (h : fR ld dg pa jo wa sr J (sx jo wa sr c t) x) : x ∈ fa_l ld dg pa jo wa sr J c t 18 := by
  obtain ⟨c1, c', t1, mv, h1, h2, h3, h4, h5, h6, rfl⟩ := h
  obtain ⟨e1, e2⟩ := sx_inj hB hR hc h1 ht h2 h6
  subst e1; subst e2
  obtain ⟨n, hn, rfl⟩ : ∃ n : Nat, n < 18 ∧ mv = ((n + 1 : Nat) : Int) := ⟨(mv - 1).toNat, by omega, by omega⟩
  have : sx jo wa sr c' ((t + cf_turn ld dg pa 0 c' ((n + 1 : Nat) : Int)) % 360) ∈ fa_l ld dg pa jo wa sr J c t (n + 1) := by
    rw [fa_y ((jOk_b (by omega)).mp h4) h5]
    exact List.mem_append.mpr (Or.inr (List.mem_singleton.mpr rfl))
  have := fa_sub this (17 - n)
  rwa [show n + 1 + (17 - n) = 18 by omega] at this
theorem rc_ok (hB : vB ld dg pa jo wa sr pu ri) : ∀ (l : Nat) {c : xCf} {t : Int}, rc ld dg pa jo wa sr J l c t → cf_ok pa jo wa sr c ∧ 0 ≤ t ∧ t < 360
  | 0, c, t, h => by
    obtain ⟨h1, h2⟩ := h
    subst h1; subst h2
    exact ⟨cf_rest_ok hB, by decide, by decide⟩
  | l + 1, c, t, ⟨c0, t0, mv, h1, h2, h3, h4, h5⟩ => ⟨cf_move_ok hB (rc_ok hB l h1).1 h4, by omega, by omega⟩
/-- the ways by states, and by configurations -/
theorem rc_mP (hB : vB ld dg pa jo wa sr pu ri) (hR : mR F ld dg pa jo wa) : ∀ (l : Nat) {c : xCf} {t : Int}, cf_ok pa jo wa sr c → (0 ≤ t ∧ t < 360) → (rc ld dg pa jo wa sr J l c t ↔ mP (360 * sm_shapes F).toNat (fR ld dg pa jo wa sr J) l (sx jo wa sr (cf_rest pa) 0) (sx jo wa sr c t)) := by
  have back : ∀ (l : Nat) (x y : Nat), mP (360 * sm_shapes F).toNat (fR ld dg pa jo wa sr J) (l + 1) x y → ∃ w, w < (360 * sm_shapes F).toNat ∧ mP (360 * sm_shapes F).toNat (fR ld dg pa jo wa sr J) l x w ∧ fR ld dg pa jo wa sr J w y := by
    intro l
    induction l with
    | zero =>
      rintro x y ⟨w, w1, w2, w3⟩
      have w3 : w = y := w3
      subst w3
      obtain ⟨c, c', t, mv, r1, r2, r3, r4, r5, r6, r7⟩ := w2
      have hx : x < (360 * sm_shapes F).toNat := by rw [r6]; exact (sx_lt hB hR r1 r2).1
      exact ⟨x, hx, rfl, c, c', t, mv, r1, r2, r3, r4, r5, r6, r7⟩
    | succ l ih =>
      rintro x y ⟨w, w1, w2, w3⟩
      obtain ⟨v, v1, v2, v3⟩ := ih w y w3
      exact ⟨v, v1, ⟨w, w1, w2, v2⟩, v3⟩
  intro l
  induction l with
  | zero =>
    intro c t hc ht
    constructor
    · rintro ⟨h1, h2⟩
      subst h1; subst h2
      exact rfl
    · intro h
      have h : sx jo wa sr (cf_rest pa) 0 = sx jo wa sr c t := h
      obtain ⟨e1, e2⟩ := sx_inj hB hR (cf_rest_ok hB) hc (by omega) ht h
      exact ⟨e1.symm, e2.symm⟩
  | succ l ih =>
    intro c t hc ht
    constructor
    · rintro ⟨c0, t0, mv, h1, h2, h3, h4, h5⟩
      obtain ⟨k1, k2⟩ := rc_ok hB l h1
      refine mP_app l _ _ _ ((ih k1 k2).mp h1) (sx_lt hB hR k1 k2).1 ⟨c0, c, t0, mv, k1, k2, h2, h3, h4, rfl, by rw [h5]⟩ (sx_lt hB hR hc ht).1
    · intro h
      obtain ⟨w, w1, w2, c0, c', t0, mv, r1, r2, r3, r4, r5, r6, r7⟩ := back l _ _ h
      subst r6
      have hd := cf_move_ok hB r1 r5
      obtain ⟨e1, e2⟩ := sx_inj hB hR hc hd ht (by omega) r7
      subst e1
      exact ⟨c0, t0, mv, (ih r1 r2).mpr w2, r3, r4, r5, e2⟩
/-- the count, by the ticks that stand at the end -/
theorem fr_end (hB : vB ld dg pa jo wa sr pu ri) (hR : mR F ld dg pa jo wa) {q : xTQ} (h : mc_I (360 * sm_shapes F).toNat (sx jo wa sr (cf_rest pa) 0) (fR ld dg pa jo wa sr J) q q.2.2) : fr_is ld dg pa jo wa sr J (ct_n (fun t => decide (q.1 (sx jo wa sr (cf_rest pa) ((t : Nat) : Int)) = 0)) 360 : Int) := by
  have hc := cf_rest_ok hB
  refine ⟨_, fun t ht => ?_, rfl⟩
  rw [decide_eq_true_iff]
  have hx := (sx_lt hB hR hc (t := ((t : Nat) : Int)) (by omega)).1
  rw [mc_end h (sx_lt hB hR hc (t := 0) (by omega)).1 _ hx]
  constructor
  · rintro ⟨l, hl⟩
    exact ⟨l, (rc_mP hB hR l hc (by omega)).mpr hl⟩
  · rintro ⟨l, hl⟩
    exact ⟨l, (rc_mP hB hR l hc (by omega)).mp hl⟩
end FR
