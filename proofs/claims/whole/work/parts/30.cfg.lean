/-! CONFIGURATIONS: poses of the parts and steps of the joints, apart from how either side numbers them -/
abbrev xCf : Type := Int × Int × Int × Int × Int
/-- a body that is laid -/
def vB (ld dg : Nat → Int) (pa jo : Nat) (wa sr pu ri : Int) : Prop := (2 ≤ pa ∧ pa ≤ 3 ∧ pa = jo + 1) ∧ (∀ i, 0 ≤ ld i ∧ ld i ≤ 99) ∧ (∀ i, i < 3 * pa → 1 ≤ ld i) ∧ (∀ i, 0 ≤ dg i ∧ dg i ≤ 120) ∧ (∀ j, j < jo → 1 ≤ dg j) ∧ ((wa = -4 ∧ sr = 0) ∨ (∃ w : Nat, wa = (w : Int) ∧ w < jo ∧ 3 ≤ sr ∧ sr ≤ 12 ∧ sr * dg w = 360)) ∧ (-9999 ≤ pu ∧ pu ≤ 9999) ∧ (0 ≤ ri ∧ ri ≤ 90)
def cf_st (jo : Nat) (wa sr : Int) (j : Nat) : Int := if j < jo then (if (j : Int) = wa then sr else 5) else 1
def cf_z (jo : Nat) (wa : Int) (j : Nat) : Int := if j < jo ∧ (j : Int) ≠ wa then 2 else 0
def cf_in (jo : Nat) (wa sr : Int) (j : Nat) (s : Int) : Prop := 0 ≤ s + cf_z jo wa j ∧ s + cf_z jo wa j < cf_st jo wa sr j
def cf_ok (pa jo : Nat) (wa sr : Int) (c : xCf) : Prop := (0 ≤ c.1 ∧ c.1 ≤ 2) ∧ (0 ≤ c.2.1 ∧ c.2.1 ≤ 2) ∧ (0 ≤ c.2.2.1 ∧ c.2.2.1 ≤ 2 ∧ (pa = 2 → c.2.2.1 = 0)) ∧ cf_in jo wa sr 0 c.2.2.2.1 ∧ cf_in jo wa sr 1 c.2.2.2.2
def cf_step (wa sr : Int) (j : Nat) (s d : Int) : Option Int := if (j : Int) = wa then some ((s + d) % sr) else if -2 ≤ s + d ∧ s + d ≤ 2 then some (s + d) else none
def cf_move (pa jo : Nat) (wa sr : Int) (c : xCf) (mv : Int) : Option xCf :=
  if mv = 0 then some c
  else if mv = 1 ∨ mv = 2 then (if 0 < jo then (cf_step wa sr 0 c.2.2.2.1 (if mv = 1 then 1 else -1)).map (fun s => (c.1, c.2.1, c.2.2.1, s, c.2.2.2.2)) else none)
  else if mv = 3 ∨ mv = 4 then (if 1 < jo then (cf_step wa sr 1 c.2.2.2.2 (if mv = 3 then 1 else -1)).map (fun s => (c.1, c.2.1, c.2.2.1, c.2.2.2.1, s)) else none)
  else if 10 ≤ mv ∧ mv ≤ 12 then (if c.1 ≠ mv - 10 then some (mv - 10, c.2.1, c.2.2.1, c.2.2.2.1, c.2.2.2.2) else none)
  else if 13 ≤ mv ∧ mv ≤ 15 then (if c.2.1 ≠ mv - 13 then some (c.1, mv - 13, c.2.2.1, c.2.2.2.1, c.2.2.2.2) else none)
  else if 16 ≤ mv ∧ mv ≤ 18 then (if 2 < pa ∧ c.2.2.1 ≠ mv - 16 then some (c.1, c.2.1, mv - 16, c.2.2.2.1, c.2.2.2.2) else none)
  else none
def cf_l (ld : Nat → Int) (k : Nat) (p : Int) : Int := ld (3 * k + p.toNat)
def cf_all (ld : Nat → Int) (pa : Nat) (c : xCf) : Int := cf_l ld 0 c.1 + cf_l ld 1 c.2.1 + (if 2 < pa then cf_l ld 2 c.2.2.1 else 0)
def cf_beh (ld : Nat → Int) (pa : Nat) (c : xCf) (j : Nat) : Int := (if j < 1 then cf_l ld 1 c.2.1 else 0) + (if 2 < pa then cf_l ld 2 c.2.2.1 else 0)
def cf_bend (ld dg : Nat → Int) (pa : Nat) (c : xCf) (mv : Int) : Int :=
  if mv = 1 then (dg 0 * cf_beh ld pa c 0).tdiv (cf_all ld pa c) else if mv = 2 then (-dg 0 * cf_beh ld pa c 0).tdiv (cf_all ld pa c)
  else if mv = 3 then (dg 1 * cf_beh ld pa c 1).tdiv (cf_all ld pa c) else if mv = 4 then (-dg 1 * cf_beh ld pa c 1).tdiv (cf_all ld pa c) else 0
/-- by how much part 0 turns in a move that leads to c -/
def cf_turn (ld dg : Nat → Int) (pa : Nat) (pu : Int) (c : xCf) (mv : Int) : Int := pu.tdiv (cf_all ld pa c) - cf_bend ld dg pa c mv
def cf_rest (pa : Nat) : xCf := (1, 1, if 2 < pa then 1 else 0, 0, 0)
def cf_str (c : xCf) : Prop := c.2.2.2.1 = 0 ∧ c.2.2.2.2 = 0
def cf_inv (c : xCf) (mv : Int) : Int := if mv = 1 then 2 else if mv = 2 then 1 else if mv = 3 then 4 else if mv = 4 then 3 else if 10 ≤ mv ∧ mv ≤ 12 then 10 + c.1 else if 13 ≤ mv ∧ mv ≤ 15 then 13 + c.2.1 else if 16 ≤ mv ∧ mv ≤ 18 then 16 + c.2.2.1 else mv
section CF
variable {ld dg : Nat → Int} {pa jo : Nat} {wa sr pu ri : Int}
theorem vB.wag (h : vB ld dg pa jo wa sr pu ri) : (wa = -4 ∧ sr = 0) ∨ ((wa = 0 ∨ wa = 1 ∧ jo = 2) ∧ 3 ≤ sr ∧ sr ≤ 12) := by
  obtain ⟨⟨h1, h2, h3⟩, -, -, -, -, h6 | ⟨w, h6, h7, h8, h9, -⟩, -⟩ := h
  · exact Or.inl h6
  · exact Or.inr ⟨by omega, h8, h9⟩
theorem cf_st_b (h : vB ld dg pa jo wa sr pu ri) (j : Nat) : 1 ≤ cf_st jo wa sr j ∧ cf_st jo wa sr j ≤ 12 := by
  have := h.wag
  unfold cf_st
  repeat' split
  all_goals omega
theorem cf_z_b (jo : Nat) (wa : Int) (j : Nat) : 0 ≤ cf_z jo wa j ∧ cf_z jo wa j ≤ 2 := by
  unfold cf_z
  split <;> omega
theorem cf_in_b (h : vB ld dg pa jo wa sr pu ri) {j : Nat} {s : Int} (hs : cf_in jo wa sr j s) : -2 ≤ s ∧ s ≤ 11 := by
  have a := cf_st_b h j
  have b := cf_z_b jo wa j
  unfold cf_in at hs
  omega
theorem cf_step_in (h : vB ld dg pa jo wa sr pu ri) {j : Nat} {s d s' : Int} (hj : j < jo) (hm : cf_step wa sr j s d = some s') : cf_in jo wa sr j s' := by
  have hw := h.wag
  have h0 := h.1
  unfold cf_step at hm
  unfold cf_in cf_z cf_st
  by_cases e : (j : Int) = wa
  · rw [if_pos e] at hm
    cases hm
    rw [if_neg (fun q => q.2 e), if_pos hj, if_pos e]
    have e1 := Int.emod_nonneg (s + d) (by omega : sr ≠ 0)
    have e2 := Int.emod_lt_of_pos (s + d) (by omega : 0 < sr)
    omega
  · rw [if_neg e] at hm
    rw [if_pos ⟨hj, e⟩, if_pos hj, if_neg e]
    split at hm
    · cases hm; omega
    · cases hm
theorem cf_step_back (h : vB ld dg pa jo wa sr pu ri) {j : Nat} {s d s' : Int} (hj : j < jo) (hs : cf_in jo wa sr j s) (hm : cf_step wa sr j s d = some s') : cf_step wa sr j s' (-d) = some s := by
  have hw := h.wag
  have h0 := h.1
  unfold cf_step at hm ⊢
  unfold cf_in cf_z cf_st at hs
  by_cases e : (j : Int) = wa
  · rw [if_pos e] at hm ⊢
    cases hm
    rw [if_neg (fun q => q.2 e), if_pos hj, if_pos e] at hs
    rw [Int.emod_add_emod, Int.add_neg_cancel_right, Int.emod_eq_of_lt (by omega) (by omega)]
  · rw [if_neg e] at hm ⊢
    rw [if_pos ⟨hj, e⟩, if_pos hj, if_neg e] at hs
    split at hm
    · cases hm
      rw [if_pos (by omega), Int.add_neg_cancel_right]
    · cases hm
theorem cf_move_ok (h : vB ld dg pa jo wa sr pu ri) {c c' : xCf} {mv : Int} (hc : cf_ok pa jo wa sr c) (hm : cf_move pa jo wa sr c mv = some c') : cf_ok pa jo wa sr c' := by
  obtain ⟨c1, c2, c3, c4, c5⟩ := hc
  have h0 := h.1
  unfold cf_move at hm
  split at hm
  · cases hm; exact ⟨c1, c2, c3, c4, c5⟩
  split at hm
  · split at hm
    · rw [Option.map_eq_some_iff] at hm
      obtain ⟨s, hs, rfl⟩ := hm
      exact ⟨c1, c2, c3, cf_step_in h (by omega) hs, c5⟩
    · cases hm
  split at hm
  · split at hm
    · rw [Option.map_eq_some_iff] at hm
      obtain ⟨s, hs, rfl⟩ := hm
      exact ⟨c1, c2, c3, c4, cf_step_in h (by omega) hs⟩
    · cases hm
  split at hm
  · split at hm
    · cases hm; exact ⟨⟨by show 0 ≤ mv - 10; omega, by show mv - 10 ≤ 2; omega⟩, c2, c3, c4, c5⟩
    · cases hm
  split at hm
  · split at hm
    · cases hm; exact ⟨c1, ⟨by show 0 ≤ mv - 13; omega, by show mv - 13 ≤ 2; omega⟩, c3, c4, c5⟩
    · cases hm
  split at hm
  · split at hm
    · cases hm; exact ⟨c1, c2, ⟨by show 0 ≤ mv - 16; omega, by show mv - 16 ≤ 2; omega, by intro z; omega⟩, c4, c5⟩
    · cases hm
  · cases hm
theorem cf_rest_ok (h : vB ld dg pa jo wa sr pu ri) : cf_ok pa jo wa sr (cf_rest pa) := by
  have hw := h.wag
  have h0 := h.1
  unfold cf_ok cf_rest cf_in cf_z cf_st
  refine ⟨by simp, by simp, ?_, ?_, ?_⟩
  · show (0 : Int) ≤ (if 2 < pa then 1 else 0) ∧ (if 2 < pa then (1 : Int) else 0) ≤ 2 ∧ (pa = 2 → (if 2 < pa then (1 : Int) else 0) = 0)
    split <;> omega
  · show 0 ≤ (0 : Int) + (if 0 < jo ∧ ((0 : Nat) : Int) ≠ wa then 2 else 0) ∧ (0 : Int) + (if 0 < jo ∧ ((0 : Nat) : Int) ≠ wa then 2 else 0) < (if 0 < jo then (if ((0 : Nat) : Int) = wa then sr else 5) else 1)
    repeat' split
    all_goals omega
  · show 0 ≤ (0 : Int) + (if 1 < jo ∧ ((1 : Nat) : Int) ≠ wa then 2 else 0) ∧ (0 : Int) + (if 1 < jo ∧ ((1 : Nat) : Int) ≠ wa then 2 else 0) < (if 1 < jo then (if ((1 : Nat) : Int) = wa then sr else 5) else 1)
    repeat' split
    all_goals omega
theorem cf_l_b (h : vB ld dg pa jo wa sr pu ri) {k : Nat} {p : Int} (hk : k < pa) (hp : 0 ≤ p ∧ p ≤ 2) : 1 ≤ cf_l ld k p ∧ cf_l ld k p ≤ 99 := ⟨h.2.2.1 _ (by omega), (h.2.1 _).2⟩
theorem cf_all_b (h : vB ld dg pa jo wa sr pu ri) {c : xCf} (hc : cf_ok pa jo wa sr c) : 2 ≤ cf_all ld pa c ∧ cf_all ld pa c ≤ 297 := by
  have h0 := h.1
  have a := cf_l_b h (k := 0) (by omega) hc.1
  have b := cf_l_b h (k := 1) (by omega) hc.2.1
  unfold cf_all
  split
  · have d := cf_l_b h (k := 2) (by omega) ⟨hc.2.2.1.1, hc.2.2.1.2.1⟩
    omega
  · omega
theorem cf_beh_b (h : vB ld dg pa jo wa sr pu ri) {c : xCf} (hc : cf_ok pa jo wa sr c) (j : Nat) : 0 ≤ cf_beh ld pa c j ∧ cf_beh ld pa c j ≤ 198 := by
  have h0 := h.1
  have b := cf_l_b h (k := 1) (by omega) hc.2.1
  unfold cf_beh
  have d : 2 < pa → 1 ≤ cf_l ld 2 c.2.2.1 ∧ cf_l ld 2 c.2.2.1 ≤ 99 := fun q => cf_l_b h (k := 2) (by omega) ⟨hc.2.2.1.1, hc.2.2.1.2.1⟩
  repeat' split
  all_goals omega
/-- every move can be taken back -/
theorem cf_move_back (h : vB ld dg pa jo wa sr pu ri) {c c' : xCf} {mv : Int} (hc : cf_ok pa jo wa sr c) (hm : cf_move pa jo wa sr c mv = some c') : cf_move pa jo wa sr c' (cf_inv c mv) = some c := by
  obtain ⟨p0, p1, p2, s0, s1⟩ := c
  obtain ⟨c1, c2, c3, c4, c5⟩ := hc
  dsimp only at c1 c2 c3 c4 c5
  have h0 := h.1
  unfold cf_move at hm
  dsimp only at hm
  split at hm
  · rename_i e; subst e; cases hm; simp [cf_inv, cf_move]
  split at hm
  · split at hm
    · rw [Option.map_eq_some_iff] at hm
      obtain ⟨s, hs, rfl⟩ := hm
      have hb := cf_step_back h (by omega) c4 hs
      rename_i e1 e2 e3
      rcases e2 with rfl | rfl
      · simp [cf_inv, cf_move] at hb ⊢
        exact ⟨e3, hb⟩
      · simp [cf_inv, cf_move] at hb ⊢
        exact ⟨e3, hb⟩
    · cases hm
  split at hm
  · split at hm
    · rw [Option.map_eq_some_iff] at hm
      obtain ⟨s, hs, rfl⟩ := hm
      have hb := cf_step_back h (by omega) c5 hs
      rename_i e0 e1 e2 e3
      rcases e2 with rfl | rfl
      · simp [cf_inv, cf_move] at hb ⊢
        exact ⟨e3, hb⟩
      · simp [cf_inv, cf_move] at hb ⊢
        exact ⟨e3, hb⟩
    · cases hm
  split at hm
  · split at hm
    · cases hm
      have e : cf_inv (p0, p1, p2, s0, s1) mv = 10 + p0 := by
        unfold cf_inv; rw [if_neg (by omega), if_neg (by omega), if_neg (by omega), if_neg (by omega), if_pos (by omega)]
      rw [e]
      unfold cf_move
      dsimp only
      rw [if_neg (by omega), if_neg (by omega), if_neg (by omega), if_pos (by omega), if_pos (by omega), show 10 + p0 - 10 = p0 by omega]
    · cases hm
  split at hm
  · split at hm
    · cases hm
      have e : cf_inv (p0, p1, p2, s0, s1) mv = 13 + p1 := by
        unfold cf_inv; rw [if_neg (by omega), if_neg (by omega), if_neg (by omega), if_neg (by omega), if_neg (by omega), if_pos (by omega)]
      rw [e]
      unfold cf_move
      dsimp only
      rw [if_neg (by omega), if_neg (by omega), if_neg (by omega), if_neg (by omega), if_pos (by omega), if_pos (by omega), show 13 + p1 - 13 = p1 by omega]
    · cases hm
  split at hm
  · split at hm
    · cases hm
      have e : cf_inv (p0, p1, p2, s0, s1) mv = 16 + p2 := by
        unfold cf_inv; rw [if_neg (by omega), if_neg (by omega), if_neg (by omega), if_neg (by omega), if_neg (by omega), if_neg (by omega), if_pos (by omega)]
      rw [e]
      unfold cf_move
      dsimp only
      rw [if_neg (by omega), if_neg (by omega), if_neg (by omega), if_neg (by omega), if_neg (by omega), if_pos (by omega), if_pos (by omega), show 16 + p2 - 16 = p2 by omega]
    · cases hm
  · cases hm
end CF
/-! the class's rows of poses and steps, and a configuration -/
def cf_as (pa : Nat) (c : xCf) (po sp : Nat → Int) : Prop := po 0 = c.1 ∧ po 1 = c.2.1 ∧ (2 < pa → po 2 = c.2.2.1) ∧ sp 0 = c.2.2.2.1 ∧ sp 1 = c.2.2.2.2
section CF2
variable {ld dg : Nat → Int} {pa jo : Nat} {wa sr pu ri : Int}
theorem cf_from (h : vB ld dg pa jo wa sr pu ri) {c : xCf} {po sp : Nat → Int} (hc : cf_ok pa jo wa sr c) (ha : cf_as pa c po sp) : sp_from ld po pa 0 = cf_all ld pa c ∧ sp_from ld po pa 1 = cf_beh ld pa c 0 ∧ sp_from ld po pa 2 = cf_beh ld pa c 1 := by
  obtain ⟨p0, p1, p2, s0, s1⟩ := c
  obtain ⟨c1, c2, c3, c4, c5⟩ := hc
  obtain ⟨a1, a2, a3, a4, a5⟩ := ha
  dsimp only at c1 c2 c3 a1 a2 a3
  have h0 := h.1
  have e0 : sp_ld ld 0 (po 0) = cf_l ld 0 p0 := by
    unfold sp_ld cf_l
    rw [a1, if_pos ⟨⟨by omega, by omega⟩, by omega, by omega⟩]
    congr 1; omega
  have e1 : sp_ld ld 1 (po 1) = cf_l ld 1 p1 := by
    unfold sp_ld cf_l
    rw [a2, if_pos ⟨⟨by omega, by omega⟩, by omega, by omega⟩]
    congr 1; omega
  unfold sp_from cf_all cf_beh
  dsimp only
  by_cases hp : 2 < pa
  · have e2 : sp_ld ld 2 (po 2) = cf_l ld 2 p2 := by
      unfold sp_ld cf_l
      rw [a3 hp, if_pos ⟨⟨by omega, by omega⟩, by omega, by omega⟩]
      congr 1; omega
    simp only [e0, e1, e2, if_pos hp]
    refine ⟨?_, ?_, ?_⟩ <;> (repeat' split) <;> omega
  · simp only [e0, e1, if_neg hp]
    refine ⟨?_, ?_, ?_⟩ <;> (repeat' split) <;> omega
theorem cf_last {tj tb : Int} {po : Nat → Int} (b : Int) (hb : b = 1 ∨ b = -1) (j : Nat) (h0 : 1 ≤ dg j) (hj : j < 2) (e1 : tj = (j : Int)) (e2 : tb = b * sp_dg dg (j : Int)) : sp_last ld po pa tj tb = -((b * dg j * sp_from ld po pa ((j : Int) + 1)).tdiv (sp_from ld po pa 0)) := by
  have e3 : sp_dg dg (j : Int) = dg j := by unfold sp_dg; rw [if_pos ⟨by omega, by omega⟩]; rfl
  unfold sp_last
  rw [e2, e3, e1, if_neg (by rcases hb with rfl | rfl <;> omega)]
end CF2
