/-! the class's moves that don't fail, told in order; states and what is behind them -/
def kst (sj mv : Int) : Prop := (0 < mv ∧ mv < 10) ∧ (mv - 1) / 2 = sj
def kst_d (sj mv : Int) : Decidable (kst sj mv) := by unfold kst; exact inferInstance
def kstB (sj mv : Int) : Bool := decide (0 < mv) && decide (mv < 10) && decide ((mv - 1) / 2 = sj)
theorem kstB_t {sj mv : Int} : kstB sj mv = true ↔ kst sj mv := by
  unfold kstB kst
  rw [Bool.and_eq_true, Bool.and_eq_true, decide_eq_true_iff, decide_eq_true_iff, decide_eq_true_iff]
theorem kstB_f {sj mv : Int} : kstB sj mv = false ↔ ¬ kst sj mv := by
  rw [← kstB_t]
  cases kstB sj mv <;> decide
def kmv (pa jo : Nat) (wa sr sj : Int) (n : Int) (m : Nat) : Option xCf := if m ≤ 18 ∧ kstB sj (m : Int) = false then cf_move pa jo wa sr (kD pa jo wa sr sj n) (m : Int) else none
def kc (pa jo : Nat) (wa sr sj : Int) (n : Int) : Nat → Nat
  | 0 => 0
  | m + 1 => kc pa jo wa sr sj n m + (if (kmv pa jo wa sr sj n m).isSome = true then 1 else 0)
def kw (ld dg : Nat → Int) (pa jo : Nat) (wa sr pu sj : Int) (n : Int) (m : Nat) : Nat := match kmv pa jo wa sr sj n m with
  | some c' => m + 32 * (kE pa jo wa sr sj c').toNat + 65536 * (cf_turn ld dg pa pu c' (m : Int) % 360).toNat
  | none => 0
def kx (pa jo : Nat) (wa sr sj : Int) (c : xCf) (u : Int) : Nat := (360 * kE pa jo wa sr sj c + u).toNat
def knx (ld dg : Nat → Int) (pa jo : Nat) (wa sr pu sj : Int) (x m : Nat) : Option Nat := (kmv pa jo wa sr sj ((x / 360 : Nat) : Int) m).map (fun c' => kx pa jo wa sr sj c' ((((x % 360 : Nat) : Int) + cf_turn ld dg pa pu c' (m : Int)) % 360))
def kans (pa jo : Nat) (wa sr ri sj : Int) (t : Int) (x : Nat) : Prop := cf_str (kD pa jo wa sr sj ((x / 360 : Nat) : Int)) ∧ sp_off (t + ((x % 360 : Nat) : Int)) 0 ≤ ri
def kJ (jo : Nat) (sj : Int) : Int := if sj = 0 then (if jo = 1 then 0 else 2) else if sj = 1 then 1 else (if jo = 1 then 1 else 3)
section KM
variable {ld dg : Nat → Int} {pa jo : Nat} {wa sr pu ri sj : Int}
theorem cs_move (h : vB ld dg pa jo wa sr pu ri) {c c' : xCf} {mv : Int} (hc : cs_ok pa jo wa sr sj c) (hmv : 0 ≤ mv ∧ mv ≤ 18) (hs : ¬ kst sj mv) (hm : cf_move pa jo wa sr c mv = some c') : cs_ok pa jo wa sr sj c' := by
  obtain ⟨h1, k0, k1⟩ := hc
  refine ⟨cf_move_ok h h1 hm, ?_⟩
  unfold kst at hs
  by_cases m0 : mv = 0
  · subst m0
    rw [cf_m0] at hm
    cases hm
    exact ⟨k0, k1⟩
  by_cases m1 : mv = 1
  · subst m1
    rw [cf_m1] at hm
    split at hm
    · obtain ⟨s, hs2, he⟩ := Option.map_eq_some_iff.mp hm
      rw [← he]
      exact ⟨fun z => absurd z (by omega), k1⟩
    · cases hm
  by_cases m2 : mv = 2
  · subst m2
    rw [cf_m2] at hm
    split at hm
    · obtain ⟨s, hs2, he⟩ := Option.map_eq_some_iff.mp hm
      rw [← he]
      exact ⟨fun z => absurd z (by omega), k1⟩
    · cases hm
  by_cases m3 : mv = 3
  · subst m3
    rw [cf_m3] at hm
    split at hm
    · obtain ⟨s, hs2, he⟩ := Option.map_eq_some_iff.mp hm
      rw [← he]
      exact ⟨k0, fun z => absurd z (by omega)⟩
    · cases hm
  by_cases m4 : mv = 4
  · subst m4
    rw [cf_m4] at hm
    split at hm
    · obtain ⟨s, hs2, he⟩ := Option.map_eq_some_iff.mp hm
      rw [← he]
      exact ⟨k0, fun z => absurd z (by omega)⟩
    · cases hm
  by_cases m9 : mv ≤ 9
  · rw [cf_m9 c ⟨by omega, m9⟩] at hm
    cases hm
  by_cases p0 : mv ≤ 12
  · rw [cf_mp0 c ⟨by omega, p0⟩] at hm
    split at hm
    · cases hm
      exact ⟨k0, k1⟩
    · cases hm
  by_cases p1 : mv ≤ 15
  · rw [cf_mp1 c ⟨by omega, p1⟩] at hm
    split at hm
    · cases hm
      exact ⟨k0, k1⟩
    · cases hm
  · rw [cf_mp2 c ⟨by omega, hmv.2⟩] at hm
    split at hm
    · cases hm
      exact ⟨k0, k1⟩
    · cases hm
theorem kmv_i {n : Int} {m : Nat} {c' : xCf} (hm : kmv pa jo wa sr sj n m = some c') : m ≤ 18 ∧ ¬ kst sj (m : Int) ∧ cf_move pa jo wa sr (kD pa jo wa sr sj n) (m : Int) = some c' := by
  unfold kmv at hm
  split at hm
  · rename_i e
    exact ⟨e.1, kstB_f.mp e.2, hm⟩
  · cases hm
theorem kmv_ok (h : vB ld dg pa jo wa sr pu ri) {n : Int} (hn : 0 ≤ n ∧ n < kN pa jo wa sr sj) {m : Nat} {c' : xCf} (hm : kmv pa jo wa sr sj n m = some c') : cs_ok pa jo wa sr sj c' := by
  obtain ⟨e1, e2, e3⟩ := kmv_i hm
  exact cs_move h (kD_ok h hn).1 (by omega) e2 e3
theorem kmv_y {n : Int} {m : Nat} (h1 : m ≤ 18) (h2 : ¬ kst sj (m : Int)) : kmv pa jo wa sr sj n m = cf_move pa jo wa sr (kD pa jo wa sr sj n) (m : Int) := by
  unfold kmv
  rw [if_pos ⟨h1, kstB_f.mpr h2⟩]
theorem kmv_n {n : Int} {m : Nat} (h : ¬ m ≤ 18 ∨ kst sj (m : Int)) : kmv pa jo wa sr sj n m = none := by
  unfold kmv
  rw [if_neg (fun z => h.elim (fun q => q z.1) (fun q => kstB_f.mp z.2 q))]
theorem kc_le (n : Int) (a : Nat) : ∀ d, kc pa jo wa sr sj n a ≤ kc pa jo wa sr sj n (a + d) ∧ kc pa jo wa sr sj n (a + d) ≤ kc pa jo wa sr sj n a + d
  | 0 => ⟨Nat.le_refl _, Nat.le_refl _⟩
  | d + 1 => by
    have ih := kc_le n a d
    have e : kc pa jo wa sr sj n (a + (d + 1)) = kc pa jo wa sr sj n (a + d) + (if (kmv pa jo wa sr sj n (a + d)).isSome = true then 1 else 0) := rfl
    rw [e]
    split <;> omega
theorem kc_y {n : Int} {m : Nat} {c' : xCf} (h : kmv pa jo wa sr sj n m = some c') : kc pa jo wa sr sj n (m + 1) = kc pa jo wa sr sj n m + 1 := by
  show kc pa jo wa sr sj n m + (if (kmv pa jo wa sr sj n m).isSome = true then 1 else 0) = _
  rw [h]
  rfl
theorem kc_n {n : Int} {m : Nat} (h : kmv pa jo wa sr sj n m = none) : kc pa jo wa sr sj n (m + 1) = kc pa jo wa sr sj n m := by
  show kc pa jo wa sr sj n m + (if (kmv pa jo wa sr sj n m).isSome = true then 1 else 0) = _
  rw [h]
  rfl
theorem kc_3 {n : Int} {a b : Nat} (hb : a ≤ b ∧ b < a + 3) (h : kmv pa jo wa sr sj n b = none) : kc pa jo wa sr sj n (a + 3) ≤ kc pa jo wa sr sj n a + 2 := by
  have e := kc_n h
  have k1 := kc_le (pa := pa) (jo := jo) (wa := wa) (sr := sr) (sj := sj) n a (b - a)
  have k2 := kc_le (pa := pa) (jo := jo) (wa := wa) (sr := sr) (sj := sj) n (b + 1) (a + 3 - (b + 1))
  rw [show a + (b - a) = b by omega] at k1
  rw [show b + 1 + (a + 3 - (b + 1)) = a + 3 by omega] at k2
  omega
theorem kmv_same {n : Int} {m : Nat} (h : m ≤ 18) (hn : cf_move pa jo wa sr (kD pa jo wa sr sj n) (m : Int) = none) : kmv pa jo wa sr sj n m = none := by
  by_cases e : kst sj (m : Int)
  · exact kmv_n (Or.inr e)
  · rw [kmv_y h e]
    exact hn
theorem kc_11 (n : Int) : kc pa jo wa sr sj n 19 ≤ 11 := by
  have a0 := (kc_le (pa := pa) (jo := jo) (wa := wa) (sr := sr) (sj := sj) n 0 5).2
  have z0 : kc pa jo wa sr sj n 0 = 0 := rfl
  have n9 : ∀ m, 5 ≤ m → m ≤ 9 → kc pa jo wa sr sj n (m + 1) = kc pa jo wa sr sj n m := fun m h1 h2 => kc_n (kmv_same (by omega) (cf_m9 _ ⟨by omega, by omega⟩))
  have e5 := n9 5 (by omega) (by omega)
  have e6 := n9 6 (by omega) (by omega)
  have e7 := n9 7 (by omega) (by omega)
  have e8 := n9 8 (by omega) (by omega)
  have e9 := n9 9 (by omega) (by omega)
  have b0 : 0 ≤ (kD pa jo wa sr sj n).1 ∧ (kD pa jo wa sr sj n).1 ≤ 2 := by unfold kD; dsimp only; omega
  have b1 : 0 ≤ (kD pa jo wa sr sj n).2.1 ∧ (kD pa jo wa sr sj n).2.1 ≤ 2 := by unfold kD; dsimp only; omega
  have b2 : 0 ≤ (kD pa jo wa sr sj n).2.2.1 ∧ (kD pa jo wa sr sj n).2.2.1 ≤ 2 := by unfold kD; dsimp only; split <;> omega
  have c0 := kc_3 (pa := pa) (jo := jo) (wa := wa) (sr := sr) (sj := sj) (a := 10) (b := 10 + (kD pa jo wa sr sj n).1.toNat) (n := n) (by omega) (kmv_same (by omega) (by rw [cf_mp0 _ (by omega), if_neg (fun z => z (by omega))]))
  have c1 := kc_3 (pa := pa) (jo := jo) (wa := wa) (sr := sr) (sj := sj) (a := 13) (b := 13 + (kD pa jo wa sr sj n).2.1.toNat) (n := n) (by omega) (kmv_same (by omega) (by rw [cf_mp1 _ (by omega), if_neg (fun z => z (by omega))]))
  have c2 := kc_3 (pa := pa) (jo := jo) (wa := wa) (sr := sr) (sj := sj) (a := 16) (b := 16 + (kD pa jo wa sr sj n).2.2.1.toNat) (n := n) (by omega) (kmv_same (by omega) (by rw [cf_mp2 _ (by omega), if_neg (fun z => z.2 (by omega))]))
  have f1 : 0 + 5 = 5 := rfl
  rw [f1] at a0
  have f2 : 10 + 3 = 13 := rfl
  have f3 : 13 + 3 = 16 := rfl
  have f4 : 16 + 3 = 19 := rfl
  rw [f2] at c0
  rw [f3] at c1
  rw [f4] at c2
  have g5 : kc pa jo wa sr sj n (5 + 1) = kc pa jo wa sr sj n 6 := rfl
  have g6 : kc pa jo wa sr sj n (6 + 1) = kc pa jo wa sr sj n 7 := rfl
  have g7 : kc pa jo wa sr sj n (7 + 1) = kc pa jo wa sr sj n 8 := rfl
  have g8 : kc pa jo wa sr sj n (8 + 1) = kc pa jo wa sr sj n 9 := rfl
  have g9 : kc pa jo wa sr sj n (9 + 1) = kc pa jo wa sr sj n 10 := rfl
  omega
theorem kc_pos (n : Int) (hs : -1 ≤ sj) : 1 ≤ kc pa jo wa sr sj n 19 := by
  have e : kmv pa jo wa sr sj n 0 = some (kD pa jo wa sr sj n) := by
    rw [kmv_y (by decide) (fun z => by have := z.1.1; omega)]
    exact cf_m0 _
  have k1 := kc_y e
  have k2 := (kc_le (pa := pa) (jo := jo) (wa := wa) (sr := sr) (sj := sj) n 1 18).1
  have k0 : kc pa jo wa sr sj n 0 = 0 := rfl
  have f : kc pa jo wa sr sj n (0 + 1) = kc pa jo wa sr sj n 1 := rfl
  have f2 : kc pa jo wa sr sj n (1 + 18) = kc pa jo wa sr sj n 19 := rfl
  omega
/-- the moves are told apart by where they lead -/
theorem cf_step_ne (h : vB ld dg pa jo wa sr pu ri) {j : Nat} (hj : j < jo) {s a : Int} (hs : cf_in jo wa sr j s) {d : Int} (hd : d = 1 ∨ d = -1) (ha : cf_step wa sr j s d = some a) : a ≠ s ∧ (d = -1 → cf_step wa sr j s 1 ≠ some a) := by
  have hw := h.wag
  unfold cf_in cf_st cf_z at hs
  rw [if_pos hj] at hs
  unfold cf_step at ha ⊢
  by_cases e : (j : Int) = wa
  · rw [if_pos e] at ha ⊢
    rw [if_pos e, if_neg (fun z => z.2 e)] at hs
    cases ha
    have h3 : 3 ≤ sr ∧ sr ≤ 12 := by omega
    have go : (s + d) % sr ≠ s ∧ (d = -1 → (s + 1) % sr ≠ (s + d) % sr) := by
      rcases (show sr = 3 ∨ sr = 4 ∨ sr = 5 ∨ sr = 6 ∨ sr = 7 ∨ sr = 8 ∨ sr = 9 ∨ sr = 10 ∨ sr = 11 ∨ sr = 12 by omega) with z | z | z | z | z | z | z | z | z | z <;> subst z <;> omega
    exact ⟨go.1, fun z q => go.2 z (Option.some.inj q)⟩
  · rw [if_neg e] at ha ⊢
    split at ha
    · cases ha
      refine ⟨by omega, fun z q => ?_⟩
      split at q
      · have := Option.some.inj q
        omega
      · cases q
    · cases ha
def ksg (wa sr : Int) (c c' : xCf) : Int := if c'.1 ≠ c.1 then 10 + c'.1 else if c'.2.1 ≠ c.2.1 then 13 + c'.2.1 else if c'.2.2.1 ≠ c.2.2.1 then 16 + c'.2.2.1 else if c'.2.2.2.1 ≠ c.2.2.2.1 then (if cf_step wa sr 0 c.2.2.2.1 1 = some c'.2.2.2.1 then 1 else 2) else if c'.2.2.2.2 ≠ c.2.2.2.2 then (if cf_step wa sr 1 c.2.2.2.2 1 = some c'.2.2.2.2 then 3 else 4) else 0
theorem ksg_is (h : vB ld dg pa jo wa sr pu ri) {c c' : xCf} {mv : Int} (hc : cf_ok pa jo wa sr c) (hmv : 0 ≤ mv ∧ mv ≤ 18) (hm : cf_move pa jo wa sr c mv = some c') : mv = ksg wa sr c c' := by
  obtain ⟨-, -, -, i0, i1⟩ := hc
  by_cases m0 : mv = 0
  · subst m0
    rw [cf_m0] at hm
    cases hm
    unfold ksg
    rw [if_neg (fun z => z rfl), if_neg (fun z => z rfl), if_neg (fun z => z rfl), if_neg (fun z => z rfl), if_neg (fun z => z rfl)]
  by_cases m1 : mv = 1
  · subst m1
    rw [cf_m1] at hm
    split at hm
    · rename_i hj
      obtain ⟨s, hs2, he⟩ := Option.map_eq_some_iff.mp hm
      obtain ⟨n1, n2⟩ := cf_step_ne h hj i0 (Or.inl rfl) hs2
      rw [← he]
      unfold ksg
      rw [if_neg (fun z => z rfl), if_neg (fun z => z rfl), if_neg (fun z => z rfl), if_pos n1, if_pos hs2]
    · cases hm
  by_cases m2 : mv = 2
  · subst m2
    rw [cf_m2] at hm
    split at hm
    · rename_i hj
      obtain ⟨s, hs2, he⟩ := Option.map_eq_some_iff.mp hm
      obtain ⟨n1, n2⟩ := cf_step_ne h hj i0 (Or.inr rfl) hs2
      rw [← he]
      unfold ksg
      rw [if_neg (fun z => z rfl), if_neg (fun z => z rfl), if_neg (fun z => z rfl), if_pos n1, if_neg (n2 rfl)]
    · cases hm
  by_cases m3 : mv = 3
  · subst m3
    rw [cf_m3] at hm
    split at hm
    · rename_i hj
      obtain ⟨s, hs2, he⟩ := Option.map_eq_some_iff.mp hm
      obtain ⟨n1, n2⟩ := cf_step_ne h hj i1 (Or.inl rfl) hs2
      rw [← he]
      unfold ksg
      rw [if_neg (fun z => z rfl), if_neg (fun z => z rfl), if_neg (fun z => z rfl), if_neg (fun z => z rfl), if_pos n1, if_pos hs2]
    · cases hm
  by_cases m4 : mv = 4
  · subst m4
    rw [cf_m4] at hm
    split at hm
    · rename_i hj
      obtain ⟨s, hs2, he⟩ := Option.map_eq_some_iff.mp hm
      obtain ⟨n1, n2⟩ := cf_step_ne h hj i1 (Or.inr rfl) hs2
      rw [← he]
      unfold ksg
      rw [if_neg (fun z => z rfl), if_neg (fun z => z rfl), if_neg (fun z => z rfl), if_neg (fun z => z rfl), if_pos n1, if_neg (n2 rfl)]
    · cases hm
  by_cases m9 : mv ≤ 9
  · rw [cf_m9 c ⟨by omega, m9⟩] at hm
    cases hm
  by_cases p0 : mv ≤ 12
  · rw [cf_mp0 c ⟨by omega, p0⟩] at hm
    split at hm
    · rename_i e
      cases hm
      unfold ksg
      rw [if_pos (fun z => e (Eq.symm z))]
      dsimp only
      omega
    · cases hm
  by_cases p1 : mv ≤ 15
  · rw [cf_mp1 c ⟨by omega, p1⟩] at hm
    split at hm
    · rename_i e
      cases hm
      unfold ksg
      rw [if_neg (fun z => z rfl), if_pos (fun z => e (Eq.symm z))]
      dsimp only
      omega
    · cases hm
  · rw [cf_mp2 c ⟨by omega, hmv.2⟩] at hm
    split at hm
    · rename_i e
      cases hm
      unfold ksg
      rw [if_neg (fun z => z rfl), if_neg (fun z => z rfl), if_pos (fun z => e.2 (Eq.symm z))]
      dsimp only
      omega
    · cases hm
theorem kmv_u (h : vB ld dg pa jo wa sr pu ri) {n : Int} (hn : 0 ≤ n ∧ n < kN pa jo wa sr sj) {m m' : Nat} {c c' : xCf} (hm : kmv pa jo wa sr sj n m = some c) (hm' : kmv pa jo wa sr sj n m' = some c') (he : kE pa jo wa sr sj c = kE pa jo wa sr sj c') : m = m' := by
  have e : c = c' := by
    rw [← kE_D h (kmv_ok h hn hm), ← kE_D h (kmv_ok h hn hm'), he]
  subst e
  obtain ⟨e1, e2, e3⟩ := kmv_i hm
  obtain ⟨f1, f2, f3⟩ := kmv_i hm'
  have hc := (kD_ok h hn).1.1
  have g1 := ksg_is h hc (by omega) e3
  have g2 := ksg_is h hc (by omega) f3
  omega
/-- the states -/
theorem kx_b (h : vB ld dg pa jo wa sr pu ri) {c : xCf} (hc : cs_ok pa jo wa sr sj c) {u : Int} (hu : 0 ≤ u ∧ u < 360) : kx pa jo wa sr sj c u < (360 * kN pa jo wa sr sj).toNat ∧ ((kx pa jo wa sr sj c u : Nat) : Int) = 360 * kE pa jo wa sr sj c + u ∧ ((kx pa jo wa sr sj c u / 360 : Nat) : Int) = kE pa jo wa sr sj c ∧ ((kx pa jo wa sr sj c u % 360 : Nat) : Int) = u := by
  have k := kE_b h hc
  unfold kx
  omega
theorem kx_D (h : vB ld dg pa jo wa sr pu ri) {x : Nat} (hx : x < (360 * kN pa jo wa sr sj).toNat) : cs_ok pa jo wa sr sj (kD pa jo wa sr sj ((x / 360 : Nat) : Int)) ∧ kE pa jo wa sr sj (kD pa jo wa sr sj ((x / 360 : Nat) : Int)) = ((x / 360 : Nat) : Int) ∧ x = kx pa jo wa sr sj (kD pa jo wa sr sj ((x / 360 : Nat) : Int)) ((x % 360 : Nat) : Int) ∧ (0 ≤ ((x / 360 : Nat) : Int) ∧ ((x / 360 : Nat) : Int) < kN pa jo wa sr sj) := by
  have hb : 0 ≤ ((x / 360 : Nat) : Int) ∧ ((x / 360 : Nat) : Int) < kN pa jo wa sr sj := by omega
  obtain ⟨k1, k2⟩ := kD_ok h hb
  refine ⟨k1, k2, ?_, hb⟩
  unfold kx
  rw [k2]
  omega
theorem kx_st (h : vB ld dg pa jo wa sr pu ri) {c : xCf} (hc : cs_ok pa jo wa sr sj c) {u : Int} (hu : 0 ≤ u ∧ u < 360) : kD pa jo wa sr sj ((kx pa jo wa sr sj c u / 360 : Nat) : Int) = c := by
  rw [(kx_b h hc hu).2.2.1]
  exact kE_D h hc
theorem knx_c (h : vB ld dg pa jo wa sr pu ri) {c : xCf} (hc : cs_ok pa jo wa sr sj c) {u : Int} (hu : 0 ≤ u ∧ u < 360) {m : Nat} (hm : m ≤ 18) (hs : ¬ kst sj (m : Int)) : knx ld dg pa jo wa sr pu sj (kx pa jo wa sr sj c u) m = (cf_move pa jo wa sr c (m : Int)).map (fun c' => kx pa jo wa sr sj c' ((u + cf_turn ld dg pa pu c' (m : Int)) % 360)) := by
  unfold knx
  rw [kmv_y hm hs, kx_st h hc hu, (kx_b h hc hu).2.2.2]
theorem kans_c (h : vB ld dg pa jo wa sr pu ri) {c : xCf} (hc : cs_ok pa jo wa sr sj c) {u : Int} (hu : 0 ≤ u ∧ u < 360) {t : Int} : kans pa jo wa sr ri sj t (kx pa jo wa sr sj c u) ↔ cf_str c ∧ sp_off (t + u) 0 ≤ ri := by
  unfold kans
  rw [kx_st h hc hu, (kx_b h hc hu).2.2.2]
theorem kst_j (h : vB ld dg pa jo wa sr pu ri) (hsj : -1 ≤ sj ∧ sj < jo) {c c' : xCf} {mv : Int} (hmv : 0 ≤ mv ∧ mv ≤ 18) (hm : cf_move pa jo wa sr c mv = some c') : jOk (kJ jo sj) mv ↔ ¬ kst sj mv := by
  have hj := cf_move_j hm
  have h0 := h.1
  unfold jOk kJ kst
  constructor
  · intro q z
    split at q
    · split at q <;> omega
    · split at q
      · omega
      · omega
  · intro q
    split
    · split <;> (constructor <;> intro z <;> omega)
    · split
      · constructor <;> intro z <;> omega
      · split <;> (constructor <;> intro z <;> omega)
theorem sp_off_m (t u : Int) : sp_off ((t + u) % 360) 0 = sp_off (t + u) 0 := by
  unfold sp_off
  rw [Int.sub_zero, Int.sub_zero, Int.emod_emod_of_dvd _ (Int.dvd_refl 360)]
theorem gd_nx (h : vB ld dg pa jo wa sr pu ri) (hsj : -1 ≤ sj ∧ sj < jo) {t : Int} : ∀ (l : Nat) (c : xCf) (u : Int), cs_ok pa jo wa sr sj c → (0 ≤ u ∧ u < 360) → (gd ld dg pa jo wa sr pu ri (kJ jo sj) l c ((t + u) % 360) ↔ ∃ ms : List Nat, ms.length = l ∧ ∃ y, nxs (knx ld dg pa jo wa sr pu sj) ms (kx pa jo wa sr sj c u) = some y ∧ kans pa jo wa sr ri sj t y)
  | 0, c, u, hc, hu => by
    constructor
    · intro g
      have g' : cf_str c ∧ sp_off ((t + u) % 360) 0 ≤ ri := g
      rw [sp_off_m] at g'
      exact ⟨[], rfl, _, rfl, (kans_c h hc hu).mpr g'⟩
    · rintro ⟨ms, hl, y, hy, ha⟩
      have e : ms = [] := List.eq_nil_of_length_eq_zero hl
      subst e
      have hy' : some (kx pa jo wa sr sj c u) = some y := hy
      cases hy'
      have k := (kans_c h hc hu).mp ha
      show cf_str c ∧ sp_off ((t + u) % 360) 0 ≤ ri
      rw [sp_off_m]
      exact k
  | l + 1, c, u, hc, hu => by
    constructor
    · rintro ⟨mv, c', hmv, hj, hm, hg⟩
      have hk := (kst_j h hsj hmv hm).mp hj
      have hc' := cs_move h hc hmv hk hm
      rw [show ((t + u) % 360 + cf_turn ld dg pa pu c' mv) % 360 = (t + (u + cf_turn ld dg pa pu c' mv) % 360) % 360 by omega] at hg
      obtain ⟨ms, hl, y, hy, ha⟩ := (gd_nx h hsj l c' _ hc' (by omega)).mp hg
      refine ⟨mv.toNat :: ms, by rw [List.length_cons, hl], y, ?_, ha⟩
      show (knx ld dg pa jo wa sr pu sj (kx pa jo wa sr sj c u) mv.toNat).bind (nxs (knx ld dg pa jo wa sr pu sj) ms) = some y
      have e : ((mv.toNat : Nat) : Int) = mv := by omega
      rw [knx_c h hc hu (by omega) (by rw [e]; exact hk), e, hm]
      exact hy
    · rintro ⟨ms, hl, y, hy, ha⟩
      cases ms with
      | nil => cases hl
      | cons m ms =>
        have hl' : ms.length = l := Nat.succ.inj hl
        have hy' : (knx ld dg pa jo wa sr pu sj (kx pa jo wa sr sj c u) m).bind (nxs (knx ld dg pa jo wa sr pu sj) ms) = some y := hy
        cases hk : kmv pa jo wa sr sj ((kx pa jo wa sr sj c u / 360 : Nat) : Int) m with
        | none =>
          unfold knx at hy'
          rw [hk] at hy'
          cases hy'
        | some c' =>
          obtain ⟨e1, e2, e3⟩ := kmv_i hk
          rw [kx_st h hc hu] at e3
          rw [knx_c h hc hu e1 e2, e3] at hy'
          have hc' := cs_move h hc (by omega) e2 e3
          have g := (gd_nx h hsj l c' ((u + cf_turn ld dg pa pu c' (m : Int)) % 360) hc' (by omega)).mpr ⟨ms, hl', y, hy', ha⟩
          rw [show (t + (u + cf_turn ld dg pa pu c' (m : Int)) % 360) % 360 = ((t + u) % 360 + cf_turn ld dg pa pu c' (m : Int)) % 360 by omega] at g
          exact ⟨(m : Int), c', by omega, (kst_j h hsj (by omega) e3).mpr e2, e3, g⟩
theorem knx_b (h : vB ld dg pa jo wa sr pu ri) {x m y : Nat} (hx : x < (360 * kN pa jo wa sr sj).toNat) (hy : knx ld dg pa jo wa sr pu sj x m = some y) : y < (360 * kN pa jo wa sr sj).toNat := by
  unfold knx at hy
  obtain ⟨c', h1, h2⟩ := Option.map_eq_some_iff.mp hy
  obtain ⟨-, -, -, hb⟩ := kx_D h hx
  have hc' := kmv_ok h hb h1
  rw [← h2]
  exact (kx_b h hc' (by omega)).1
end KM
