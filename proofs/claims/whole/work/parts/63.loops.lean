/-! a body's free turns by common measures -/
section LP
variable {ld dg : Nat → Int} {pa jo : Nat} {wa sr pu ri J : Int}
/-- by how much a step more of joint j turns part 0, in these poses -/
def lp_g (ld dg : Nat → Int) (pa j : Nat) (c : xCf) : Int := -((dg j * cf_beh ld pa c j).tdiv (cf_all ld pa c))
theorem lp_t (c : xCf) {j : Nat} (hj : j < 2) : cf_turn ld dg pa 0 c (2 * (j : Int) + 1) = lp_g ld dg pa j c ∧ cf_turn ld dg pa 0 c (2 * (j : Int) + 2) = -lp_g ld dg pa j c := by
  unfold cf_turn lp_g
  rw [Int.zero_tdiv, Int.neg_neg]
  rcases (show j = 0 ∨ j = 1 by omega) with rfl | rfl
  · have e1 : cf_bend ld dg pa c (2 * ((0 : Nat) : Int) + 1) = (dg 0 * cf_beh ld pa c 0).tdiv (cf_all ld pa c) := rfl
    have e2 : cf_bend ld dg pa c (2 * ((0 : Nat) : Int) + 2) = (-dg 0 * cf_beh ld pa c 0).tdiv (cf_all ld pa c) := rfl
    rw [e1, e2, Int.neg_mul, Int.neg_tdiv]
    omega
  · have e1 : cf_bend ld dg pa c (2 * ((1 : Nat) : Int) + 1) = (dg 1 * cf_beh ld pa c 1).tdiv (cf_all ld pa c) := rfl
    have e2 : cf_bend ld dg pa c (2 * ((1 : Nat) : Int) + 2) = (-dg 1 * cf_beh ld pa c 1).tdiv (cf_all ld pa c) := rfl
    rw [e1, e2, Int.neg_mul, Int.neg_tdiv]
    omega
theorem lp_t0 (c : xCf) {mv : Int} (h : 5 ≤ mv) : cf_turn ld dg pa 0 c mv = 0 := by
  unfold cf_turn
  rw [Int.zero_tdiv, cf_b9 ld dg pa c (Or.inr h)]
  rfl
def lp_ps (n : Nat) : xCf := (((n / 9 : Nat) : Int), ((n / 3 % 3 : Nat) : Int), ((n % 3 : Nat) : Int), 0, 0)
def lp_a (ld dg : Nat → Int) (pa j : Nat) : Int := lp_g ld dg pa j (cf_rest pa)
def lp_m (ld dg : Nat → Int) (pa j M : Nat) : Nat → Nat
  | 0 => M
  | n + 1 => Nat.gcd (lp_m ld dg pa j M n) (lp_g ld dg pa j (lp_ps n) - lp_a ld dg pa j).natAbs
def lp_w (ld dg : Nat → Int) (pa : Nat) (wa sr : Int) (j M : Nat) : Nat := if (j : Int) = wa then Nat.gcd M (sr * lp_a ld dg pa j).natAbs else M
def lp_j (ld dg : Nat → Int) (pa : Nat) (wa sr : Int) (j M : Nat) : Nat := lp_m ld dg pa j (lp_w ld dg pa wa sr j M) 27
def lp_1 (ld dg : Nat → Int) (pa : Nat) (wa sr J : Int) : Nat := if J = 1 ∨ J = 3 then lp_j ld dg pa wa sr 0 360 else 360
def lp_M (ld dg : Nat → Int) (pa jo : Nat) (wa sr J : Int) : Nat := if (J = 2 ∨ J = 3) ∧ 1 < jo then lp_j ld dg pa wa sr 1 (lp_1 ld dg pa wa sr J) else lp_1 ld dg pa wa sr J
theorem lp_m_d (j M : Nat) : ∀ n, lp_m ld dg pa j M n ∣ M ∧ ∀ i, i < n → lp_m ld dg pa j M n ∣ (lp_g ld dg pa j (lp_ps i) - lp_a ld dg pa j).natAbs
  | 0 => ⟨Nat.dvd_refl _, fun i hi => absurd hi (Nat.not_lt_zero _)⟩
  | n + 1 => by
    obtain ⟨h1, h2⟩ := lp_m_d j M n
    have g := Nat.gcd_dvd_left (lp_m ld dg pa j M n) (lp_g ld dg pa j (lp_ps n) - lp_a ld dg pa j).natAbs
    refine ⟨Nat.dvd_trans g h1, fun i hi => ?_⟩
    by_cases e : i = n
    · subst e
      exact Nat.gcd_dvd_right _ _
    · exact Nat.dvd_trans g (h2 i (by omega))
theorem lp_ps_c (hB : vB ld dg pa jo wa sr pu ri) {c : xCf} (hc : cf_ok pa jo wa sr c) (j : Nat) : ∃ i, i < 27 ∧ lp_g ld dg pa j c = lp_g ld dg pa j (lp_ps i) := by
  obtain ⟨h0, h1, h2, -, -⟩ := hc
  obtain ⟨a, b, d, s, t⟩ := c
  dsimp only at h0 h1 h2
  obtain ⟨x, rfl⟩ : ∃ x : Nat, a = (x : Int) := ⟨a.toNat, by omega⟩
  obtain ⟨y, rfl⟩ : ∃ y : Nat, b = (y : Int) := ⟨b.toNat, by omega⟩
  obtain ⟨z, rfl⟩ : ∃ z : Nat, d = (z : Int) := ⟨d.toNat, by omega⟩
  refine ⟨9 * x + 3 * y + z, by omega, ?_⟩
  have e : lp_ps (9 * x + 3 * y + z) = ((x : Int), (y : Int), (z : Int), 0, 0) := by
    unfold lp_ps
    rw [show (9 * x + 3 * y + z) / 9 = x by omega, show (9 * x + 3 * y + z) / 3 % 3 = y by omega, show (9 * x + 3 * y + z) % 3 = z by omega]
  rw [e]
  rfl
theorem lp_j_d (hB : vB ld dg pa jo wa sr pu ri) (j M : Nat) : lp_j ld dg pa wa sr j M ∣ M ∧ (∀ c, cf_ok pa jo wa sr c → (lp_j ld dg pa wa sr j M : Int) ∣ lp_g ld dg pa j c - lp_a ld dg pa j) ∧ ((j : Int) = wa → (lp_j ld dg pa wa sr j M : Int) ∣ sr * lp_a ld dg pa j) := by
  obtain ⟨h1, h2⟩ := lp_m_d (ld := ld) (dg := dg) (pa := pa) j (lp_w ld dg pa wa sr j M) 27
  refine ⟨Nat.dvd_trans h1 ?_, fun c hc => ?_, fun e => ?_⟩
  · unfold lp_w
    split
    · exact Nat.gcd_dvd_left _ _
    · exact Nat.dvd_refl _
  · obtain ⟨i, hi, e⟩ := lp_ps_c hB hc j
    rw [e]
    exact Int.dvd_natAbs.mp (Int.natCast_dvd_natCast.mpr (h2 i hi))
  · refine Int.dvd_natAbs.mp (Int.natCast_dvd_natCast.mpr (Nat.dvd_trans h1 ?_))
    unfold lp_w
    rw [if_pos e]
    exact Nat.gcd_dvd_right _ _
theorem lp_d (hB : vB ld dg pa jo wa sr pu ri) : lp_M ld dg pa jo wa sr J ∣ 360 ∧ ∀ j : Nat, j < jo → (J = 3 ∨ J = (j : Int) + 1) → (∀ c, cf_ok pa jo wa sr c → (lp_M ld dg pa jo wa sr J : Int) ∣ lp_g ld dg pa j c - lp_a ld dg pa j) ∧ ((j : Int) = wa → (lp_M ld dg pa jo wa sr J : Int) ∣ sr * lp_a ld dg pa j) := by
  have hj0 := hB.1
  have d1 : lp_1 ld dg pa wa sr J ∣ 360 := by
    unfold lp_1
    split
    · exact (lp_j_d hB 0 360).1
    · exact Nat.dvd_refl _
  have d2 : lp_M ld dg pa jo wa sr J ∣ lp_1 ld dg pa wa sr J := by
    unfold lp_M
    split
    · exact (lp_j_d hB 1 _).1
    · exact Nat.dvd_refl _
  refine ⟨Nat.dvd_trans d2 d1, fun j hj ha => ?_⟩
  rcases (show j = 0 ∨ j = 1 by omega) with rfl | rfl
  · obtain ⟨q1, q2, q3⟩ := lp_j_d hB 0 360
    have e : lp_1 ld dg pa wa sr J = lp_j ld dg pa wa sr 0 360 := by
      unfold lp_1
      rw [if_pos (by omega)]
    rw [e] at d2
    have d3 := Int.natCast_dvd_natCast.mpr d2
    exact ⟨fun c hc => Int.dvd_trans d3 (q2 c hc), fun w => Int.dvd_trans d3 (q3 w)⟩
  · obtain ⟨q1, q2, q3⟩ := lp_j_d hB 1 (lp_1 ld dg pa wa sr J)
    have e : lp_M ld dg pa jo wa sr J = lp_j ld dg pa wa sr 1 (lp_1 ld dg pa wa sr J) := by
      unfold lp_M
      rw [if_pos ⟨by omega, hj⟩]
    rw [e]
    exact ⟨q2, q3⟩
/-- where a row of moves from rest can be, by steps alone -/
def lp_P (ld dg : Nat → Int) (pa jo : Nat) (J : Int) (c : xCf) : Int := (if J = 1 ∨ J = 3 then lp_a ld dg pa 0 * c.2.2.2.1 else 0) + (if (J = 2 ∨ J = 3) ∧ 1 < jo then lp_a ld dg pa 1 * c.2.2.2.2 else 0)
theorem lp_sum {M x y : Int} (h1 : M ∣ 360) (h2 : M ∣ x - y) : M ∣ x % 360 - y := by
  have e : x % 360 - y = (x - y) - 360 * (x / 360) := by omega
  rw [e]
  exact Int.dvd_sub h2 (Int.dvd_trans h1 (Int.dvd_mul_right _ _))
/-- a step of joint j: the turn and the steps go together -/
theorem lp_stp (hB : vB ld dg pa jo wa sr pu ri) {M g a : Int} {j : Nat} {s s' d : Int} (hj : j < jo) (hd : d = 1 ∨ d = -1) (hs : cf_in jo wa sr j s) (hm : cf_step wa sr j s d = some s') (h1 : M ∣ g - a) (h2 : (j : Int) = wa → M ∣ sr * a) : M ∣ d * g - (a * s' - a * s) := by
  have hw := hB.wag
  have key : ∃ k : Int, s' = s + d - sr * k ∧ (k ≠ 0 → (j : Int) = wa) := by
    unfold cf_step at hm
    by_cases e : (j : Int) = wa
    · rw [if_pos e] at hm
      cases hm
      refine ⟨(s + d) / sr, ?_, fun _ => e⟩
      have := Int.mul_ediv_add_emod (s + d) sr
      omega
    · rw [if_neg e] at hm
      split at hm
      · cases hm
        exact ⟨0, by omega, fun z => absurd rfl z⟩
      · cases hm
  obtain ⟨k, rfl, hk⟩ := key
  have e : d * g - (a * (s + d - sr * k) - a * s) = d * (g - a) + sr * a * k := by
    rw [Int.mul_sub, Int.mul_add, Int.mul_sub, Int.mul_comm d a, show a * (sr * k) = sr * a * k by rw [← Int.mul_assoc, Int.mul_comm a sr]]
    omega
  rw [e]
  refine Int.dvd_add (Int.dvd_trans h1 (Int.dvd_mul_left _ _)) ?_
  by_cases z : k = 0
  · rw [z, Int.mul_zero]
    exact Int.dvd_zero _
  · exact Int.dvd_trans (h2 (hk z)) (Int.dvd_mul_right _ _)
theorem lp_up (hB : vB ld dg pa jo wa sr pu ri) : ∀ (l : Nat) (c : xCf) (t : Int), rc ld dg pa jo wa sr J l c t → (lp_M ld dg pa jo wa sr J : Int) ∣ t - lp_P ld dg pa jo J c
  | 0, c, t, h => by
    obtain ⟨rfl, rfl⟩ := h
    have e : lp_P ld dg pa jo J (cf_rest pa) = 0 := by
      unfold lp_P cf_rest
      dsimp only
      rw [Int.mul_zero, Int.mul_zero, ite_self, ite_self]
      rfl
    rw [e]
    exact Int.dvd_zero _
  | l + 1, c', t, h => by
    obtain ⟨c, t0, mv, hr, hmv, hj, hm, rfl⟩ := h
    have ih := lp_up hB l c t0 hr
    obtain ⟨hc, ht0⟩ := rc_ok hB l hr
    have hc' := cf_move_ok hB hc hm
    obtain ⟨dM, dj⟩ := lp_d (J := J) hB
    have dM' : (lp_M ld dg pa jo wa sr J : Int) ∣ 360 := Int.natCast_dvd_natCast.mpr dM
    refine lp_sum dM' ?_
    have hj0 := hB.1
    have main : (lp_M ld dg pa jo wa sr J : Int) ∣ cf_turn ld dg pa 0 c' mv - (lp_P ld dg pa jo J c' - lp_P ld dg pa jo J c) := by
      have step : ∀ (j : Nat) (d : Int), (d = 1 ∨ d = -1) → j < jo → (J = 3 ∨ J = (j : Int) + 1) → cf_turn ld dg pa 0 c' mv = d * lp_g ld dg pa j c' → (∀ s, cf_step wa sr j (if j = 0 then c.2.2.2.1 else c.2.2.2.2) d = some s → c' = (if j = 0 then (c.1, c.2.1, c.2.2.1, s, c.2.2.2.2) else (c.1, c.2.1, c.2.2.1, c.2.2.2.1, s)) → (lp_M ld dg pa jo wa sr J : Int) ∣ cf_turn ld dg pa 0 c' mv - (lp_P ld dg pa jo J c' - lp_P ld dg pa jo J c)) := by
        intro j d hd hjj hact htu s hs he
        obtain ⟨g1, g2⟩ := dj j hjj hact
        rcases (show j = 0 ∨ j = 1 by omega) with rfl | rfl
        · have k := lp_stp hB hjj hd hc.2.2.2.1 hs (g1 c' hc') g2
          rw [htu]
          have e : lp_P ld dg pa jo J c' - lp_P ld dg pa jo J c = lp_a ld dg pa 0 * s - lp_a ld dg pa 0 * c.2.2.2.1 := by
            rw [he]
            unfold lp_P
            rw [if_pos rfl, if_pos (show J = 1 ∨ J = 3 by omega), if_pos (show J = 1 ∨ J = 3 by omega)]
            dsimp only
            omega
          rw [e]
          exact k
        · have k := lp_stp hB hjj hd hc.2.2.2.2 hs (g1 c' hc') g2
          rw [htu]
          have e : lp_P ld dg pa jo J c' - lp_P ld dg pa jo J c = lp_a ld dg pa 1 * s - lp_a ld dg pa 1 * c.2.2.2.2 := by
            rw [he]
            unfold lp_P
            rw [if_neg (show ¬ (1 : Nat) = 0 by decide), if_pos (show (J = 2 ∨ J = 3) ∧ 1 < jo from ⟨by omega, hjj⟩), if_pos (show (J = 2 ∨ J = 3) ∧ 1 < jo from ⟨by omega, hjj⟩)]
            dsimp only
            omega
          rw [e]
          exact k
      have t0 := lp_t (ld := ld) (dg := dg) (pa := pa) c' (j := 0) (by decide)
      have t1 := lp_t (ld := ld) (dg := dg) (pa := pa) c' (j := 1) (by decide)
      obtain ⟨j1, j2⟩ := hj
      by_cases m1 : mv = 1
      · subst m1
        rw [cf_m1] at hm
        by_cases hjo : 0 < jo
        · rw [if_pos hjo] at hm
          obtain ⟨s, hs, he⟩ := Option.map_eq_some_iff.mp hm
          exact step 0 1 (Or.inl rfl) hjo (by omega) (by rw [Int.one_mul]; exact t0.1) s hs he.symm
        · rw [if_neg hjo] at hm
          cases hm
      by_cases m2 : mv = 2
      · subst m2
        rw [cf_m2] at hm
        by_cases hjo : 0 < jo
        · rw [if_pos hjo] at hm
          obtain ⟨s, hs, he⟩ := Option.map_eq_some_iff.mp hm
          exact step 0 (-1) (Or.inr rfl) hjo (by omega) (by rw [Int.neg_one_mul]; exact t0.2) s hs he.symm
        · rw [if_neg hjo] at hm
          cases hm
      by_cases m3 : mv = 3
      · subst m3
        rw [cf_m3] at hm
        by_cases hjo : 1 < jo
        · rw [if_pos hjo] at hm
          obtain ⟨s, hs, he⟩ := Option.map_eq_some_iff.mp hm
          exact step 1 1 (Or.inl rfl) hjo (by omega) (by rw [Int.one_mul]; exact t1.1) s hs he.symm
        · rw [if_neg hjo] at hm
          cases hm
      by_cases m4 : mv = 4
      · subst m4
        rw [cf_m4] at hm
        by_cases hjo : 1 < jo
        · rw [if_pos hjo] at hm
          obtain ⟨s, hs, he⟩ := Option.map_eq_some_iff.mp hm
          exact step 1 (-1) (Or.inr rfl) hjo (by omega) (by rw [Int.neg_one_mul]; exact t1.2) s hs he.symm
        · rw [if_neg hjo] at hm
          cases hm
      rw [lp_t0 c' (by omega)]
      have e : lp_P ld dg pa jo J c' = lp_P ld dg pa jo J c := by
        by_cases m9 : mv ≤ 9
        · rw [cf_m9 c ⟨by omega, m9⟩] at hm
          cases hm
        by_cases p0 : mv ≤ 12
        · rw [cf_mp0 c ⟨by omega, p0⟩] at hm
          split at hm
          · cases hm
            rfl
          · cases hm
        by_cases p1 : mv ≤ 15
        · rw [cf_mp1 c ⟨by omega, p1⟩] at hm
          split at hm
          · cases hm
            rfl
          · cases hm
        · rw [cf_mp2 c ⟨by omega, hmv.2⟩] at hm
          split at hm
          · cases hm
            rfl
          · cases hm
      rw [e, Int.sub_self]
      exact Int.dvd_zero _
    have e : t0 + cf_turn ld dg pa 0 c' mv - lp_P ld dg pa jo J c' = (t0 - lp_P ld dg pa jo J c) + (cf_turn ld dg pa 0 c' mv - (lp_P ld dg pa jo J c' - lp_P ld dg pa jo J c)) := by omega
    rw [e]
    exact Int.dvd_add ih main
/-- what can be reached -/
def lp_R (ld dg : Nat → Int) (pa jo : Nat) (wa sr J : Int) (c : xCf) (t : Int) : Prop := ∃ l, rc ld dg pa jo wa sr J l c t
theorem lp_R0 : lp_R ld dg pa jo wa sr J (cf_rest pa) 0 := ⟨0, rfl, rfl⟩
theorem lp_Rm {c c' : xCf} {t mv : Int} (h : lp_R ld dg pa jo wa sr J c t) (hmv : 1 ≤ mv ∧ mv ≤ 18) (hj : jOk J mv) (hm : cf_move pa jo wa sr c mv = some c') : lp_R ld dg pa jo wa sr J c' ((t + cf_turn ld dg pa 0 c' mv) % 360) := by
  obtain ⟨l, hl⟩ := h
  exact ⟨l + 1, c, t, mv, hl, hmv, hj, hm, rfl⟩
theorem lp_Rp (hB : vB ld dg pa jo wa sr pu ri) {c : xCf} {t : Int} (h : lp_R ld dg pa jo wa sr J c t) (k : Nat) (hk : k < pa) (q : Int) (hq : 0 ≤ q ∧ q ≤ 2) : lp_R ld dg pa jo wa sr J (cf_sp c k q) t := by
  have hj0 := hB.1
  have ht : 0 ≤ t ∧ t < 360 := by
    obtain ⟨l, hl⟩ := h
    exact (rc_ok hB l hl).2
  have key : ∀ mv : Int, (10 ≤ mv ∧ mv ≤ 18) → cf_move pa jo wa sr c mv = some (cf_sp c k q) → lp_R ld dg pa jo wa sr J (cf_sp c k q) t := fun mv h1 h2 => by
    have r := lp_Rm h (by omega) ⟨fun z => by omega, fun z => by omega⟩ h2
    rw [lp_t0 _ (by omega)] at r
    rw [show (t + 0) % 360 = t by omega] at r
    exact r
  by_cases e : cf_pk c k = q
  · have e2 : cf_sp c k q = c := by
      rw [← e]
      rcases (show k = 0 ∨ k = 1 ∨ k = 2 by omega) with rfl | rfl | rfl <;> rfl
    rw [e2]
    exact h
  · rcases (show k = 0 ∨ k = 1 ∨ k = 2 by omega) with rfl | rfl | rfl
    · have e' : c.1 ≠ q := e
      refine key (10 + q) (by omega) ?_
      rw [cf_mp0 c (by omega), if_pos (by omega), show 10 + q - 10 = q by omega]
      rfl
    · have e' : c.2.1 ≠ q := e
      refine key (13 + q) (by omega) ?_
      rw [cf_mp1 c (by omega), if_pos (by omega), show 13 + q - 13 = q by omega]
      rfl
    · have e' : c.2.2.1 ≠ q := e
      refine key (16 + q) (by omega) ?_
      rw [cf_mp2 c (by omega), if_pos ⟨hk, by omega⟩, show 16 + q - 16 = q by omega]
      rfl
/-- turns from rest to rest, any whole number -/
def lp_S (ld dg : Nat → Int) (pa jo : Nat) (wa sr J : Int) (x : Int) : Prop := lp_R ld dg pa jo wa sr J (cf_rest pa) (x % 360)
theorem lp_Radd (hB : vB ld dg pa jo wa sr pu ri) {x : Int} (hx : lp_S ld dg pa jo wa sr J x) : ∀ (l : Nat) (c : xCf) (t : Int), rc ld dg pa jo wa sr J l c t → lp_R ld dg pa jo wa sr J c ((x + t) % 360)
  | 0, c, t, h => by
    obtain ⟨rfl, rfl⟩ := h
    rw [Int.add_zero]
    exact hx
  | l + 1, c', t, h => by
    obtain ⟨c, t0, mv, hr, hmv, hj, hm, rfl⟩ := h
    have r := lp_Rm (lp_Radd hB hx l c t0 hr) hmv hj hm
    rw [show (x + (t0 + cf_turn ld dg pa 0 c' mv) % 360) % 360 = ((x + t0) % 360 + cf_turn ld dg pa 0 c' mv) % 360 by omega]
    exact r
theorem lp_Sadd (hB : vB ld dg pa jo wa sr pu ri) {x y : Int} (hx : lp_S ld dg pa jo wa sr J x) (hy : lp_S ld dg pa jo wa sr J y) : lp_S ld dg pa jo wa sr J (x + y) := by
  obtain ⟨l, hl⟩ := hy
  have r := lp_Radd hB hx l _ _ hl
  unfold lp_S
  rw [show (x + y) % 360 = (x + y % 360) % 360 by omega]
  exact r
theorem lp_S0 : lp_S ld dg pa jo wa sr J 0 := lp_R0
theorem lp_Sx {x y : Int} (h : lp_S ld dg pa jo wa sr J x) (e : x % 360 = y % 360) : lp_S ld dg pa jo wa sr J y := by
  unfold lp_S at h ⊢
  rw [← e]
  exact h
theorem lp_Smul (hB : vB ld dg pa jo wa sr pu ri) {x : Int} (hx : lp_S ld dg pa jo wa sr J x) : ∀ n : Nat, lp_S ld dg pa jo wa sr J ((n : Int) * x)
  | 0 => by
    rw [show ((0 : Nat) : Int) * x = 0 from Int.zero_mul x]
    exact lp_S0
  | n + 1 => by
    have r := lp_Sadd hB (lp_Smul hB hx n) hx
    rw [show ((n + 1 : Nat) : Int) * x = (n : Int) * x + x by rw [Int.natCast_succ, Int.add_mul, Int.one_mul]]
    exact r
theorem lp_Sneg (hB : vB ld dg pa jo wa sr pu ri) {x : Int} (hx : lp_S ld dg pa jo wa sr J x) : lp_S ld dg pa jo wa sr J (-x) :=
  lp_Sx (lp_Smul hB hx 359) (by omega)
theorem lp_Sabs (hB : vB ld dg pa jo wa sr pu ri) {x : Int} (hx : lp_S ld dg pa jo wa sr J x) : lp_S ld dg pa jo wa sr J (x.natAbs : Int) := by
  rcases (show (x.natAbs : Int) = x ∨ (x.natAbs : Int) = -x by omega) with e | e
  · rw [e]
    exact hx
  · rw [e]
    exact lp_Sneg hB hx
theorem lp_Sgcd (hB : vB ld dg pa jo wa sr pu ri) (a b : Nat) : lp_S ld dg pa jo wa sr J (a : Int) → lp_S ld dg pa jo wa sr J (b : Int) → lp_S ld dg pa jo wa sr J ((Nat.gcd a b : Nat) : Int) := by
  induction a, b using Nat.gcd.induction with
  | H0 n =>
    intro _ h
    rw [Nat.gcd_zero_left]
    exact h
  | H1 m n hm ih =>
    intro h1 h2
    rw [Nat.gcd_rec]
    refine ih ?_ h1
    have e : ((n % m : Nat) : Int) = (n : Int) + -(((n / m : Nat) : Int) * (m : Int)) := by
      have := Nat.div_add_mod n m
      have e2 : ((n / m : Nat) : Int) * (m : Int) = ((m * (n / m) : Nat) : Int) := by rw [Int.natCast_mul, Int.mul_comm]
      rw [e2]
      omega
    rw [e]
    exact lp_Sadd hB h2 (lp_Sneg hB (lp_Smul hB h1 _))
theorem lp_act {j : Nat} (hj : j < 2) (ha : J = 3 ∨ J = (j : Int) + 1) : jOk J (2 * (j : Int) + 1) ∧ jOk J (2 * (j : Int) + 2) := by
  rcases (show j = 0 ∨ j = 1 by omega) with rfl | rfl
  · exact ⟨⟨fun _ => by omega, fun z => by omega⟩, ⟨fun _ => by omega, fun z => by omega⟩⟩
  · exact ⟨⟨fun z => by omega, fun _ => by omega⟩, ⟨fun z => by omega, fun _ => by omega⟩⟩
def lp_c (j : Nat) (a b d s : Int) : xCf := if j = 0 then (a, b, d, s, 0) else (a, b, d, 0, s)
theorem lp_mv (hB : vB ld dg pa jo wa sr pu ri) {j : Nat} (hj : j < jo) (a b d s : Int) : cf_move pa jo wa sr (lp_c j a b d s) (2 * (j : Int) + 1) = (cf_step wa sr j s 1).map (fun s' => lp_c j a b d s') ∧ cf_move pa jo wa sr (lp_c j a b d s) (2 * (j : Int) + 2) = (cf_step wa sr j s (-1)).map (fun s' => lp_c j a b d s') := by
  have hj0 := hB.1
  rcases (show j = 0 ∨ j = 1 by omega) with rfl | rfl
  · refine ⟨(cf_m1 _).trans ?_, (cf_m2 _).trans ?_⟩
    · rw [if_pos hj]
      rfl
    · rw [if_pos hj]
      rfl
  · refine ⟨(cf_m3 _).trans ?_, (cf_m4 _).trans ?_⟩
    · rw [if_pos hj]
      rfl
    · rw [if_pos hj]
      rfl
theorem lp_gc (j : Nat) (a b d s s' : Int) (j' : Nat) : lp_g ld dg pa j' (lp_c j a b d s) = lp_g ld dg pa j' (lp_c j a b d s') := by
  unfold lp_c
  split <;> rfl
theorem lp_sp0 (j : Nat) (a b d s q : Int) : cf_sp (lp_c j a b d s) 0 q = lp_c j q b d s ∧ cf_sp (lp_c j a b d s) 1 q = lp_c j a q d s ∧ cf_sp (lp_c j a b d s) 2 q = lp_c j a b q s := by
  unfold lp_c
  split <;> exact ⟨rfl, rfl, rfl⟩
theorem lp_rst (j : Nat) : cf_rest pa = lp_c j 1 1 (if 2 < pa then 1 else 0) 0 := by
  unfold lp_c
  split <;> rfl
theorem lp_s1 (hB : vB ld dg pa jo wa sr pu ri) {j : Nat} (hj : j < jo) : cf_step wa sr j 0 1 = some 1 ∧ cf_step wa sr j 1 (-1) = some 0 := by
  have hw := hB.wag
  unfold cf_step
  by_cases e : (j : Int) = wa
  · rw [if_pos e, if_pos e]
    have h3 : 3 ≤ sr := by omega
    exact ⟨congrArg some (Int.emod_eq_of_lt (by omega) (by omega)), congrArg some (Int.emod_eq_of_lt (by omega) (by omega))⟩
  · rw [if_neg e, if_neg e]
    exact ⟨rfl, rfl⟩
/-- there in some poses, back at rest's -/
theorem lp_gen (hB : vB ld dg pa jo wa sr pu ri) {j : Nat} (hj : j < jo) (ha : J = 3 ∨ J = (j : Int) + 1) {a b d : Int} (h0 : 0 ≤ a ∧ a ≤ 2) (h1 : 0 ≤ b ∧ b ≤ 2) (h2 : 0 ≤ d ∧ d ≤ 2) (h3 : ¬ 2 < pa → d = 0) : lp_S ld dg pa jo wa sr J (lp_g ld dg pa j (lp_c j a b d 0) - lp_a ld dg pa j) := by
  have hj0 := hB.1
  have hj2 : j < 2 := by omega
  obtain ⟨k1, k2⟩ := lp_act hj2 ha
  obtain ⟨s1, s2⟩ := lp_s1 hB hj
  have r0 := lp_R0 (ld := ld) (dg := dg) (pa := pa) (jo := jo) (wa := wa) (sr := sr) (J := J)
  rw [lp_rst j] at r0
  have r1 := lp_Rp hB r0 0 (by omega) a h0
  rw [(lp_sp0 j _ _ _ _ a).1] at r1
  have r2 := lp_Rp hB r1 1 (by omega) b h1
  rw [(lp_sp0 j _ _ _ _ b).2.1] at r2
  have r3 : lp_R ld dg pa jo wa sr J (lp_c j a b d 0) 0 := by
    by_cases hp : 2 < pa
    · have r := lp_Rp hB r2 2 hp d h2
      rw [(lp_sp0 j _ _ _ _ d).2.2] at r
      exact r
    · rw [if_neg hp] at r2
      rw [h3 hp]
      exact r2
  have r4 := lp_Rm r3 (by omega) k1 ((lp_mv hB hj a b d 0).1.trans (by rw [s1]; rfl))
  rw [(lp_t _ hj2).1, lp_gc j a b d 1 0] at r4
  have r5 := lp_Rp hB r4 0 (by omega) 1 (by omega)
  rw [(lp_sp0 j _ _ _ _ 1).1] at r5
  have r6 := lp_Rp hB r5 1 (by omega) 1 (by omega)
  rw [(lp_sp0 j _ _ _ _ 1).2.1] at r6
  have r7 : lp_R ld dg pa jo wa sr J (lp_c j 1 1 (if 2 < pa then 1 else 0) 1) ((0 + lp_g ld dg pa j (lp_c j a b d 0)) % 360) := by
    by_cases hp : 2 < pa
    · have r := lp_Rp hB r6 2 hp 1 (by omega)
      rw [(lp_sp0 j _ _ _ _ 1).2.2] at r
      rw [if_pos hp]
      exact r
    · rw [if_neg hp]
      rw [h3 hp] at r6 ⊢
      exact r6
  have r8 := lp_Rm r7 (by omega) k2 ((lp_mv hB hj 1 1 (if 2 < pa then 1 else 0) 1).2.trans (by rw [s2]; rfl))
  rw [(lp_t _ hj2).2] at r8
  have r8 : lp_R ld dg pa jo wa sr J (lp_c j 1 1 (if 2 < pa then 1 else 0) 0) (((0 + lp_g ld dg pa j (lp_c j a b d 0)) % 360 + -lp_g ld dg pa j (lp_c j 1 1 (if 2 < pa then 1 else 0) 0)) % 360) := r8
  rw [← lp_rst j] at r8
  unfold lp_S
  unfold lp_a
  rw [show (lp_g ld dg pa j (lp_c j a b d 0) - lp_g ld dg pa j (cf_rest pa)) % 360 = ((0 + lp_g ld dg pa j (lp_c j a b d 0)) % 360 + -lp_g ld dg pa j (cf_rest pa)) % 360 by omega]
  exact r8
/-- once round -/
theorem lp_rnd (hB : vB ld dg pa jo wa sr pu ri) {j : Nat} (hj : j < jo) (ha : J = 3 ∨ J = (j : Int) + 1) (hw : (j : Int) = wa) : lp_S ld dg pa jo wa sr J (sr * lp_a ld dg pa j) := by
  have hj0 := hB.1
  have hj2 : j < 2 := by omega
  have hww := hB.wag
  have h3 : 3 ≤ sr ∧ sr ≤ 12 := by omega
  obtain ⟨k1, -⟩ := lp_act hj2 ha
  have key : ∀ n : Nat, lp_R ld dg pa jo wa sr J (lp_c j 1 1 (if 2 < pa then 1 else 0) ((n : Int) % sr)) (((n : Int) * lp_a ld dg pa j) % 360) := by
    intro n
    induction n with
    | zero =>
      have r0 := lp_R0 (ld := ld) (dg := dg) (pa := pa) (jo := jo) (wa := wa) (sr := sr) (J := J)
      rw [lp_rst j] at r0
      rw [show ((0 : Nat) : Int) * lp_a ld dg pa j = 0 from Int.zero_mul _, show ((0 : Nat) : Int) % sr = 0 from Int.zero_emod _]
      exact r0
    | succ n ih =>
      have e : cf_step wa sr j ((n : Int) % sr) 1 = some (((n + 1 : Nat) : Int) % sr) := by
        unfold cf_step
        rw [if_pos hw, Int.emod_add_emod]
        rfl
      have r := lp_Rm ih (by omega) k1 ((lp_mv hB hj 1 1 (if 2 < pa then 1 else 0) ((n : Int) % sr)).1.trans (by rw [e]; rfl))
      rw [(lp_t _ hj2).1, lp_gc j 1 1 _ (((n + 1 : Nat) : Int) % sr) 0, ← lp_rst j] at r
      rw [show ((n + 1 : Nat) : Int) * lp_a ld dg pa j = (n : Int) * lp_a ld dg pa j + lp_g ld dg pa j (cf_rest pa) by rw [Int.natCast_succ, Int.add_mul, Int.one_mul]; rfl]
      rw [show ((n : Int) * lp_a ld dg pa j + lp_g ld dg pa j (cf_rest pa)) % 360 = (((n : Int) * lp_a ld dg pa j) % 360 + lp_g ld dg pa j (cf_rest pa)) % 360 by omega]
      exact r
  have k := key sr.toNat
  rw [show ((sr.toNat : Nat) : Int) = sr by omega, Int.emod_self, ← lp_rst j] at k
  exact k
theorem lp_ps_g (hB : vB ld dg pa jo wa sr pu ri) {j : Nat} (hj : j < jo) (ha : J = 3 ∨ J = (j : Int) + 1) {i : Nat} (hi : i < 27) : lp_S ld dg pa jo wa sr J (lp_g ld dg pa j (lp_ps i) - lp_a ld dg pa j) := by
  have hj0 := hB.1
  have k := lp_gen (J := J) hB hj ha (a := ((i / 9 : Nat) : Int)) (b := ((i / 3 % 3 : Nat) : Int)) (d := if 2 < pa then ((i % 3 : Nat) : Int) else 0) (by omega) (by omega) (by split <;> omega) (fun h => if_neg h)
  have e : lp_g ld dg pa j (lp_c j ((i / 9 : Nat) : Int) ((i / 3 % 3 : Nat) : Int) (if 2 < pa then ((i % 3 : Nat) : Int) else 0) 0) = lp_g ld dg pa j (lp_ps i) := by
    have e1 : lp_c j ((i / 9 : Nat) : Int) ((i / 3 % 3 : Nat) : Int) (if 2 < pa then ((i % 3 : Nat) : Int) else 0) 0 = (((i / 9 : Nat) : Int), ((i / 3 % 3 : Nat) : Int), (if 2 < pa then ((i % 3 : Nat) : Int) else 0), 0, 0) := by
      unfold lp_c
      split <;> rfl
    rw [e1]
    by_cases hp : 2 < pa
    · rw [if_pos hp]
      rfl
    · unfold lp_g cf_beh cf_all lp_ps
      simp only [if_neg hp]
  rw [e] at k
  exact k
theorem lp_mS (hB : vB ld dg pa jo wa sr pu ri) {j : Nat} (hj : j < jo) (ha : J = 3 ∨ J = (j : Int) + 1) {M : Nat} (hM : lp_S ld dg pa jo wa sr J (M : Int)) : ∀ n, n ≤ 27 → lp_S ld dg pa jo wa sr J ((lp_m ld dg pa j M n : Nat) : Int)
  | 0, _ => hM
  | n + 1, h => lp_Sgcd hB _ _ (lp_mS hB hj ha hM n (by omega)) (lp_Sabs hB (lp_ps_g hB hj ha (by omega)))
theorem lp_jS (hB : vB ld dg pa jo wa sr pu ri) {j : Nat} (hj : j < jo) (ha : J = 3 ∨ J = (j : Int) + 1) {M : Nat} (hM : lp_S ld dg pa jo wa sr J (M : Int)) : lp_S ld dg pa jo wa sr J ((lp_j ld dg pa wa sr j M : Nat) : Int) := by
  refine lp_mS hB hj ha ?_ 27 (Nat.le_refl _)
  unfold lp_w
  split
  · rename_i e
    exact lp_Sgcd hB _ _ hM (lp_Sabs hB (lp_rnd hB hj ha e))
  · exact hM
theorem lp_MS (hB : vB ld dg pa jo wa sr pu ri) : lp_S ld dg pa jo wa sr J ((lp_M ld dg pa jo wa sr J : Nat) : Int) := by
  have hj0 := hB.1
  have h360 : lp_S ld dg pa jo wa sr J ((360 : Nat) : Int) := lp_Sx lp_S0 rfl
  have h1 : lp_S ld dg pa jo wa sr J ((lp_1 ld dg pa wa sr J : Nat) : Int) := by
    unfold lp_1
    split
    · rename_i e
      exact lp_jS hB (by omega) (by omega) h360
    · exact h360
  unfold lp_M
  split
  · rename_i e
    exact lp_jS hB e.2 (by omega) h1
  · exact h1
theorem lp_ct : ∀ M, M < 361 → 360 % M = 0 → ct_n (fun t => t % M == 0) 360 = 360 / M := by decide +kernel
theorem lp_fr (hB : vB ld dg pa jo wa sr pu ri) : fr_is ld dg pa jo wa sr J (((360 / lp_M ld dg pa jo wa sr J : Nat) : Int)) := by
  obtain ⟨dM, -⟩ := lp_d (J := J) hB
  refine ⟨fun t => t % lp_M ld dg pa jo wa sr J == 0, fun t ht => ⟨fun h => ?_, fun h => ?_⟩, ?_⟩
  · have h' : t % lp_M ld dg pa jo wa sr J = 0 := by simpa using h
    obtain ⟨q, hq⟩ := Nat.dvd_of_mod_eq_zero h'
    have k := lp_Smul hB (lp_MS (J := J) hB) q
    have e : ((q : Nat) : Int) * ((lp_M ld dg pa jo wa sr J : Nat) : Int) = (t : Int) := by rw [hq, Int.natCast_mul, Int.mul_comm]
    rw [e] at k
    obtain ⟨l, hl⟩ := k
    rw [show (t : Int) % 360 = (t : Int) by omega] at hl
    exact ⟨l, hl⟩
  · obtain ⟨l, hl⟩ := h
    have k := lp_up hB l _ _ hl
    have e : lp_P ld dg pa jo J (cf_rest pa) = 0 := by
      unfold lp_P cf_rest
      dsimp only
      rw [Int.mul_zero, Int.mul_zero, ite_self, ite_self]
      rfl
    rw [e, Int.sub_zero] at k
    have k2 := Int.natCast_dvd_natCast.mp k
    have k3 : t % lp_M ld dg pa jo wa sr J = 0 := Nat.mod_eq_zero_of_dvd k2
    simpa using k3
  · have hp := Nat.pos_of_dvd_of_pos dM (by decide)
    have hl := Nat.le_of_dvd (by decide) dM
    rw [lp_ct _ (by omega) (Nat.mod_eq_zero_of_dvd dM)]
end LP
