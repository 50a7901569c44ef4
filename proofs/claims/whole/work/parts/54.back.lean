/-! the model's states as numbers; who leads to whom -/
def sx (jo : Nat) (wa sr : Int) (c : xCf) (t : Int) : Nat := (360 * mE jo wa sr c + t).toNat
def jOk (J mv : Int) : Prop := (mv = 1 ∨ mv = 2 → J = 1 ∨ J = 3) ∧ (mv = 3 ∨ mv = 4 → J = 2 ∨ J = 3)
def sR (ld dg : Nat → Int) (pa jo : Nat) (wa sr pu J : Int) (x y : Nat) : Prop := ∃ (c c' : xCf) (t mv : Int), cf_ok pa jo wa sr c ∧ (0 ≤ t ∧ t < 360) ∧ (0 ≤ mv ∧ mv ≤ 18) ∧ jOk J mv ∧ cf_move pa jo wa sr c mv = some c' ∧ x = sx jo wa sr c t ∧ y = sx jo wa sr c' ((t + cf_turn ld dg pa pu c' mv) % 360)
def sG (pa jo : Nat) (wa sr ri : Int) (x : Nat) : Prop := ∃ (c : xCf) (t : Int), cf_ok pa jo wa sr c ∧ (0 ≤ t ∧ t < 360) ∧ x = sx jo wa sr c t ∧ cf_str c ∧ sp_off t 0 ≤ ri
def cf_pk (c : xCf) (k : Nat) : Int := if k = 0 then c.1 else if k = 1 then c.2.1 else c.2.2.1
def cf_sp (c : xCf) (k : Nat) (q : Int) : xCf := if k = 0 then (q, c.2.1, c.2.2.1, c.2.2.2.1, c.2.2.2.2) else if k = 1 then (c.1, q, c.2.2.1, c.2.2.2.1, c.2.2.2.2) else (c.1, c.2.1, q, c.2.2.2.1, c.2.2.2.2)
/-- who is met ahead of a state: by nothing, by the moves of joints, by poses -/
def ma_m (ld dg : Nat → Int) (pa jo : Nat) (wa sr pu J : Int) (c : xCf) (t : Int) : Nat → List Nat
  | 0 => [sx jo wa sr c ((t - cf_turn ld dg pa pu c 0) % 360)]
  | n + 1 => ma_m ld dg pa jo wa sr pu J c t n ++ (if (J = 3 ∨ J = ((n / 2 : Nat) : Int) + 1) ∧ n / 2 < jo then (match cf_move pa jo wa sr c (cf_inv c ((n + 1 : Nat) : Int)) with | some c1 => [sx jo wa sr c1 ((t - cf_turn ld dg pa pu c ((n + 1 : Nat) : Int)) % 360)] | none => []) else [])
def ma_p (ld dg : Nat → Int) (pa jo : Nat) (wa sr pu J : Int) (c : xCf) (t : Int) : Nat → List Nat
  | 0 => ma_m ld dg pa jo wa sr pu J c t 4
  | i + 1 => ma_p ld dg pa jo wa sr pu J c t i ++ (if ((i % 3 : Nat) : Int) ≠ cf_pk c (i / 3) then [sx jo wa sr (cf_sp c (i / 3) ((i % 3 : Nat) : Int)) ((t - cf_turn ld dg pa pu c 10) % 360)] else [])
section SX
variable {F : Nat → Nat → Int} {ld dg : Nat → Int} {pa jo : Nat} {wa sr pu ri J : Int}
theorem sx_lt {c : xCf} {t : Int} (hB : vB ld dg pa jo wa sr pu ri) (hR : mR F ld dg pa jo wa) (hc : cf_ok pa jo wa sr c) (ht : 0 ≤ t ∧ t < 360) : sx jo wa sr c t < (360 * sm_shapes F).toNat ∧ ((sx jo wa sr c t : Nat) : Int) = 360 * mE jo wa sr c + t := by
  have a := mE_b hB hR hc
  unfold sx
  omega
theorem sx_inj {c d : xCf} {t u : Int} (hB : vB ld dg pa jo wa sr pu ri) (hR : mR F ld dg pa jo wa) (hc : cf_ok pa jo wa sr c) (hd : cf_ok pa jo wa sr d) (ht : 0 ≤ t ∧ t < 360) (hu : 0 ≤ u ∧ u < 360) (e : sx jo wa sr c t = sx jo wa sr d u) : c = d ∧ t = u := by
  have a := (sx_lt hB hR hc ht).2
  have b := (sx_lt hB hR hd hu).2
  rw [e] at a
  exact ⟨mE_inj hB hR hc hd (by omega), by omega⟩
theorem sx_dec (hB : vB ld dg pa jo wa sr pu ri) (hR : mR F ld dg pa jo wa) {x : Nat} (hx : x < (360 * sm_shapes F).toNat) : ∃ c, cf_ok pa jo wa sr c ∧ mE jo wa sr c = (x : Int) / 360 ∧ x = sx jo wa sr c ((x : Int) % 360) := by
  obtain ⟨c, h1, h2⟩ := mE_dec hB hR (sh := (x : Int) / 360) (by omega)
  refine ⟨c, h1, h2, ?_⟩
  unfold sx
  rw [h2]
  omega
theorem cf_inv_b {c : xCf} (hc : cf_ok pa jo wa sr c) {mv : Int} (h : 0 ≤ mv ∧ mv ≤ 18) : 0 ≤ cf_inv c mv ∧ cf_inv c mv ≤ 18 := by
  obtain ⟨c1, c2, c3, -⟩ := hc
  unfold cf_inv
  repeat' split
  all_goals omega
theorem jOk_inv {c : xCf} {mv : Int} (hmv : 1 ≤ mv ∧ mv ≤ 4) (h : jOk J mv) : jOk J (cf_inv c mv) := by
  rcases (show mv = 1 ∨ mv = 2 ∨ mv = 3 ∨ mv = 4 by omega) with rfl | rfl | rfl | rfl
  · exact ⟨fun _ => h.1 (Or.inl rfl), fun z => by have z : (2 : Int) = 3 ∨ (2 : Int) = 4 := z; omega⟩
  · exact ⟨fun _ => h.1 (Or.inr rfl), fun z => by have z : (1 : Int) = 3 ∨ (1 : Int) = 4 := z; omega⟩
  · exact ⟨fun z => by have z : (4 : Int) = 1 ∨ (4 : Int) = 2 := z; omega, fun _ => h.2 (Or.inl rfl)⟩
  · exact ⟨fun z => by have z : (3 : Int) = 1 ∨ (3 : Int) = 2 := z; omega, fun _ => h.2 (Or.inr rfl)⟩
theorem cf_inv2 (c c1 : xCf) {mv : Int} (hmv : 1 ≤ mv ∧ mv ≤ 4) : cf_inv c1 (cf_inv c mv) = mv := by
  rcases (show mv = 1 ∨ mv = 2 ∨ mv = 3 ∨ mv = 4 by omega) with rfl | rfl | rfl | rfl <;> rfl
theorem jOk_n {n : Nat} (hn : n < 4) : jOk J ((n + 1 : Nat) : Int) ↔ (J = 3 ∨ J = ((n / 2 : Nat) : Int) + 1) := by
  unfold jOk
  rcases (show n = 0 ∨ n = 1 ∨ n = 2 ∨ n = 3 by omega) with rfl | rfl | rfl | rfl <;> (constructor <;> intro z <;> omega)
theorem cf_move_jn {c c' : xCf} {n : Nat} (hn : n < 4) (h : cf_move pa jo wa sr c ((n + 1 : Nat) : Int) = some c') : n / 2 < jo := by
  rcases (show n = 0 ∨ n = 1 ∨ n = 2 ∨ n = 3 by omega) with rfl | rfl | rfl | rfl
  · rw [show (((0 : Nat) + 1 : Nat) : Int) = 1 from rfl, cf_m1] at h
    split at h
    · omega
    · cases h
  · rw [show (((1 : Nat) + 1 : Nat) : Int) = 2 from rfl, cf_m2] at h
    split at h
    · omega
    · cases h
  · rw [show (((2 : Nat) + 1 : Nat) : Int) = 3 from rfl, cf_m3] at h
    split at h
    · omega
    · cases h
  · rw [show (((3 : Nat) + 1 : Nat) : Int) = 4 from rfl, cf_m4] at h
    split at h
    · omega
    · cases h
theorem cf_turn_p (ld dg : Nat → Int) (pa : Nat) (pu : Int) (c : xCf) {mv : Int} (h : mv ≤ 0 ∨ 5 ≤ mv) : cf_turn ld dg pa pu c mv = cf_turn ld dg pa pu c 10 := by
  unfold cf_turn
  rw [cf_b9 ld dg pa c h, cf_b9 ld dg pa c (by omega)]
/-- a pose put back -/
theorem cf_sp_move {c : xCf} (hB : vB ld dg pa jo wa sr pu ri) (hc : cf_ok pa jo wa sr c) {i : Nat} (hi : i < 3 * pa) (hne : ((i % 3 : Nat) : Int) ≠ cf_pk c (i / 3)) : cf_ok pa jo wa sr (cf_sp c (i / 3) ((i % 3 : Nat) : Int)) ∧ cf_move pa jo wa sr (cf_sp c (i / 3) ((i % 3 : Nat) : Int)) (10 + 3 * ((i / 3 : Nat) : Int) + cf_pk c (i / 3)) = some c ∧ (0 ≤ cf_pk c (i / 3) ∧ cf_pk c (i / 3) ≤ 2) := by
  obtain ⟨p0, p1, p2, s0, s1⟩ := c
  obtain ⟨c1, c2, c3, c4, c5⟩ := hc
  have h0 := hB.1
  dsimp only at c1 c2 c3
  rcases (show i / 3 = 0 ∨ i / 3 = 1 ∨ i / 3 = 2 by omega) with e | e | e
  · rw [e] at hne ⊢
    have hne : ((i % 3 : Nat) : Int) ≠ p0 := hne
    refine ⟨⟨by show 0 ≤ ((i % 3 : Nat) : Int) ∧ ((i % 3 : Nat) : Int) ≤ 2; omega, c2, c3, c4, c5⟩, ?_, c1⟩
    show cf_move pa jo wa sr (((i % 3 : Nat) : Int), p1, p2, s0, s1) (10 + 3 * ((0 : Nat) : Int) + p0) = _
    rw [cf_mp0 _ (by omega), if_pos (show ((i % 3 : Nat) : Int) ≠ 10 + 3 * ((0 : Nat) : Int) + p0 - 10 by omega), show 10 + 3 * ((0 : Nat) : Int) + p0 - 10 = p0 by omega]
  · rw [e] at hne ⊢
    have hne : ((i % 3 : Nat) : Int) ≠ p1 := hne
    refine ⟨⟨c1, by show 0 ≤ ((i % 3 : Nat) : Int) ∧ ((i % 3 : Nat) : Int) ≤ 2; omega, c3, c4, c5⟩, ?_, c2⟩
    show cf_move pa jo wa sr (p0, ((i % 3 : Nat) : Int), p2, s0, s1) (10 + 3 * ((1 : Nat) : Int) + p1) = _
    rw [cf_mp1 _ (by omega), if_pos (show ((i % 3 : Nat) : Int) ≠ 10 + 3 * ((1 : Nat) : Int) + p1 - 13 by omega), show 10 + 3 * ((1 : Nat) : Int) + p1 - 13 = p1 by omega]
  · rw [e] at hne ⊢
    have hne : ((i % 3 : Nat) : Int) ≠ p2 := hne
    have hp : 2 < pa := by omega
    refine ⟨⟨c1, c2, by show 0 ≤ ((i % 3 : Nat) : Int) ∧ ((i % 3 : Nat) : Int) ≤ 2 ∧ (pa = 2 → ((i % 3 : Nat) : Int) = 0); omega, c4, c5⟩, ?_, ⟨c3.1, c3.2.1⟩⟩
    show cf_move pa jo wa sr (p0, p1, ((i % 3 : Nat) : Int), s0, s1) (10 + 3 * ((2 : Nat) : Int) + p2) = _
    rw [cf_mp2 _ (by omega), if_pos (show 2 < pa ∧ ((i % 3 : Nat) : Int) ≠ 10 + 3 * ((2 : Nat) : Int) + p2 - 16 from ⟨hp, by omega⟩), show 10 + 3 * ((2 : Nat) : Int) + p2 - 16 = p2 by omega]
theorem ma_m_ok (hB : vB ld dg pa jo wa sr pu ri) (hR : mR F ld dg pa jo wa) {c : xCf} (hc : cf_ok pa jo wa sr c) {t : Int} (ht : 0 ≤ t ∧ t < 360) : ∀ n, n ≤ 4 → ∀ x ∈ ma_m ld dg pa jo wa sr pu J c t n, x < (360 * sm_shapes F).toNat ∧ sR ld dg pa jo wa sr pu J x (sx jo wa sr c t)
  | 0, _, x, hx => by
    have hx : x ∈ [sx jo wa sr c ((t - cf_turn ld dg pa pu c 0) % 360)] := hx
    rw [List.mem_singleton] at hx
    subst hx
    have hb : 0 ≤ (t - cf_turn ld dg pa pu c 0) % 360 ∧ (t - cf_turn ld dg pa pu c 0) % 360 < 360 := by omega
    refine ⟨(sx_lt hB hR hc hb).1, c, c, _, 0, hc, hb, by omega, ⟨fun z => by omega, fun z => by omega⟩, rfl, rfl, ?_⟩
    rw [show ((t - cf_turn ld dg pa pu c 0) % 360 + cf_turn ld dg pa pu c 0) % 360 = t by omega]
  | n + 1, hn, x, hx => by
    have hx : x ∈ ma_m ld dg pa jo wa sr pu J c t n ++ (if (J = 3 ∨ J = ((n / 2 : Nat) : Int) + 1) ∧ n / 2 < jo then (match cf_move pa jo wa sr c (cf_inv c ((n + 1 : Nat) : Int)) with | some c1 => [sx jo wa sr c1 ((t - cf_turn ld dg pa pu c ((n + 1 : Nat) : Int)) % 360)] | none => []) else []) := hx
    rw [List.mem_append] at hx
    rcases hx with hx | hx
    · exact ma_m_ok hB hR hc ht n (by omega) x hx
    · split at hx
      · rename_i hJ
        split at hx
        · rename_i c1 hc1
          rw [List.mem_singleton] at hx
          subst hx
          have hok := cf_move_ok hB hc hc1
          have hb : 0 ≤ (t - cf_turn ld dg pa pu c ((n + 1 : Nat) : Int)) % 360 ∧ (t - cf_turn ld dg pa pu c ((n + 1 : Nat) : Int)) % 360 < 360 := by omega
          have hbk := cf_move_back hB hc hc1
          rw [cf_inv2 c c (by omega)] at hbk
          refine ⟨(sx_lt hB hR hok hb).1, c1, c, _, ((n + 1 : Nat) : Int), hok, hb, by omega, (jOk_n (by omega)).mpr hJ.1, hbk, rfl, ?_⟩
          rw [show ((t - cf_turn ld dg pa pu c ((n + 1 : Nat) : Int)) % 360 + cf_turn ld dg pa pu c ((n + 1 : Nat) : Int)) % 360 = t by omega]
        · cases hx
      · cases hx
theorem ma_p_ok (hB : vB ld dg pa jo wa sr pu ri) (hR : mR F ld dg pa jo wa) {c : xCf} (hc : cf_ok pa jo wa sr c) {t : Int} (ht : 0 ≤ t ∧ t < 360) : ∀ i, i ≤ 3 * pa → ∀ x ∈ ma_p ld dg pa jo wa sr pu J c t i, x < (360 * sm_shapes F).toNat ∧ sR ld dg pa jo wa sr pu J x (sx jo wa sr c t)
  | 0, _, x, hx => ma_m_ok hB hR hc ht 4 (by omega) x hx
  | i + 1, hi, x, hx => by
    have hx : x ∈ ma_p ld dg pa jo wa sr pu J c t i ++ (if ((i % 3 : Nat) : Int) ≠ cf_pk c (i / 3) then [sx jo wa sr (cf_sp c (i / 3) ((i % 3 : Nat) : Int)) ((t - cf_turn ld dg pa pu c 10) % 360)] else []) := hx
    rw [List.mem_append] at hx
    rcases hx with hx | hx
    · exact ma_p_ok hB hR hc ht i (by omega) x hx
    · split at hx
      · rename_i hne
        rw [List.mem_singleton] at hx
        subst hx
        obtain ⟨h1, h2, h3⟩ := cf_sp_move hB hc (i := i) (by omega) hne
        have hb : 0 ≤ (t - cf_turn ld dg pa pu c 10) % 360 ∧ (t - cf_turn ld dg pa pu c 10) % 360 < 360 := by omega
        refine ⟨(sx_lt hB hR h1 hb).1, _, c, _, _, h1, hb, ?_, ⟨fun z => by omega, fun z => by omega⟩, h2, rfl, ?_⟩
        · have := hB.1
          omega
        · rw [cf_turn_p ld dg pa pu c (mv := 10 + 3 * ((i / 3 : Nat) : Int) + cf_pk c (i / 3)) (by omega), show ((t - cf_turn ld dg pa pu c 10) % 360 + cf_turn ld dg pa pu c 10) % 360 = t by omega]
      · cases hx
theorem ma_m_sub {c : xCf} {t : Int} {n : Nat} {x : Nat} (hx : x ∈ ma_m ld dg pa jo wa sr pu J c t n) : ∀ d, x ∈ ma_m ld dg pa jo wa sr pu J c t (n + d)
  | 0 => hx
  | d + 1 => List.mem_append.mpr (Or.inl (ma_m_sub hx d))
theorem ma_p_sub {c : xCf} {t : Int} {n : Nat} {x : Nat} (hx : x ∈ ma_p ld dg pa jo wa sr pu J c t n) : ∀ d, x ∈ ma_p ld dg pa jo wa sr pu J c t (n + d)
  | 0 => hx
  | d + 1 => List.mem_append.mpr (Or.inl (ma_p_sub hx d))
/-- nobody is left out -/
theorem ma_p_all (hB : vB ld dg pa jo wa sr pu ri) (hR : mR F ld dg pa jo wa) {c : xCf} (hc : cf_ok pa jo wa sr c) {t : Int} (ht : 0 ≤ t ∧ t < 360) {x : Nat} (h : sR ld dg pa jo wa sr pu J x (sx jo wa sr c t)) : x ∈ ma_p ld dg pa jo wa sr pu J c t (3 * pa) := by
  obtain ⟨c1, c', t1, mv, h1, h2, h3, h4, h5, rfl, h7⟩ := h
  have hc' := cf_move_ok hB h1 h5
  obtain ⟨e1, e2⟩ := sx_inj hB hR hc hc' ht (by omega) h7
  subst e1
  have et : t1 = (t - cf_turn ld dg pa pu c mv) % 360 := by omega
  have h0 := hB.1
  by_cases m0 : mv = 0
  · subst m0
    cases h5
    have : sx jo wa sr c t1 ∈ ma_m ld dg pa jo wa sr pu J c t 0 := by
      rw [et]
      exact List.mem_singleton.mpr rfl
    have := ma_m_sub this 4
    have := ma_p_sub (n := 0) (show _ ∈ ma_p ld dg pa jo wa sr pu J c t 0 from this) (3 * pa)
    rwa [Nat.zero_add] at this
  by_cases m5 : mv < 5
  · obtain ⟨n, hn, rfl⟩ : ∃ n : Nat, n < 4 ∧ mv = ((n + 1 : Nat) : Int) := ⟨(mv - 1).toNat, by omega, by omega⟩
    have hbk := cf_move_back hB h1 h5
    rw [show cf_inv c1 ((n + 1 : Nat) : Int) = cf_inv c ((n + 1 : Nat) : Int) by rcases (show n = 0 ∨ n = 1 ∨ n = 2 ∨ n = 3 by omega) with rfl | rfl | rfl | rfl <;> rfl] at hbk
    have : sx jo wa sr c1 t1 ∈ ma_m ld dg pa jo wa sr pu J c t (n + 1) := by
      refine List.mem_append.mpr (Or.inr ?_)
      rw [if_pos ⟨(jOk_n hn).mp h4, cf_move_jn hn h5⟩, hbk, et]
      exact List.mem_singleton.mpr rfl
    have := ma_m_sub this (3 - n)
    rw [show n + 1 + (3 - n) = 4 by omega] at this
    have := ma_p_sub (n := 0) (show _ ∈ ma_p ld dg pa jo wa sr pu J c t 0 from this) (3 * pa)
    rwa [Nat.zero_add] at this
  · have m9 : 10 ≤ mv := by
      by_cases e : mv ≤ 9
      · rw [cf_m9 c1 (by omega)] at h5
        cases h5
      · omega
    -- the part, and its pose ahead
    have key : ∃ i, i < 3 * pa ∧ ((i % 3 : Nat) : Int) ≠ cf_pk c (i / 3) ∧ c1 = cf_sp c (i / 3) ((i % 3 : Nat) : Int) := by
      obtain ⟨p0, p1, p2, s0, s1⟩ := c1
      obtain ⟨d1, d2, d3, -⟩ := h1
      dsimp only at d1 d2 d3
      by_cases k0 : mv ≤ 12
      · rw [cf_mp0 _ (by omega)] at h5
        split at h5
        · rename_i hne
          cases h5
          refine ⟨p0.toNat, by omega, ?_, ?_⟩
          · rw [show p0.toNat / 3 = 0 by omega, show p0.toNat % 3 = p0.toNat by omega]
            show ((p0.toNat : Nat) : Int) ≠ mv - 10
            have hne : p0 ≠ mv - 10 := hne
            omega
          · rw [show p0.toNat / 3 = 0 by omega, show p0.toNat % 3 = p0.toNat by omega]
            show (p0, p1, p2, s0, s1) = (((p0.toNat : Nat) : Int), p1, p2, s0, s1)
            rw [show ((p0.toNat : Nat) : Int) = p0 by omega]
        · cases h5
      by_cases k1 : mv ≤ 15
      · rw [cf_mp1 _ (by omega)] at h5
        split at h5
        · rename_i hne
          cases h5
          refine ⟨3 + p1.toNat, by omega, ?_, ?_⟩
          · rw [show (3 + p1.toNat) / 3 = 1 by omega, show (3 + p1.toNat) % 3 = p1.toNat by omega]
            show ((p1.toNat : Nat) : Int) ≠ mv - 13
            have hne : p1 ≠ mv - 13 := hne
            omega
          · rw [show (3 + p1.toNat) / 3 = 1 by omega, show (3 + p1.toNat) % 3 = p1.toNat by omega]
            show (p0, p1, p2, s0, s1) = (p0, ((p1.toNat : Nat) : Int), p2, s0, s1)
            rw [show ((p1.toNat : Nat) : Int) = p1 by omega]
        · cases h5
      · rw [cf_mp2 _ (by omega)] at h5
        split at h5
        · rename_i hne
          cases h5
          refine ⟨6 + p2.toNat, by omega, ?_, ?_⟩
          · rw [show (6 + p2.toNat) / 3 = 2 by omega, show (6 + p2.toNat) % 3 = p2.toNat by omega]
            show ((p2.toNat : Nat) : Int) ≠ mv - 16
            have hne : p2 ≠ mv - 16 := hne.2
            omega
          · rw [show (6 + p2.toNat) / 3 = 2 by omega, show (6 + p2.toNat) % 3 = p2.toNat by omega]
            show (p0, p1, p2, s0, s1) = (p0, p1, ((p2.toNat : Nat) : Int), s0, s1)
            rw [show ((p2.toNat : Nat) : Int) = p2 by omega]
        · cases h5
    obtain ⟨i, i1, i2, i3⟩ := key
    have : sx jo wa sr c1 t1 ∈ ma_p ld dg pa jo wa sr pu J c t (i + 1) := by
      refine List.mem_append.mpr (Or.inr ?_)
      rw [if_pos i2, i3, et, cf_turn_p ld dg pa pu c (mv := mv) (by omega)]
      exact List.mem_singleton.mpr rfl
    have := ma_p_sub this (3 * pa - (i + 1))
    rwa [show i + 1 + (3 * pa - (i + 1)) = 3 * pa by omega] at this
theorem mq_app (v : Int) (q : xTQ) (l : List Nat) (x : Nat) : mq_meets v q (l ++ [x]) = mq_meet v (mq_meets v q l) x := by
  unfold mq_meets
  rw [List.foldl_append]
  rfl
end SX
