/-! the class's search: what its rows say, and what follows of the ticks and the moves -/
/-- the links: each state's parent's shape and the state found next -/
def sL (N : Nat) (lk : Nat → Int) (Q P : Nat → Nat) (n : Nat) : Prop := (∀ i, i < n → lk (Q i) = ((Q (P i) / 360 : Nat) : Int) * 1048576 + (if i + 1 < n then ((Q (i + 1) : Nat) : Int) else 1048575)) ∧ (∀ x, x < N → (∀ i, i < n → Q i ≠ x) → lk x = -1)
/-- the turns that are answered: by the first state that does -/
def sA (pa jo : Nat) (wa sr ri sj : Int) (tk en : Nat → Int) (Q D : Nat → Nat) (n : Nat) : Prop := ∀ t : Nat, t < 360 → ((tk t = -1 ∧ ∀ b, b < n → ¬ kans pa jo wa sr ri sj (t : Int) (Q b)) ∨ ∃ b, b < n ∧ kans pa jo wa sr ri sj (t : Int) (Q b) ∧ (∀ b', b' < b → ¬ kans pa jo wa sr ri sj (t : Int) (Q b')) ∧ tk t = ((D b : Nat) : Int) ∧ en t = ((Q b : Nat) : Int))
def sC (tk : Nat → Int) : Nat := ct_n (fun t => decide (tk t ≠ -1)) 360
theorem ct_all {P : Nat → Bool} : ∀ n, ct_n P n = n → ∀ t, t < n → P t = true
  | 0, _, t, ht => absurd ht (Nat.not_lt_zero _)
  | n + 1, h, t, ht => by
    have k := ct_le P n
    have h' : ct_n P n + (if P n = true then 1 else 0) = n + 1 := h
    by_cases e : P n = true
    · rw [if_pos e] at h'
      by_cases q : t = n
      · rw [q]; exact e
      · exact ct_all n (by omega) t (by omega)
    · rw [if_neg e] at h'
      omega
/-- a search that is begun: its states, how far it is -/
def sI (ld dg : Nat → Int) (pa jo : Nat) (wa sr pu ri sj : Int) (lk tk en : Nat → Int) (op fi la lo ti an : Int) (Q P M D : Nat → Nat) (n k : Nat) : Prop :=
  qI (knx ld dg pa jo wa sr pu sj) (kx pa jo wa sr sj (cf_rest pa) 0) (360 * kN pa jo wa sr sj).toNat Q P M D n k 0 ∧ sL (360 * kN pa jo wa sr sj).toNat lk Q P n ∧ sA pa jo wa sr ri sj tk en Q D n ∧ (∀ c, c < n → D c ≤ 200) ∧ la = ((Q (n - 1) : Nat) : Int) ∧ an = ((sC tk : Nat) : Int) ∧ (∀ c, c < n → ((D c : Nat) : Int) < ti → c < k) ∧ (0 ≤ ti ∧ ti ≤ 200) ∧
  ((op = 1 ∧ k < n ∧ fi = ((Q k : Nat) : Int) ∧ ((D k : Nat) : Int) = ti ∧ ti < 200 ∧ ∃ e, e < n ∧ k ≤ e ∧ lo = ((Q e : Nat) : Int) ∧ ((D e : Nat) : Int) = ti ∧ ∀ i, e < i → i < n → ((D i : Nat) : Int) = ti + 1) ∨ (op = 0 ∧ (k = n ∨ ti = 200 ∨ an = 360)))
section SI
variable {ld dg : Nat → Int} {pa jo : Nat} {wa sr pu ri sj : Int} {lk tk en : Nat → Int} {op fi la lo ti an : Int} {Q P M D : Nat → Nat} {n k : Nat}
theorem gd_0 (h : vB ld dg pa jo wa sr pu ri) (hsj : -1 ≤ sj ∧ sj < jo) {t : Nat} (ht : t < 360) (l : Nat) : gd ld dg pa jo wa sr pu ri (kJ jo sj) l (cf_rest pa) (t : Int) ↔ ∃ ms : List Nat, ms.length = l ∧ ∃ y, nxs (knx ld dg pa jo wa sr pu sj) ms (kx pa jo wa sr sj (cf_rest pa) 0) = some y ∧ kans pa jo wa sr ri sj (t : Int) y := by
  have k := gd_nx (sj := sj) h hsj (t := (t : Int)) l (cf_rest pa) 0 (cs_rest h) (by omega)
  rw [show ((t : Int) + 0) % 360 = (t : Int) by omega] at k
  exact k
theorem sI_min (h : vB ld dg pa jo wa sr pu ri) (hsj : -1 ≤ sj ∧ sj < jo) (hI : sI ld dg pa jo wa sr pu ri sj lk tk en op fi la lo ti an Q P M D n k) {t : Nat} (ht : t < 360) {b : Nat} (hb : b < n) (hf : ∀ b', b' < b → ¬ kans pa jo wa sr ri sj (t : Int) (Q b')) (l : Nat) (hl : l < D b) : ¬ gd ld dg pa jo wa sr pu ri (kJ jo sj) l (cf_rest pa) (t : Int) := by
  intro hg
  obtain ⟨hq, -⟩ := hI
  obtain ⟨ms, hml, y, hy, hy2⟩ := (gd_0 h hsj ht l).mp hg
  obtain ⟨⟨g1, g2, g3, g4⟩, -, -, g5, -, -⟩ := id hq
  have b0 := qI_D0 hq hb (by omega)
  obtain ⟨p1, p2, p3, p4⟩ := g5 b b0 hb
  obtain ⟨b', b1, b2, b3⟩ := qI_short hq ms 0 y (by omega) (by rw [g2]; exact hy) (fun c c1 c2 => by
    by_cases q : P b ≤ c
    · have := qI_mono hq c (P b) q c1
      omega
    · omega)
  by_cases q : b' < b
  · exact hf b' q (by rw [b2]; exact hy2)
  · have := qI_mono hq b' b (by omega) b1
    omega
theorem sI_none (h : vB ld dg pa jo wa sr pu ri) (hsj : -1 ≤ sj ∧ sj < jo) (hI : sI ld dg pa jo wa sr pu ri sj lk tk en op fi la lo ti an Q P M D n k) {t : Nat} (ht : t < 360) (hn : tk t = -1) (l : Nat) (hl : l ≤ 200) (hc : op = 0 ∨ (l : Int) ≤ ti) : ¬ gd ld dg pa jo wa sr pu ri (kJ jo sj) l (cf_rest pa) (t : Int) := by
  intro hg
  obtain ⟨hq, hL, hA, h5, h6, h7, h8, h9, h10⟩ := hI
  obtain ⟨ms, hml, y, hy, hy2⟩ := (gd_0 h hsj ht l).mp hg
  obtain ⟨⟨g1, g2, g3, g4⟩, -, -, g5, -, -⟩ := id hq
  have no : ∀ b, b < n → ¬ kans pa jo wa sr ri sj (t : Int) (Q b) := by
    rcases hA t ht with ⟨-, q⟩ | ⟨b, b1, b2, b3, b4, b5⟩
    · exact q
    · omega
  have hall : ∀ c, c < n → D c < D 0 + ms.length → c < k := by
    intro c c1 c2
    by_cases z : ((D c : Nat) : Int) < ti
    · exact h8 c c1 z
    · rcases h10 with ⟨o1, o2⟩ | ⟨o1, o2⟩
      · omega
      · rcases o2 with o2 | o2 | o2
        · omega
        · omega
        · exfalso
          have e : sC tk = 360 := by omega
          have := ct_all 360 e t ht
          rw [decide_eq_true_iff] at this
          exact this hn
  obtain ⟨b', b1, b2, b3⟩ := qI_short hq ms 0 y (by omega) (by rw [g2]; exact hy) hall
  exact no b' b1 (by rw [b2]; exact hy2)
theorem sI_some (h : vB ld dg pa jo wa sr pu ri) (hsj : -1 ≤ sj ∧ sj < jo) (hI : sI ld dg pa jo wa sr pu ri sj lk tk en op fi la lo ti an Q P M D n k) {t : Nat} (ht : t < 360) {b : Nat} (hb : b < n) (ha : kans pa jo wa sr ri sj (t : Int) (Q b)) : gd ld dg pa jo wa sr pu ri (kJ jo sj) (D b) (cf_rest pa) (t : Int) := by
  obtain ⟨ms, m1, m2⟩ := qI_path hI.1 b hb
  exact (gd_0 h hsj ht (D b)).mpr ⟨ms, m1, _, m2, ha⟩
/-- the ticks -/
theorem sI_tk (h : vB ld dg pa jo wa sr pu ri) (hsj : -1 ≤ sj ∧ sj < jo) (hI : sI ld dg pa jo wa sr pu ri sj lk tk en op fi la lo ti an Q P M D n k) {t : Nat} (ht : t < 360) (hd : tk t ≠ -1 ∨ op = 0) : tk_is ld dg pa jo wa sr pu ri (kJ jo sj) (t : Int) (if tk t = -1 then -4 else tk t) := by
  by_cases e : tk t = -1
  · rw [if_pos e]
    exact Or.inr ⟨rfl, fun l hl => sI_none h hsj hI ht e l hl (Or.inl (by omega))⟩
  · rw [if_neg e]
    rcases hI.2.2.1 t ht with ⟨q, -⟩ | ⟨b, b1, b2, b3, b4, b5⟩
    · exact absurd q e
    · exact Or.inl ⟨D b, hI.2.2.2.1 b b1, b4, sI_some h hsj hI ht b1 b2, fun l' hl' => sI_min h hsj hI ht b1 b3 l' hl'⟩
theorem sI_b (hI : sI ld dg pa jo wa sr pu ri sj lk tk en op fi la lo ti an Q P M D n k) {t : Nat} (ht : t < 360) : -1 ≤ tk t ∧ tk t ≤ 200 := by
  rcases hI.2.2.1 t ht with ⟨q, -⟩ | ⟨b, b1, b2, b3, b4, b5⟩
  · omega
  · have := hI.2.2.2.1 b b1
    omega
theorem sI_B (h : vB ld dg pa jo wa sr pu ri) (hsj : -1 ≤ sj ∧ sj < jo) (hI : sI ld dg pa jo wa sr pu ri sj lk tk en op fi la lo ti an Q P M D n k) {t m : Nat} (ht : t < 360) (hd : op = 0 ∨ (m : Int) ≤ ti) : (0 ≤ tk t ∧ tk t ≤ (m : Int)) ↔ tk_B ld dg pa jo wa sr pu ri (kJ jo sj) (t : Int) m := by
  constructor
  · rintro ⟨h1, h2⟩
    rcases hI.2.2.1 t ht with ⟨q, -⟩ | ⟨b, b1, b2, b3, b4, b5⟩
    · omega
    · exact ⟨D b, hI.2.2.2.1 b b1, by omega, sI_some h hsj hI ht b1 b2⟩
  · rintro ⟨l, l1, l2, hg⟩
    rcases hI.2.2.1 t ht with ⟨q, -⟩ | ⟨b, b1, b2, b3, b4, b5⟩
    · exact absurd hg (sI_none h hsj hI ht q l l1 (by omega))
    · by_cases z : l < D b
      · exact absurd hg (sI_min h hsj hI ht b1 b3 l z)
      · omega
/-- a step backwards: the parent's shape and turn -/
theorem sI_par (h : vB ld dg pa jo wa sr pu ri) {x m y : Nat} (hx : x < (360 * kN pa jo wa sr sj).toNat) (hy : knx ld dg pa jo wa sr pu sj x m = some y) : ∃ c', kmv pa jo wa sr sj ((x / 360 : Nat) : Int) m = some c' ∧ kE pa jo wa sr sj c' = ((y / 360 : Nat) : Int) ∧ ((y % 360 : Nat) : Int) = (((x % 360 : Nat) : Int) + cf_turn ld dg pa pu c' (m : Int)) % 360 ∧ kD pa jo wa sr sj ((y / 360 : Nat) : Int) = c' := by
  unfold knx at hy
  obtain ⟨c', h1, h2⟩ := Option.map_eq_some_iff.mp hy
  obtain ⟨-, -, -, hb⟩ := kx_D h hx
  have hc' := kmv_ok h hb h1
  obtain ⟨k1, k2, k3, k4⟩ := kx_b h hc' (u := (((x % 360 : Nat) : Int) + cf_turn ld dg pa pu c' (m : Int)) % 360) (by omega)
  rw [h2] at k3 k4
  refine ⟨c', h1, k3.symm, k4, ?_⟩
  rw [k3]
  exact kE_D h hc'
/-- the moves: greedy from the start -/
theorem sI_gstep (h : vB ld dg pa jo wa sr pu ri) (hsj : sj = -1) (hq : qI (knx ld dg pa jo wa sr pu sj) (kx pa jo wa sr sj (cf_rest pa) 0) (360 * kN pa jo wa sr sj).toNat Q P M D n k 0) {t b : Nat} (hb : b < n) (ha : kans pa jo wa sr ri sj (t : Int) (Q b)) (hf : ∀ b', b' < b → ¬ kans pa jo wa sr ri sj (t : Int) (Q b')) {l : Nat} (hl : l < D b) : gstep ld dg pa jo wa sr pu ri (kJ jo sj) l (kD pa jo wa sr sj ((Q (anc P (l + 1) b) / 360 : Nat) : Int)) (((t : Int) + ((Q (anc P (l + 1) b) % 360 : Nat) : Int)) % 360) ((M (anc P l b) : Nat) : Int) (kD pa jo wa sr sj ((Q (anc P l b) / 360 : Nat) : Int)) (((t : Int) + ((Q (anc P l b) % 360 : Nat) : Int)) % 360) := by
  have h0 := h.1
  have hj : -1 ≤ sj ∧ sj < jo := by omega
  obtain ⟨a1, -⟩ := anc_D hq hb (l + 1) (by omega)
  obtain ⟨a2, -⟩ := anc_D hq hb l (by omega)
  have hx := hq.2.1 _ a1
  have hx2 := hq.2.1 _ a2
  obtain ⟨c', s1, s2, s3, s4⟩ := sI_par h hx (qI_step hq hb hl)
  obtain ⟨e1, e2, e3⟩ := kmv_i s1
  obtain ⟨d1, d2, d3, d4⟩ := kx_D h hx
  obtain ⟨f1, f2, f3, f4⟩ := kx_D h hx2
  refine ⟨by omega, by rw [s4]; exact e3, ?_, ?_, ?_⟩
  · rw [s4]
    omega
  · obtain ⟨ms, m1, m2⟩ := qI_tail hq hb l (by omega)
    refine (gd_nx h hj l _ _ f1 (by omega)).mpr ⟨ms, m1, _, ?_, ha⟩
    rw [← f3]
    exact m2
  · intro m' c1 m0 m1 hm hg
    have hns : ¬ kst sj m' := fun z => by have := z.2; have := z.1.1; omega
    have hc1 := cs_move h d1 (by omega) hns hm
    rw [show ((((t : Int) + ((Q (anc P (l + 1) b) % 360 : Nat) : Int)) % 360) + cf_turn ld dg pa pu c1 m') % 360 = ((t : Int) + (((Q (anc P (l + 1) b) % 360 : Nat) : Int) + cf_turn ld dg pa pu c1 m') % 360) % 360 by omega] at hg
    obtain ⟨ms, q1, z, q2, q3⟩ := (gd_nx h hj l c1 _ hc1 (by omega)).mp hg
    have e : ((m'.toNat : Nat) : Int) = m' := by omega
    have hy : knx ld dg pa jo wa sr pu sj (Q (anc P (l + 1) b)) m'.toNat = some (kx pa jo wa sr sj c1 ((((Q (anc P (l + 1) b) % 360 : Nat) : Int) + cf_turn ld dg pa pu c1 m') % 360)) := by
      have k1 := knx_c (pu := pu) (ld := ld) (dg := dg) h d1 (u := ((Q (anc P (l + 1) b) % 360 : Nat) : Int)) (by omega) (m := m'.toNat) (by omega) (by rw [e]; exact hns)
      rw [← d3, e, hm] at k1
      exact k1
    exact qI_greedy hq hb (tg := kans pa jo wa sr ri sj (t : Int)) hf hl (by omega) hy ms q1 q2 q3
theorem sI_gmv (h : vB ld dg pa jo wa sr pu ri) (hsj : sj = -1) (hq : qI (knx ld dg pa jo wa sr pu sj) (kx pa jo wa sr sj (cf_rest pa) 0) (360 * kN pa jo wa sr sj).toNat Q P M D n k 0) {t b : Nat} (hb : b < n) (ha : kans pa jo wa sr ri sj (t : Int) (Q b)) (hf : ∀ b', b' < b → ¬ kans pa jo wa sr ri sj (t : Int) (Q b')) : ∀ (i l : Nat), i ≤ l → l < D b → gmv ld dg pa jo wa sr pu ri (kJ jo sj) i l (kD pa jo wa sr sj ((Q (anc P (l + 1) b) / 360 : Nat) : Int)) (((t : Int) + ((Q (anc P (l + 1) b) % 360 : Nat) : Int)) % 360) ((M (anc P (l - i) b) : Nat) : Int)
  | 0, l, _, hl => ⟨_, _, sI_gstep h hsj hq hb ha hf hl⟩
  | i + 1, l, hi, hl => by
    refine ⟨_, _, _, sI_gstep h hsj hq hb ha hf hl, ?_⟩
    have k := sI_gmv h hsj hq hb ha hf i (l - 1) (by omega) (by omega)
    rw [show l - 1 + 1 = l by omega, show l - 1 - i = l - (i + 1) by omega] at k
    exact k
theorem sI_moves (h : vB ld dg pa jo wa sr pu ri) (hsj : sj = -1) (hq : qI (knx ld dg pa jo wa sr pu sj) (kx pa jo wa sr sj (cf_rest pa) 0) (360 * kN pa jo wa sr sj).toNat Q P M D n k 0) {t b : Nat} (ht : t < 360) (hb : b < n) (ha : kans pa jo wa sr ri sj (t : Int) (Q b)) (hf : ∀ b', b' < b → ¬ kans pa jo wa sr ri sj (t : Int) (Q b')) {i : Nat} (hi : i < D b) : gmv ld dg pa jo wa sr pu ri (kJ jo sj) i (D b - 1) (cf_rest pa) (t : Int) ((M (anc P (D b - 1 - i) b) : Nat) : Int) := by
  have k := sI_gmv h hsj hq hb ha hf i (D b - 1) (by omega) (by omega)
  rw [show D b - 1 + 1 = D b by omega, qI_root hq hb, hq.1.2.1, kx_st h (cs_rest h) (by omega), (kx_b h (cs_rest (sj := sj) h) (u := 0) (by omega)).2.2.2, show ((t : Int) + 0) % 360 = (t : Int) by omega] at k
  exact k
end SI
