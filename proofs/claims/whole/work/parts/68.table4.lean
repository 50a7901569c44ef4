/-! Table: numbers and shapes, whatever the parts -/
def xTb (h : xa_H) (k kb kbr kam : Nat) (sj : Int) (pl lw br am : Nat → Int) (nb na ns : Nat) (fs lst : Int) : Prop := h.1 k = xa_o 6 [xa_r kb, xa_r (k + 5), xa_i sj, xa_r (k + 1), xa_r (k + 2), xa_i ((ns : Nat) : Int), xa_i fs, xa_i lst, xa_r kbr, xa_r kam] ∧ h.1 (k + 1) = xa_a 2 pl ∧ h.1 (k + 2) = xa_a 2 lw ∧ h.1 kbr = xa_a nb br ∧ h.1 kam = xa_a na am ∧ (2 ≤ k ∧ k + 7 < h.2) ∧ ((k + 8 ≤ kbr ∨ kbr = k + 3) ∧ kbr < h.2) ∧ ((k + 8 ≤ kam ∨ kam = k + 4) ∧ kam < h.2) ∧ kbr ≠ kam
section T4
variable {G : xa_G} {h : xa_H} {ld dg : Nat → Int} {pa jo : Nat} {wa sr pu ri sj : Int} {k kb kbr kam : Nat} {pl lw br am : Nat → Int} {nb na ns : Nat} {fs lst : Int} {po sp : Nat → Int} {tj tb : Int}
theorem c_numberNow (hB9 : vB ld dg pa jo wa sr pu ri) (hP : kP jo wa sr sj pl lw) (hkk : kb + 3 ≤ k) (hT : xTb h k kb kbr kam sj pl lw br am nb na ns fs lst) (hS : xS h (k + 5) kb po sp tj tb) (hB : xB h kb ld dg pa jo wa sr pu ri) {c : xCf} (ha : cf_as pa c po sp) : xa_M G mX6_numberNow [xa_r k] h 0 0 (fun r h' => r = some (xa_i (kE pa jo wa sr sj c)) ∧ h' = h) := by
  obtain ⟨t0, t1, t2, t3, t4, ⟨k1, k2⟩, ⟨k3, k4⟩, ⟨k5, k6⟩, k7⟩ := hT
  obtain ⟨s0, s1, s2, s3, s4⟩ := hS
  obtain ⟨b0, b1, b2, b3, b4⟩ := hB
  have hE := num_E hP ha
  rcases (show pa = 2 ∨ pa = 3 by have := hB9.1; omega) with rfl | rfl
  · have m := c_numberNow2 (G := G) (h := h) k kb kbr kam sj pl lw br am nb na ns fs lst po sp tj tb ld dg jo wa sr pu ri k1 k2 b3 hkk k3 k4 k5 k6 t0 t1 t2 t3 t4 s0 s1 s2 b0 b1 b2
    rw [hE.1 (by decide)] at m
    exact m
  · have m := c_numberNow3 (G := G) (h := h) k kb kbr kam sj pl lw br am nb na ns fs lst po sp tj tb ld dg jo wa sr pu ri k1 k2 b3 hkk k3 k4 k5 k6 t0 t1 t2 t3 t4 s0 s1 s2 b0 b1 b2
    rw [hE.2 (by decide)] at m
    exact m
theorem kD_as (hB9 : vB ld dg pa jo wa sr pu ri) (hP : kP jo wa sr sj pl lw) {n : Int} (hn : 0 ≤ n ∧ n < kN pa jo wa sr sj) (hpo : ∀ i, 0 ≤ po i ∧ po i ≤ 2) (hsp : ∀ i, -2 ≤ sp i ∧ sp i ≤ 12) {po' sp' : Nat → Int} (e0 : po' 0 = n % 3) (e1 : po' 1 = n / 3 % 3) (e2 : po' 2 = if 2 < pa then n / 3 / 3 % 3 else po 2) (e3 : ∀ i, 3 ≤ i → po' i = po i)
    (f0 : sp' 0 = (if 2 < pa then n / 3 / 3 / 3 else n / 3 / 3) % max (pl 0) 1 + lw 0) (f1 : sp' 1 = (if 2 < pa then n / 3 / 3 / 3 else n / 3 / 3) / max (pl 0) 1 % max (pl 1) 1 + lw 1) (f2 : ∀ i, 2 ≤ i → sp' i = sp i) : cf_as pa (kD pa jo wa sr sj n) po' sp' ∧ (∀ i, 0 ≤ po' i ∧ po' i ≤ 2) ∧ ∀ i, -2 ≤ sp' i ∧ sp' i ≤ 12 := by
  obtain ⟨p0, p1, l0, l1, -⟩ := hP
  have ta := tp_b (sj := sj) hB9 0
  have tb := tp_b (sj := sj) hB9 1
  have m0 : max (pl 0) 1 = tp jo wa sr sj 0 := by omega
  have m1 : max (pl 1) 1 = tp jo wa sr sj 1 := by omega
  rw [m0, l0] at f0
  rw [m0, m1, l1] at f1
  have hk := (kD_ok hB9 hn).1.1
  have g0 : sp' 0 = (kD pa jo wa sr sj n).2.2.2.1 := by rw [f0]; unfold kD; dsimp only; omega
  have g1 : sp' 1 = (kD pa jo wa sr sj n).2.2.2.2 := by rw [f1]; unfold kD; dsimp only; omega
  refine ⟨⟨e0, e1, fun z => by rw [e2, if_pos z]; unfold kD; dsimp only; rw [if_pos z], g0, g1⟩, fun i => ?_, fun i => ?_⟩
  · by_cases i0 : i = 0
    · subst i0; rw [e0]; omega
    by_cases i1 : i = 1
    · subst i1; rw [e1]; omega
    by_cases i2 : i = 2
    · subst i2
      rw [e2]
      split
      · omega
      · exact hpo 2
    · rw [e3 i (by omega)]; exact hpo i
  · by_cases i0 : i = 0
    · subst i0; rw [g0]; have := cf_in_b hB9 hk.2.2.2.1; omega
    by_cases i1 : i = 1
    · subst i1; rw [g1]; have := cf_in_b hB9 hk.2.2.2.2; omega
    · rw [f2 i (by omega)]; exact hsp i
theorem c_become (hB9 : vB ld dg pa jo wa sr pu ri) (hP : kP jo wa sr sj pl lw) (hkk : kb + 3 ≤ k) (hT : xTb h k kb kbr kam sj pl lw br am nb na ns fs lst) (hS : xS h (k + 5) kb po sp tj tb) (hB : xB h kb ld dg pa jo wa sr pu ri) (hpo : ∀ i, 0 ≤ po i ∧ po i ≤ 2) (hsp : ∀ i, -2 ≤ sp i ∧ sp i ≤ 12) {n : Int} (hn : 0 ≤ n ∧ n < kN pa jo wa sr sj) : xa_M G mX6_become [xa_r k, xa_i n] h 0 0 (fun r h' => r = none ∧ (∃ po' sp' : Nat → Int, cf_as pa (kD pa jo wa sr sj n) po' sp' ∧ (∀ i, 0 ≤ po' i ∧ po' i ≤ 2) ∧ (∀ i, -2 ≤ sp' i ∧ sp' i ≤ 12) ∧ xS h' (k + 5) kb po' sp' tj tb) ∧ h'.2 = h.2 ∧ ∀ i, (i ≠ k + 5 + 1 ∧ i ≠ k + 5 + 2) → h'.1 i = h.1 i) := by
  obtain ⟨t0, t1, t2, t3, t4, ⟨k1, k2⟩, ⟨k3, k4⟩, ⟨k5, k6⟩, k7⟩ := hT
  obtain ⟨s0, s1, s2, s3, s4⟩ := hS
  obtain ⟨b0, b1, b2, b3, b4⟩ := hB
  have hN := kN_b (sj := sj) hB9
  have hP' := hP
  rcases (show pa = 2 ∨ pa = 3 by have := hB9.1; omega) with rfl | rfl
  · refine xa_mono (c_become2 (G := G) (h := h) k kb kbr kam sj pl lw br am nb na ns fs lst po sp tj tb ld dg jo wa sr pu ri k1 k2 b3 hkk k3 k4 k5 k6 n (by omega) hP.2.2.2.2 t0 t1 t2 t3 t4 s0 s1 s2 b0 b1 b2) ?_
    rintro r h' ⟨q1, q2, q3, q4, q5⟩
    obtain ⟨z1, z2, z3⟩ := kD_as (po := po) (sp := sp) hB9 hP' hn hpo hsp (po' := xa_upf (xa_upf po 0 (n % 3)) 1 (n / 3 % 3)) (sp' := xa_upf (xa_upf sp 0 (n / 3 / 3 % (max (pl 0) 1) + lw 0)) 1 (n / 3 / 3 / (max (pl 0) 1) % (max (pl 1) 1) + lw 1)) (by rw [xa_upf_ne _ _ (by decide), xa_upf_at]) (xa_upf_at _ _ _) (by rw [xa_upf_ne _ _ (by decide), xa_upf_ne _ _ (by decide), if_neg (by decide)]) (fun i hi => by rw [xa_upf_ne _ _ (by omega), xa_upf_ne _ _ (by omega)])
      (by rw [xa_upf_ne _ _ (by decide), xa_upf_at, if_neg (by decide)]) (by rw [xa_upf_at, if_neg (by decide)]) (fun i hi => by rw [xa_upf_ne _ _ (by omega), xa_upf_ne _ _ (by omega)])
    exact ⟨q1, ⟨_, _, z1, z2, z3, (q5 _ (by omega)).trans s0, q2, q3, s3, by omega⟩, q4, q5⟩
  · refine xa_mono (c_become3 (G := G) (h := h) k kb kbr kam sj pl lw br am nb na ns fs lst po sp tj tb ld dg jo wa sr pu ri k1 k2 b3 hkk k3 k4 k5 k6 n (by omega) hP.2.2.2.2 t0 t1 t2 t3 t4 s0 s1 s2 b0 b1 b2) ?_
    rintro r h' ⟨q1, q2, q3, q4, q5⟩
    obtain ⟨z1, z2, z3⟩ := kD_as (po := po) (sp := sp) hB9 hP' hn hpo hsp (po' := xa_upf (xa_upf (xa_upf po 0 (n % 3)) 1 (n / 3 % 3)) 2 (n / 3 / 3 % 3)) (sp' := xa_upf (xa_upf sp 0 (n / 3 / 3 / 3 % (max (pl 0) 1) + lw 0)) 1 (n / 3 / 3 / 3 / (max (pl 0) 1) % (max (pl 1) 1) + lw 1)) (by rw [xa_upf_ne _ _ (by decide), xa_upf_ne _ _ (by decide), xa_upf_at]) (by rw [xa_upf_ne _ _ (by decide), xa_upf_at]) (by rw [xa_upf_at, if_pos (by decide)]) (fun i hi => by rw [xa_upf_ne _ _ (by omega), xa_upf_ne _ _ (by omega), xa_upf_ne _ _ (by omega)])
      (by rw [xa_upf_ne _ _ (by decide), xa_upf_at, if_pos (by decide)]) (by rw [xa_upf_at, if_pos (by decide)]) (fun i hi => by rw [xa_upf_ne _ _ (by omega), xa_upf_ne _ _ (by omega)])
    exact ⟨q1, ⟨_, _, z1, z2, z3, (q5 _ (by omega)).trans s0, q2, q3, s3, by omega⟩, q4, q5⟩
end T4
/-- a branch's word -/
theorem tb_word {m e a : Nat} (hm : m < 32) (he : e < 2048) (ha : a < 360) : xa_or (xa_or ((m : Nat) : Int) (xa_shl ((e : Nat) : Int) 5)) (xa_shl ((a : Nat) : Int) 16) = ((m + 32 * e + 65536 * a : Nat) : Int) := by
  rw [xa_shl_mul 5 5 (by decide) (by omega) (by omega), xa_shl_mul 16 16 (by decide) (by omega) (by omega)]
  rw [(xa_or_add (a := e) (b := m) (k := 5) (by omega) (by omega) (by omega)).1]
  rw [(xa_or_add (a := a) (b := e * 2 ^ 5 + m) (k := 16) (by omega) (by omega) (by omega)).1]
  congr 1
  omega
theorem kw_y {ld dg : Nat → Int} {pa jo : Nat} {wa sr pu sj n : Int} {m : Nat} {c' : xCf} (h : kmv pa jo wa sr sj n m = some c') : kw ld dg pa jo wa sr pu sj n m = m + 32 * (kE pa jo wa sr sj c').toNat + 65536 * (cf_turn ld dg pa pu c' (m : Int) % 360).toNat := by
  unfold kw
  rw [h]
/-- the branches of a shape, as far as the moves below m -/
def kR (ld dg : Nat → Int) (pa jo : Nat) (wa sr pu sj : Int) (br : Nat → Int) (n m : Nat) : Prop := ∀ m' c', m' < m → kmv pa jo wa sr sj ((n : Nat) : Int) m' = some c' → br (n * 11 + kc pa jo wa sr sj ((n : Nat) : Int) m') = ((kw ld dg pa jo wa sr pu sj ((n : Nat) : Int) m' : Nat) : Int)
/-- the table is right where it is told -/
def kTI (ld dg : Nat → Int) (pa jo : Nat) (wa sr pu sj : Int) (br am : Nat → Int) : Prop := ∀ n : Nat, ((n : Nat) : Int) < kN pa jo wa sr sj → am n = 0 ∨ (am n = ((kc pa jo wa sr sj ((n : Nat) : Int) 19 : Nat) : Int) ∧ kR ld dg pa jo wa sr pu sj br n 19)
theorem kR_new {ld dg : Nat → Int} {pa jo : Nat} {wa sr pu sj : Int} {br : Nat → Int} {n m : Nat} (h : kR ld dg pa jo wa sr pu sj br n m) {c' : xCf} (hm : kmv pa jo wa sr sj ((n : Nat) : Int) m = some c') : kR ld dg pa jo wa sr pu sj (xa_upf br (n * 11 + kc pa jo wa sr sj ((n : Nat) : Int) m) ((kw ld dg pa jo wa sr pu sj ((n : Nat) : Int) m : Nat) : Int)) n (m + 1) := by
  intro m' c1 h1 h2
  by_cases e : m' = m
  · subst e
    exact xa_upf_at _ _ _
  · have k1 := kc_y h2
    have k2 := (kc_le (pa := pa) (jo := jo) (wa := wa) (sr := sr) (sj := sj) ((n : Nat) : Int) (m' + 1) (m - (m' + 1))).1
    rw [show m' + 1 + (m - (m' + 1)) = m by omega] at k2
    rw [xa_upf_ne _ _ (by omega)]
    exact h m' c1 (by omega) h2
theorem kR_old {ld dg : Nat → Int} {pa jo : Nat} {wa sr pu sj : Int} {br : Nat → Int} {n m : Nat} (h : kR ld dg pa jo wa sr pu sj br n m) (hm : kmv pa jo wa sr sj ((n : Nat) : Int) m = none) : kR ld dg pa jo wa sr pu sj br n (m + 1) := by
  intro m' c1 h1 h2
  by_cases e : m' = m
  · subst e
    rw [hm] at h2
    cases h2
  · exact h m' c1 (by omega) h2
theorem kR_ext {ld dg : Nat → Int} {pa jo : Nat} {wa sr pu sj : Int} {br br' : Nat → Int} {n : Nat} (h : kR ld dg pa jo wa sr pu sj br n 19) (he : ∀ i, n * 11 ≤ i → i < n * 11 + 11 → br' i = br i) : kR ld dg pa jo wa sr pu sj br' n 19 := by
  intro m' c1 h1 h2
  have k1 := kc_y h2
  have k2 := (kc_le (pa := pa) (jo := jo) (wa := wa) (sr := sr) (sj := sj) ((n : Nat) : Int) (m' + 1) (19 - (m' + 1))).1
  rw [show m' + 1 + (19 - (m' + 1)) = 19 by omega] at k2
  have k3 := kc_11 (pa := pa) (jo := jo) (wa := wa) (sr := sr) (sj := sj) ((n : Nat) : Int)
  rw [he _ (by omega) (by omega)]
  exact h m' c1 h1 h2
theorem kTI_new {ld dg : Nat → Int} {pa jo : Nat} {wa sr pu sj : Int} {br br' am : Nat → Int} {n : Nat} (h : kTI ld dg pa jo wa sr pu sj br am) (hn : kR ld dg pa jo wa sr pu sj br' n 19) (he : ∀ i, (i < n * 11 ∨ n * 11 + 11 ≤ i) → br' i = br i) : kTI ld dg pa jo wa sr pu sj br' (xa_upf am n ((kc pa jo wa sr sj ((n : Nat) : Int) 19 : Nat) : Int)) := by
  intro j hj
  by_cases e : j = n
  · subst e
    exact Or.inr ⟨xa_upf_at _ _ _, hn⟩
  · rw [xa_upf_ne _ _ e]
    rcases h j hj with q | ⟨q1, q2⟩
    · exact Or.inl q
    · exact Or.inr ⟨q1, kR_ext q2 (fun i h1 h2 => he i (by omega))⟩
