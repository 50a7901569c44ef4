/-! Table: made ready, whatever the parts and the room -/
def kA (na : Nat) (K : Int) : Nat × Nat := if (na : Int) < K then (2, K.toNat * 12) else (0, 0)
theorem c_numberShapes {G : xa_G} {h : xa_H} {ld dg : Nat → Int} {pa jo : Nat} {wa sr pu ri sj : Int} {k kb kbr kam : Nat} {pl lw br am : Nat → Int} {nb na ns : Nat} {fs lst : Int} {po sp : Nat → Int} {tj tb : Int} (hB9 : vB ld dg pa jo wa sr pu ri) (hkk : kb + 3 ≤ k) (hpl0 : ∀ i, 0 ≤ pl i ∧ pl i ≤ 12) (hsj : -1 ≤ sj ∧ sj ≤ 1) (hnb : nb = na * 11) (hna9 : na ≤ 100000) (hT : xTb h k kb kbr kam sj pl lw br am nb na ns fs lst) (hS : xS h (k + 5) kb po sp tj tb) (hB : xB h kb ld dg pa jo wa sr pu ri) :
    xa_M G mX6_numberShapes [xa_r k] h (kA na (kN pa jo wa sr sj)).1 (kA na (kN pa jo wa sr sj)).2 (fun r h' => r = none ∧ (∃ (kbr' kam' nb' na' : Nat) (pl' lw' br' am' : Nat → Int), kP jo wa sr sj pl' lw' ∧ (∀ n, n < na' → am' n = 0) ∧ nb' = na' * 11 ∧ kN pa jo wa sr sj ≤ (na' : Int) ∧ na' = (if (na : Int) < kN pa jo wa sr sj then (kN pa jo wa sr sj).toNat else na) ∧ xTb h' k kb kbr' kam' sj pl' lw' br' am' nb' na' (kN pa jo wa sr sj).toNat (kF pa jo wa sr sj) (kF pa jo wa sr sj + (if 2 < pa then 27 else 9) - 1) ∧ (kbr' = kbr ∨ h.2 ≤ kbr') ∧ (kam' = kam ∨ h.2 ≤ kam')) ∧ xS h' (k + 5) kb (nP pa po) (xa_fl sp 2 0) tj 0 ∧ h'.2 = h.2 + (kA na (kN pa jo wa sr sj)).1 ∧ ∀ i, ((i < k ∨ k + 8 ≤ i) ∧ i ≠ kbr ∧ i ≠ kam ∧ i < h.2) → h'.1 i = h.1 i) := by
  obtain ⟨t0, t1, t2, t3, t4, ⟨k1, k2⟩, ⟨k3, k4⟩, ⟨k5, k6⟩, k7⟩ := hT
  obtain ⟨s0, s1, s2, s3, s4⟩ := hS
  obtain ⟨b0, b1, b2, b3, b4⟩ := hB
  have hN := kN_b (sj := sj) hB9
  have h0 := hB9.1
  by_cases hlt : (na : Int) < kN pa jo wa sr sj
  · have e : kA na (kN pa jo wa sr sj) = (2, (kN pa jo wa sr sj).toNat * 12) := if_pos hlt
    rw [e]
    rcases (show pa = 2 ∧ jo = 1 ∨ pa = 3 ∧ jo = 2 by omega) with ⟨rfl, rfl⟩ | ⟨rfl, rfl⟩
    · refine xa_mono (c_numberShapesa2 (G := G) (h := h) k kb kbr kam sj pl lw br am nb na ((ns : Nat) : Int) fs lst po sp tj tb ld dg wa sr pu ri k1 k2 b3 hkk k3 k4 k5 k6 k7 hpl0 hsj hB9 hlt h.2 rfl t0 t1 t2 t3 t4 s0 s1 s2 b0 b1 b2) ?_
      rintro r h' ⟨q1, ⟨pl', lw', hP, u0, u1, u2, u3, u4⟩, q2, q3, q4⟩
      exact ⟨q1, ⟨h.2 + 1, h.2, _, _, pl', lw', _, _, hP, fun n hn => xa_fl_lt _ _ hn, rfl, by omega, (if_pos hlt).symm, ⟨u0, u1, u2, u3, u4, by omega, by omega, by omega, by omega⟩, Or.inr (by omega), Or.inr (by omega)⟩, q2, q3, q4⟩
    · refine xa_mono (c_numberShapesa3 (G := G) (h := h) k kb kbr kam sj pl lw br am nb na ((ns : Nat) : Int) fs lst po sp tj tb ld dg wa sr pu ri k1 k2 b3 hkk k3 k4 k5 k6 k7 hpl0 hsj hB9 hlt h.2 rfl t0 t1 t2 t3 t4 s0 s1 s2 b0 b1 b2) ?_
      rintro r h' ⟨q1, ⟨pl', lw', hP, u0, u1, u2, u3, u4⟩, q2, q3, q4⟩
      exact ⟨q1, ⟨h.2 + 1, h.2, _, _, pl', lw', _, _, hP, fun n hn => xa_fl_lt _ _ hn, rfl, by omega, (if_pos hlt).symm, ⟨u0, u1, u2, u3, u4, by omega, by omega, by omega, by omega⟩, Or.inr (by omega), Or.inr (by omega)⟩, q2, q3, q4⟩
  · have e : kA na (kN pa jo wa sr sj) = (0, 0) := if_neg hlt
    rw [e]
    rcases (show pa = 2 ∧ jo = 1 ∨ pa = 3 ∧ jo = 2 by omega) with ⟨rfl, rfl⟩ | ⟨rfl, rfl⟩
    · refine xa_mono (c_numberShapesn2 (G := G) (h := h) k kb kbr kam sj pl lw br am nb na ((ns : Nat) : Int) fs lst po sp tj tb ld dg wa sr pu ri k1 k2 b3 hkk k3 k4 k5 k6 k7 hpl0 hsj hB9 (by omega) hna9 t0 t1 t2 t3 t4 s0 s1 s2 b0 b1 b2) ?_
      rintro r h' ⟨q1, ⟨pl', lw', hP, u0, u1, u2, u3, u4⟩, q2, q3, q4⟩
      exact ⟨q1, ⟨kbr, kam, nb, na, pl', lw', _, _, hP, fun n hn => xa_fl_lt _ _ hn, hnb, by omega, (if_neg hlt).symm, ⟨u0, u1, u2, u3, u4, by omega, by omega, by omega, by omega⟩, Or.inl rfl, Or.inl rfl⟩, q2, q3, fun i hi => q4 i ⟨hi.1, hi.2.1, hi.2.2.1⟩⟩
    · refine xa_mono (c_numberShapesn3 (G := G) (h := h) k kb kbr kam sj pl lw br am nb na ((ns : Nat) : Int) fs lst po sp tj tb ld dg wa sr pu ri k1 k2 b3 hkk k3 k4 k5 k6 k7 hpl0 hsj hB9 (by omega) hna9 t0 t1 t2 t3 t4 s0 s1 s2 b0 b1 b2) ?_
      rintro r h' ⟨q1, ⟨pl', lw', hP, u0, u1, u2, u3, u4⟩, q2, q3, q4⟩
      exact ⟨q1, ⟨kbr, kam, nb, na, pl', lw', _, _, hP, fun n hn => xa_fl_lt _ _ hn, hnb, by omega, (if_neg hlt).symm, ⟨u0, u1, u2, u3, u4, by omega, by omega, by omega, by omega⟩, Or.inl rfl, Or.inl rfl⟩, q2, q3, fun i hi => q4 i ⟨hi.1, hi.2.1, hi.2.2.1⟩⟩
