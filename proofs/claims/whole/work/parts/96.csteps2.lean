/-! The class's calls, in its world: searches, what is kept, what is read -/
theorem p9.new {k x x' n : Nat} (h : p9 k x) (hx : x' = x ∨ n ≤ x') (hn : k + 89 ≤ n) : p9 k x' := by
  rcases hx with rfl | hx
  · exact h
  · exact Or.inr (by omega)
section CW2
variable {h h1 : xa_H} {k : Nat} {n : Nat} {f ld dg : Nat → Int} {pa jo : Nat} {wa sr pu ri : Int} {mv le fi : Nat → Int} {pc kp : Nat} {mv1 le1 fi1 : Nat → Int} {pc1 : Nat} {mv2 le2 fi2 : Nat → Int} {pc2 : Nat} {bc bs : Nat} {bc' bs' : Nat}
theorem xCW.srch (h0 : xCW h k n f ld dg pa jo wa sr pu ri mv le fi pc kp mv1 le1 fi1 pc1 mv2 le2 fi2 pc2 bc bs) (hf : ∀ i, i < k + 36 → h1.1 i = h.1 i) (hn : h.2 ≤ h1.2) (hCs1 : xCs h1 k ld dg pa jo wa sr pu ri bc' bs') : xCW h1 k n f ld dg pa jo wa sr pu ri mv le fi pc kp mv1 le1 fi1 pc1 mv2 le2 fi2 pc2 bc' bs' := by
  obtain ⟨hX, hT, hB, hH, hW, hB9, hok, hTS, hLn, hLS, hCd, hCk, hCs⟩ := h0
  obtain ⟨ln, hln⟩ := hLn
  have hk := hX.2.1
  exact ⟨hX.fr (hf _ (by omega)) hn, hT.fr (fun i _ _ => hf i (by omega)) hn, hB.fr (fun i _ _ => hf i (by omega)) hn, hH.fr (fun i _ _ => hf i (by omega)) hn, (hf _ (by omega)).trans hW, hB9, hok, hTS.fr (fun i _ _ => hf i (by omega)) hn, ⟨ln, (hf _ (by omega)).trans hln⟩, hLS.fr (fun i _ _ => hf i (by omega)) hn, hCd.fr (fun i _ _ => hf i (by omega)) hn, hCk.fr (fun i _ _ => hf i (by omega)) hn, hCs1⟩
theorem xCs.one {l1 r1 m1 nl1 na1 nlx nax l2 r2 m2 nl2 na2 l3 r3 m3 nl3 na3 : Nat} {rd1 rd2 rd3 : Int} (hk : k + 89 ≤ h.2) (hn : h.2 ≤ h1.2) (a1 : xSA h (k + 36) (k + 3) l1 r1 m1 nl1 na1 (-1) rd1 ld dg pa jo wa sr pu ri) (a2 : xSA h (k + 48) (k + 3) l2 r2 m2 nl2 na2 0 rd2 ld dg pa jo wa sr pu ri) (a3 : xSA h (k + 60) (k + 3) l3 r3 m3 nl3 na3 1 rd3 ld dg pa jo wa sr pu ri) (s1 : SP (k + 36) l1 r1 m1 (k + 48) l2 r2 m2) (s2 : SP (k + 36) l1 r1 m1 (k + 60) l3 r3 m3) (s3 : SP (k + 48) l2 r2 m2 (k + 60) l3 r3 m3) (p : p9 k l1 ∧ p9 k r1 ∧ p9 k m1) (q : p9 k l2 ∧ p9 k r2 ∧ p9 k m2) (t : p9 k l3 ∧ p9 k r3 ∧ p9 k m3) (n2 : na2 % 9 = 0 ∧ na2 ≤ 9 * 36) (n3 : na3 % 9 = 0 ∧ na3 ≤ 9 * 36) (nx : nax % 9 = 0 ∧ nax ≤ 9 * 180) (hF : xSF h1 h.2 (k + 36) (k + 3) l1 r1 m1 nlx nax (-1) ld dg pa jo wa sr pu ri) (hf : ∀ i, ((i < k + 36 ∨ k + 48 ≤ i) ∧ i ≠ l1 ∧ i ≠ r1 ∧ i ≠ m1 ∧ i < h.2) → h1.1 i = h.1 i) (hbc : pSc 180 nax nlx + pSc 36 na2 nl2 + pSc 36 na3 nl3 ≤ bc') (hbs : pSs 180 nax nlx + pSs 36 na2 nl2 + pSs 36 na3 nl3 ≤ bs') : xCs h1 k ld dg pa jo wa sr pu ri bc' bs' := by
  obtain ⟨l', r', m', z1, e1, e2, e3⟩ := hF
  obtain ⟨-, -, -, x4, x5, x6, x7⟩ := a2.spl.lt
  obtain ⟨-, -, -, y4, y5, y6, y7⟩ := a3.spl.lt
  exact ⟨l', r', m', nlx, nax, 1, l2, r2, m2, nl2, na2, rd2, l3, r3, m3, nl3, na3, rd3, z1, a2.fr (fun i hi => by have z := s1.out hi; have z2 := own.lt a2 hi; exact hf i ⟨z.1, z.2.1, z.2.2.1, z.2.2.2, z2⟩) hn, a3.fr (fun i hi => by have z := s2.out hi; have z2 := own.lt a3 hi; exact hf i ⟨z.1, z.2.1, z.2.2.1, z.2.2.2, z2⟩) hn, s1.new (n := h.2) (by omega) x5 x6 x7 e1 e2 e3, s2.new (n := h.2) (by omega) y5 y6 y7 e1 e2 e3, s3, ⟨p.1.new e1 hk, p.2.1.new e2 hk, p.2.2.new e3 hk⟩, q, t, nx, n2, n3, hbc, hbs⟩
end CW2
theorem p9.lo {k x : Nat} (h : p9 k x) {i : Nat} (hi : i < k + 36 ∨ k + 72 ≤ i ∧ i < k + 89) : i ≠ x := by
  unfold p9 at h
  omega
theorem s_soon {G : xa_G} {h : xa_H} {k : Nat} {n : Nat} {f ld dg : Nat → Int} {pa jo : Nat} {wa sr pu ri : Int} {mv le fi : Nat → Int} {pc kp : Nat} {mv1 le1 fi1 : Nat → Int} {pc1 : Nat} {mv2 le2 fi2 : Nat → Int} {pc2 : Nat} {bc bs : Nat} (t i : Int) (h1 : xa_ok t) (h2 : xa_ok i) (hkk : k + 89 ≤ h.2) (hC : xCW h k n f ld dg pa jo wa sr pu ri mv le fi pc kp mv1 le1 fi1 pc1 mv2 le2 fi2 pc2 bc bs) : ∃ cc cs bc' bs' : Nat, cc + bc' ≤ bc ∧ cs + bs' ≤ bs ∧ xa_M G mX9_soon [xa_r k, xa_i t, xa_i i] h cc cs (fun r h' => (∃ r0, r = some (xa_i r0) ∧ sq_soon ld dg pa jo wa sr pu ri t i r0) ∧ xCW h' k n f ld dg pa jo wa sr pu ri mv le fi pc kp mv1 le1 fi1 pc1 mv2 le2 fi2 pc2 bc' bs' ∧ (∀ i, k + 72 ≤ i → i < k + 89 → h'.1 i = h.1 i) ∧ h.2 ≤ h'.2) := by
  have hC' := hC
  obtain ⟨hX, hT, hB, hH, hW, hB9, hok, hTS, hLn, hLS, hCd, hCk, hCs⟩ := hC
  obtain ⟨ln, hln⟩ := hLn
  by_cases hag : (0 ≤ t ∧ t ≤ 359) ∧ -1 ≤ i
  · obtain ⟨l1, r1, m1, nl1, na1, rd1, l2, r2, m2, nl2, na2, rd2, l3, r3, m3, nl3, na3, rd3, a1, a2, a3, s1, s2, s3, ⟨p1, p2, p3⟩, ⟨q1, q2, q3⟩, ⟨t1, t2, t3⟩, ⟨n1, n1'⟩, ⟨n2, n2'⟩, ⟨n3, n3'⟩, hbc, hbs⟩ := hCs
    obtain ⟨u1, u2, u3⟩ := kC_m (rdy := rd1) (nl := nl1) hB9 n1 n1'
    refine ⟨(kC rd1 na1 nl1 (kN pa jo wa sr (-1))).1, (kC rd1 na1 nl1 (kN pa jo wa sr (-1))).2, bc - (kC rd1 na1 nl1 (kN pa jo wa sr (-1))).1, bs - (kC rd1 na1 nl1 (kN pa jo wa sr (-1))).2, by omega, by omega, xa_mono (c_xSoon k _ ld dg pa jo wa sr pu ri t i h1 h2 hag l1 r1 m1 nl1 na1 rd1 hB9 hX hB a1) ?_⟩
    rintro r h' ⟨w1, w2, w3, w4⟩
    have hn : h.2 ≤ h'.2 := by omega
    exact ⟨w1, hC'.srch (fun i hi => w4 i ⟨by omega, p1.lo (Or.inl hi), p2.lo (Or.inl hi), p3.lo (Or.inl hi), by omega⟩) hn (xCs.one hkk hn a1 a2 a3 s1 s2 s3 ⟨p1, p2, p3⟩ ⟨q1, q2, q3⟩ ⟨t1, t2, t3⟩ ⟨n2, n2'⟩ ⟨n3, n3'⟩ u1 w2 w4 (by omega) (by omega)), fun i hi hj => w4 i ⟨by omega, p1.lo (Or.inr ⟨hi, hj⟩), p2.lo (Or.inr ⟨hi, hj⟩), p3.lo (Or.inr ⟨hi, hj⟩), by omega⟩, hn⟩
  · refine ⟨0, 0, bc, bs, by omega, by omega, xa_mono (c_xSoonB k _ t i h1 h2 hag hX) ?_⟩
    rintro r h' ⟨w1, w2⟩
    subst w2
    exact ⟨⟨_, w1, Or.inl ⟨hag, rfl⟩⟩, hC', fun _ _ _ => rfl, Nat.le_refl _⟩
theorem s_saved {G : xa_G} {h : xa_H} {k : Nat} {n : Nat} {f ld dg : Nat → Int} {pa jo : Nat} {wa sr pu ri : Int} {mv le fi : Nat → Int} {pc kp : Nat} {mv1 le1 fi1 : Nat → Int} {pc1 : Nat} {mv2 le2 fi2 : Nat → Int} {pc2 : Nat} {bc bs : Nat} (H : Int) (h1 : xa_ok H) (hkk : k + 89 ≤ h.2) (hC : xCW h k n f ld dg pa jo wa sr pu ri mv le fi pc kp mv1 le1 fi1 pc1 mv2 le2 fi2 pc2 bc bs) : ∃ cc cs bc' bs' : Nat, cc + bc' ≤ bc ∧ cs + bs' ≤ bs ∧ xa_M G mX9_saved [xa_r k, xa_i H] h cc cs (fun r h' => (∃ r0, r = some (xa_i r0) ∧ sq_saved ld dg pa jo wa sr pu ri H r0) ∧ xCW h' k n f ld dg pa jo wa sr pu ri mv le fi pc kp mv1 le1 fi1 pc1 mv2 le2 fi2 pc2 bc' bs' ∧ (∀ i, k + 72 ≤ i → i < k + 89 → h'.1 i = h.1 i) ∧ h.2 ≤ h'.2) := by
  have hC' := hC
  obtain ⟨hX, hT, hB, hH, hW, hB9, hok, hTS, hLn, hLS, hCd, hCk, hCs⟩ := hC
  obtain ⟨ln, hln⟩ := hLn
  by_cases hag : 0 ≤ H ∧ H ≤ 100000
  · obtain ⟨l1, r1, m1, nl1, na1, rd1, l2, r2, m2, nl2, na2, rd2, l3, r3, m3, nl3, na3, rd3, a1, a2, a3, s1, s2, s3, ⟨p1, p2, p3⟩, ⟨q1, q2, q3⟩, ⟨t1, t2, t3⟩, ⟨n1, n1'⟩, ⟨n2, n2'⟩, ⟨n3, n3'⟩, hbc, hbs⟩ := hCs
    obtain ⟨u1, u2, u3⟩ := kC_m (rdy := rd1) (nl := nl1) hB9 n1 n1'
    refine ⟨(kC rd1 na1 nl1 (kN pa jo wa sr (-1))).1, (kC rd1 na1 nl1 (kN pa jo wa sr (-1))).2, bc - (kC rd1 na1 nl1 (kN pa jo wa sr (-1))).1, bs - (kC rd1 na1 nl1 (kN pa jo wa sr (-1))).2, by omega, by omega, xa_mono (c_xSaved k _ ld dg pa jo wa sr pu ri H h1 hag l1 r1 m1 nl1 na1 rd1 hB9 hX hB a1) ?_⟩
    rintro r h' ⟨w1, w2, w3, w4⟩
    have hn : h.2 ≤ h'.2 := by omega
    exact ⟨w1, hC'.srch (fun i hi => w4 i ⟨by omega, p1.lo (Or.inl hi), p2.lo (Or.inl hi), p3.lo (Or.inl hi), by omega⟩) hn (xCs.one hkk hn a1 a2 a3 s1 s2 s3 ⟨p1, p2, p3⟩ ⟨q1, q2, q3⟩ ⟨t1, t2, t3⟩ ⟨n2, n2'⟩ ⟨n3, n3'⟩ u1 w2 w4 (by omega) (by omega)), fun i hi hj => w4 i ⟨by omega, p1.lo (Or.inr ⟨hi, hj⟩), p2.lo (Or.inr ⟨hi, hj⟩), p3.lo (Or.inr ⟨hi, hj⟩), by omega⟩, hn⟩
  · refine ⟨0, 0, bc, bs, by omega, by omega, xa_mono (c_xSavedB k _ H h1 hag hX) ?_⟩
    rintro r h' ⟨w1, w2⟩
    subst w2
    exact ⟨⟨_, w1, Or.inl ⟨hag, rfl⟩⟩, hC', fun _ _ _ => rfl, Nat.le_refl _⟩
theorem s_worth {G : xa_G} {h : xa_H} {k : Nat} {n : Nat} {f ld dg : Nat → Int} {pa jo : Nat} {wa sr pu ri : Int} {mv le fi : Nat → Int} {pc kp : Nat} {mv1 le1 fi1 : Nat → Int} {pc1 : Nat} {mv2 le2 fi2 : Nat → Int} {pc2 : Nat} {bc bs : Nat} (j t : Int) (h1 : xa_ok j) (h2 : xa_ok t) (hkk : k + 89 ≤ h.2) (hC : xCW h k n f ld dg pa jo wa sr pu ri mv le fi pc kp mv1 le1 fi1 pc1 mv2 le2 fi2 pc2 bc bs) : ∃ cc cs bc' bs' : Nat, cc + bc' ≤ bc ∧ cs + bs' ≤ bs ∧ xa_M G mX9_worth [xa_r k, xa_i j, xa_i t] h cc cs (fun r h' => (∃ r0, r = some (xa_i r0) ∧ sq_worth ld dg pa jo wa sr pu ri j t r0) ∧ xCW h' k n f ld dg pa jo wa sr pu ri mv le fi pc kp mv1 le1 fi1 pc1 mv2 le2 fi2 pc2 bc' bs' ∧ (∀ i, k + 72 ≤ i → i < k + 89 → h'.1 i = h.1 i) ∧ h.2 ≤ h'.2) := by
  have hC' := hC
  obtain ⟨hX, hT, hB, hH, hW, hB9, hok, hTS, hLn, hLS, hCd, hCk, hCs⟩ := hC
  obtain ⟨ln, hln⟩ := hLn
  have h00 := hB9.1
  by_cases hag : (0 ≤ j ∧ j ≤ (jo : Int) - 1) ∧ 0 ≤ t ∧ t ≤ 359
  · obtain ⟨l1, r1, m1, nl1, na1, rd1, l2, r2, m2, nl2, na2, rd2, l3, r3, m3, nl3, na3, rd3, a1, a2, a3, s1, s2, s3, ⟨p1, p2, p3⟩, ⟨q1, q2, q3⟩, ⟨t1, t2, t3⟩, ⟨n1, n1'⟩, ⟨n2, n2'⟩, ⟨n3, n3'⟩, hbc, hbs⟩ := hCs
    rcases (show j = 0 ∨ j = 1 by omega) with rfl | rfl
    · obtain ⟨u1, u2, u3⟩ := kC_m (rdy := rd1) (nl := nl1) hB9 n1 n1'
      obtain ⟨y4, y5, y6⟩ := kC_s (sj := 0) (rdy := rd2) (nl := nl2) hB9 ⟨by decide, by omega⟩ n2 n2'
      refine ⟨(kC rd1 na1 nl1 (kN pa jo wa sr (-1))).1 + (kC rd2 na2 nl2 (kN pa jo wa sr 0)).1, (kC rd1 na1 nl1 (kN pa jo wa sr (-1))).2 + (kC rd2 na2 nl2 (kN pa jo wa sr 0)).2, bc - ((kC rd1 na1 nl1 (kN pa jo wa sr (-1))).1 + (kC rd2 na2 nl2 (kN pa jo wa sr 0)).1), bs - ((kC rd1 na1 nl1 (kN pa jo wa sr (-1))).2 + (kC rd2 na2 nl2 (kN pa jo wa sr 0)).2), by omega, by omega, xa_mono (c_xWorth0 k _ ld dg pa jo wa sr pu ri t h2 hag.2 l1 r1 m1 nl1 na1 rd1 hB9 hX hB a1 l2 r2 m2 nl2 na2 rd2 a2 s1 (by omega)) ?_⟩
      rintro r h' ⟨w1, ⟨x1, x2, x3, y1, y2, y3, v1, v2, v3, e1, e2, e3, g1, g2, g3⟩, w3, w4⟩
      have hn : h.2 ≤ h'.2 := by omega
      obtain ⟨-, -, -, b4, b5, b6, b7⟩ := a3.spl.lt
      exact ⟨w1, hC'.srch (fun i hi => w4 i ⟨by omega, p1.lo (Or.inl hi), p2.lo (Or.inl hi), p3.lo (Or.inl hi), by omega, q1.lo (Or.inl hi), q2.lo (Or.inl hi), q3.lo (Or.inl hi), by omega⟩) hn ⟨x1, x2, x3, (kNl rd1 nl1 (kN pa jo wa sr (-1))), (kNa rd1 na1 (kN pa jo wa sr (-1))), 1, y1, y2, y3, (kNl rd2 nl2 (kN pa jo wa sr 0)), (kNa rd2 na2 (kN pa jo wa sr 0)), 1, l3, r3, m3, nl3, na3, rd3, v1, v2, a3.fr (fun i hi => by have z := s2.out hi; have zz := s3.out hi; have z2 := own.lt a3 hi; exact w4 i ⟨z.1, z.2.1, z.2.2.1, z.2.2.2, zz.1, zz.2.1, zz.2.2.1, zz.2.2.2, z2⟩) hn, v3, s2.new (n := h.2) (by omega) b5 b6 b7 e1 e2 e3, s3.new (n := h.2) (by omega) b5 b6 b7 g1 g2 g3, ⟨p1.new e1 hkk, p2.new e2 hkk, p3.new e3 hkk⟩, ⟨q1.new g1 hkk, q2.new g2 hkk, q3.new g3 hkk⟩, ⟨t1, t2, t3⟩, u1, y4, ⟨n3, n3'⟩, by omega, by omega⟩, fun i hi hj => w4 i ⟨by omega, p1.lo (Or.inr ⟨hi, hj⟩), p2.lo (Or.inr ⟨hi, hj⟩), p3.lo (Or.inr ⟨hi, hj⟩), by omega, q1.lo (Or.inr ⟨hi, hj⟩), q2.lo (Or.inr ⟨hi, hj⟩), q3.lo (Or.inr ⟨hi, hj⟩), by omega⟩, hn⟩
    · obtain ⟨u1, u2, u3⟩ := kC_m (rdy := rd1) (nl := nl1) hB9 n1 n1'
      obtain ⟨y4, y5, y6⟩ := kC_s (sj := 1) (rdy := rd3) (nl := nl3) hB9 ⟨by decide, by omega⟩ n3 n3'
      refine ⟨(kC rd1 na1 nl1 (kN pa jo wa sr (-1))).1 + (kC rd3 na3 nl3 (kN pa jo wa sr 1)).1, (kC rd1 na1 nl1 (kN pa jo wa sr (-1))).2 + (kC rd3 na3 nl3 (kN pa jo wa sr 1)).2, bc - ((kC rd1 na1 nl1 (kN pa jo wa sr (-1))).1 + (kC rd3 na3 nl3 (kN pa jo wa sr 1)).1), bs - ((kC rd1 na1 nl1 (kN pa jo wa sr (-1))).2 + (kC rd3 na3 nl3 (kN pa jo wa sr 1)).2), by omega, by omega, xa_mono (c_xWorth1 k _ ld dg pa jo wa sr pu ri t h2 hag.2 l1 r1 m1 nl1 na1 rd1 hB9 hX hB a1 l3 r3 m3 nl3 na3 rd3 a3 s2 (by omega)) ?_⟩
      rintro r h' ⟨w1, ⟨x1, x2, x3, y1, y2, y3, v1, v2, v3, e1, e2, e3, g1, g2, g3⟩, w3, w4⟩
      have hn : h.2 ≤ h'.2 := by omega
      obtain ⟨-, -, -, b4, b5, b6, b7⟩ := a2.spl.lt
      exact ⟨w1, hC'.srch (fun i hi => w4 i ⟨by omega, p1.lo (Or.inl hi), p2.lo (Or.inl hi), p3.lo (Or.inl hi), by omega, t1.lo (Or.inl hi), t2.lo (Or.inl hi), t3.lo (Or.inl hi), by omega⟩) hn ⟨x1, x2, x3, (kNl rd1 nl1 (kN pa jo wa sr (-1))), (kNa rd1 na1 (kN pa jo wa sr (-1))), 1, l2, r2, m2, nl2, na2, rd2, y1, y2, y3, (kNl rd3 nl3 (kN pa jo wa sr 1)), (kNa rd3 na3 (kN pa jo wa sr 1)), 1, v1, a2.fr (fun i hi => by have z := s1.out hi; have zz := s3.symm.out hi; have z2 := own.lt a2 hi; exact w4 i ⟨z.1, z.2.1, z.2.2.1, z.2.2.2, zz.1, zz.2.1, zz.2.2.1, zz.2.2.2, z2⟩) hn, v2, s1.new (n := h.2) (by omega) b5 b6 b7 e1 e2 e3, v3, (s3.symm.new (n := h.2) (by omega) b5 b6 b7 g1 g2 g3).symm, ⟨p1.new e1 hkk, p2.new e2 hkk, p3.new e3 hkk⟩, ⟨q1, q2, q3⟩, ⟨t1.new g1 hkk, t2.new g2 hkk, t3.new g3 hkk⟩, u1, ⟨n2, n2'⟩, y4, by omega, by omega⟩, fun i hi hj => w4 i ⟨by omega, p1.lo (Or.inr ⟨hi, hj⟩), p2.lo (Or.inr ⟨hi, hj⟩), p3.lo (Or.inr ⟨hi, hj⟩), by omega, t1.lo (Or.inr ⟨hi, hj⟩), t2.lo (Or.inr ⟨hi, hj⟩), t3.lo (Or.inr ⟨hi, hj⟩), by omega⟩, hn⟩
  · refine ⟨0, 0, bc, bs, by omega, by omega, xa_mono (c_xWorthN k _ ld dg pa jo wa sr pu ri j t h2 h1 (by omega) hag hX hB) ?_⟩
    rintro r h' ⟨w1, w2⟩
    subst w2
    exact ⟨⟨_, w1, Or.inl ⟨hag, rfl⟩⟩, hC', fun _ _ _ => rfl, Nat.le_refl _⟩
