/-! The class's calls, in its world: keep, back, fault, lay -/
theorem sp_cp_b {f g : Nat → Int} {a b : Int} (hf : ∀ i, a ≤ f i ∧ f i ≤ b) (hg : ∀ i, a ≤ g i ∧ g i ≤ b) (m : Nat) : ∀ i, a ≤ sp_cp f g m i ∧ sp_cp f g m i ≤ b := fun i => by
  unfold sp_cp
  split
  · exact hg i
  · exact hf i
theorem sp_cp_lt (f g : Nat → Int) {m i : Nat} (h : i < m) : sp_cp f g m i = g i := if_pos h
theorem fiOk_cp {pa pc : Nat} {fi fi1 : Nat → Int} (h : fiOk pa fi1 pc) : fiOk pa (sp_cp fi fi1 120) pc := by
  have hp := h.1
  refine ⟨hp, fun n hn => ?_⟩
  rw [sp_cp_lt _ _ (by omega), sp_cp_lt _ _ (by omega), sp_cp_lt _ _ (by omega), sp_cp_lt _ _ (by omega)]
  exact h.2 n hn
theorem fiOk_0 (pa : Nat) (fi : Nat → Int) : fiOk pa fi 0 := ⟨Nat.zero_le _, fun n hn => absurd hn (Nat.not_lt_zero _)⟩
theorem fl_b {le : Nat → Int} (h : ∀ i, 0 ≤ le i ∧ le i ≤ 60) : ∀ i, 0 ≤ xa_fl le 4 0 i ∧ xa_fl le 4 0 i ≤ 60 := fun i => by
  unfold xa_fl
  split
  · omega
  · exact h i
theorem vD_cp {ld dg ld3 dg3 : Nat → Int} {pa3 jo3 : Nat} {wa3 sr3 pu3 ri3 : Int} (h : vD (ld3, dg3, pa3, jo3, wa3, sr3, pu3, ri3)) (hl : ∀ i, 0 ≤ ld i ∧ ld i ≤ 99) (hd : ∀ i, 0 ≤ dg i ∧ dg i ≤ 120) (h2 : 2 ≤ pa3 ∧ pa3 = jo3 + 1) : vB (sp_cp ld ld3 9) (sp_cp dg dg3 2) pa3 jo3 wa3 sr3 pu3 ri3 := by
  obtain ⟨v1, v2, v3, v4, v5, v6, v7, v8⟩ := h
  dsimp only at v1 v2 v3 v4 v5 v6 v7 v8
  refine ⟨⟨h2.1, v1.1, h2.2⟩, sp_cp_b hl v2 9, fun i hi => ?_, sp_cp_b hd v4 2, fun j hj => ?_, ?_, v7, v8⟩
  · rw [sp_cp_lt _ _ (by omega)]
    exact v3 i hi
  · rw [sp_cp_lt _ _ (by omega)]
    exact v5 j hj
  · rcases v6 with v6 | ⟨w, w1, w2, w3, w4, w5⟩
    · exact Or.inl v6
    · refine Or.inr ⟨w, w1, w2, w3, w4, ?_⟩
      rw [sp_cp_lt _ _ (by omega)]
      exact w5
theorem sr_same {ld dg ld3 dg3 : Nat → Int} {pa jo pa3 : Nat} {wa sr pu ri sr3 pu3 ri3 : Int} (h : vD (ld3, dg3, pa3, jo, wa, sr3, pu3, ri3)) (hB : vB ld dg pa jo wa sr pu ri) (hd : ∀ j, j < jo → dg3 j = dg j) : sr3 = sr := by
  have h6 := h.2.2.2.2.2.1
  dsimp only at h6
  have hB6 := hB.2.2.2.2.2.1
  have hB5 := hB.2.2.2.2.1
  rcases h6 with ⟨a1, a2⟩ | ⟨w, a1, a2, a3, a4, a5⟩ <;> rcases hB6 with ⟨b1, b2⟩ | ⟨v, b1, b2, b3, b4, b5⟩
  · omega
  · omega
  · omega
  · have e : w = v := by omega
    subst e
    rw [hd w a2, ← b5] at a5
    exact Int.eq_of_mul_eq_mul_right (by have := hB5 w b2; omega) a5
section CW3
variable {h h1 : xa_H} {k : Nat} {n : Nat} {f ld dg : Nat → Int} {pa jo : Nat} {wa sr pu ri : Int} {mv le fi : Nat → Int} {pc kp : Nat} {mv1 le1 fi1 : Nat → Int} {pc1 : Nat} {mv2 le2 fi2 : Nat → Int} {pc2 : Nat} {bc bs : Nat} {mv' le' fi' : Nat → Int} {pc' kp' : Nat} {mv1' le1' fi1' : Nat → Int} {pc1' : Nat} {mv2' le2' fi2' : Nat → Int} {pc2' : Nat}
theorem xCW.kept (h0 : xCW h k n f ld dg pa jo wa sr pu ri mv le fi pc kp mv1 le1 fi1 pc1 mv2 le2 fi2 pc2 bc bs) (hf : ∀ i, i ≠ k → (i < k + 11 ∨ k + 24 ≤ i) → h1.1 i = h.1 i) (hn : h1.2 = h.2) (hX1 : xX0 h1 k ((kp' : Nat) : Int)) (hH1 : xH h1 (k + 11) mv' le' fi' pc') (hok1 : shOk pa mv' le' fi' pc') (hCk1 : xCk h1 k kp' pa mv1' le1' fi1' pc1' mv2' le2' fi2' pc2') : xCW h1 k n f ld dg pa jo wa sr pu ri mv' le' fi' pc' kp' mv1' le1' fi1' pc1' mv2' le2' fi2' pc2' bc bs := by
  obtain ⟨hX, hT, hB, hH, hW, hB9, hok, hTS, hLn, hLS, hCd, hCk, hCs⟩ := h0
  obtain ⟨ln, hln⟩ := hLn
  have hk := hX.2.1
  have hn := Nat.le_of_eq hn.symm
  exact ⟨hX1, hT.fr (fun i _ _ => hf i (by omega) (by omega)) hn, hB.fr (fun i _ _ => hf i (by omega) (by omega)) hn, hH1, (hf _ (by omega) (by omega)).trans hW, hB9, hok1, hTS.fr (fun i _ _ => hf i (by omega) (by omega)) hn, ⟨ln, (hf _ (by omega) (by omega)).trans hln⟩, hLS.fr (fun i _ _ => hf i (by omega) (by omega)) hn, hCd.fr (fun i _ _ => hf i (by omega) (by omega)) hn, hCk1, hCs.fr (fun i _ z => hf i (by omega) (by omega)) hn⟩
end CW3
theorem s_keep {G : xa_G} {h : xa_H} {k : Nat} {n : Nat} {f ld dg : Nat → Int} {pa jo : Nat} {wa sr pu ri : Int} {mv le fi : Nat → Int} {pc kp : Nat} {mv1 le1 fi1 : Nat → Int} {pc1 : Nat} {mv2 le2 fi2 : Nat → Int} {pc2 : Nat} {bc bs : Nat}  (hC : xCW h k n f ld dg pa jo wa sr pu ri mv le fi pc kp mv1 le1 fi1 pc1 mv2 le2 fi2 pc2 bc bs) : xa_M G mX9_keep [xa_r k] h 0 0 (fun r h' => ((kp = 0 ∧ r = some (xa_i 1) ∧ xCW h' k n f ld dg pa jo wa sr pu ri mv le fi pc 1 (sp_cp mv1 mv 240) (sp_cp le1 le 4) (sp_cp fi1 fi 120) pc mv2 le2 fi2 pc2 bc bs) ∨ (kp = 1 ∧ r = some (xa_i 2) ∧ xCW h' k n f ld dg pa jo wa sr pu ri mv le fi pc 2 mv1 le1 fi1 pc1 (sp_cp mv2 mv 240) (sp_cp le2 le 4) (sp_cp fi2 fi 120) pc bc bs) ∨ (kp = 2 ∧ r = some (xa_i (-3)) ∧ xCW h' k n f ld dg pa jo wa sr pu ri mv le fi pc kp mv1 le1 fi1 pc1 mv2 le2 fi2 pc2 bc bs)) ∧ (∀ i, k + 72 ≤ i → i < k + 89 → h'.1 i = h.1 i) ∧ h.2 ≤ h'.2) := by
  have hC' := hC
  obtain ⟨hX, hT, hB, hH, hW, hB9, hok, hTS, hLn, hLS, hCd, hCk, hCs⟩ := hC
  obtain ⟨ln, hln⟩ := hLn
  obtain ⟨kf, k0, k1, kr, kp9, kA, kB, ⟨bA1, bA2⟩, ⟨bB1, bB2⟩, fA, fB⟩ := hCk
  have hk := hX.2.1
  rcases (show kp = 0 ∨ kp = 1 ∨ kp = 2 by omega) with rfl | rfl | rfl
  · refine xa_mono (c_xKeep0 k mv le fi pc kf k0 k1 kr mv1 le1 fi1 pc1 kA hX hH) ?_
    rintro r h' ⟨q1, q2, q3, q4, q5⟩
    have hn : h.2 ≤ h'.2 := by omega
    exact ⟨Or.inl ⟨rfl, q1, hC'.kept (fun i hi hj => q5 i (by omega)) q4 q2 (hH.fr (fun i _ _ => q5 i (by omega)) hn) hok ⟨kf, k0, k1, (q5 _ (by omega)).trans kr, by decide, q3, kB.fr (fun i _ _ => q5 i (by omega)) hn, ⟨sp_cp_b bA1 hok.1 _, sp_cp_b bA2 hok.2.1 _⟩, ⟨bB1, bB2⟩, fun _ => fiOk_cp hok.2.2, fun z => absurd z (by decide)⟩⟩, fun i hi hj => q5 i (by omega), by omega⟩
  · refine xa_mono (c_xKeep1 k mv le fi pc kf k0 k1 kr mv2 le2 fi2 pc2 kB hX hH) ?_
    rintro r h' ⟨q1, q2, q3, q4, q5⟩
    have hn : h.2 ≤ h'.2 := by omega
    exact ⟨Or.inr (Or.inl ⟨rfl, q1, hC'.kept (fun i hi hj => q5 i (by omega)) q4 q2 (hH.fr (fun i _ _ => q5 i (by omega)) hn) hok ⟨kf, k0, k1, (q5 _ (by omega)).trans kr, by decide, kA.fr (fun i _ _ => q5 i (by omega)) hn, q3, ⟨bA1, bA2⟩, ⟨sp_cp_b bB1 hok.1 _, sp_cp_b bB2 hok.2.1 _⟩, fun _ => fA (by decide), fun _ => fiOk_cp hok.2.2⟩⟩), fun i hi hj => q5 i (by omega), by omega⟩
  · refine xa_mono (c_xKeep2 k mv le fi pc kf k0 k1 kr mv1 le1 fi1 pc1 kA hX hH) ?_
    rintro r h' ⟨q1, q2⟩
    subst q2
    exact ⟨Or.inr (Or.inr ⟨rfl, q1, hC'⟩), fun _ _ _ => rfl, Nat.le_refl _⟩
theorem s_back {G : xa_G} {h : xa_H} {k : Nat} {n : Nat} {f ld dg : Nat → Int} {pa jo : Nat} {wa sr pu ri : Int} {mv le fi : Nat → Int} {pc kp : Nat} {mv1 le1 fi1 : Nat → Int} {pc1 : Nat} {mv2 le2 fi2 : Nat → Int} {pc2 : Nat} {bc bs : Nat}  (hC : xCW h k n f ld dg pa jo wa sr pu ri mv le fi pc kp mv1 le1 fi1 pc1 mv2 le2 fi2 pc2 bc bs) : xa_M G mX9_back [xa_r k] h 0 0 (fun r h' => ((kp = 0 ∧ r = some (xa_i (-2)) ∧ xCW h' k n f ld dg pa jo wa sr pu ri mv le fi pc kp mv1 le1 fi1 pc1 mv2 le2 fi2 pc2 bc bs) ∨ (kp = 1 ∧ r = some (xa_i 0) ∧ xCW h' k n f ld dg pa jo wa sr pu ri (sp_cp mv mv1 240) (sp_cp le le1 4) (sp_cp fi fi1 120) pc1 0 mv1 le1 fi1 pc1 mv2 le2 fi2 pc2 bc bs) ∨ (kp = 2 ∧ r = some (xa_i 1) ∧ xCW h' k n f ld dg pa jo wa sr pu ri (sp_cp mv mv2 240) (sp_cp le le2 4) (sp_cp fi fi2 120) pc2 1 mv1 le1 fi1 pc1 mv2 le2 fi2 pc2 bc bs)) ∧ (∀ i, k + 72 ≤ i → i < k + 89 → h'.1 i = h.1 i) ∧ h.2 ≤ h'.2) := by
  have hC' := hC
  obtain ⟨hX, hT, hB, hH, hW, hB9, hok, hTS, hLn, hLS, hCd, hCk, hCs⟩ := hC
  obtain ⟨ln, hln⟩ := hLn
  obtain ⟨kf, k0, k1, kr, kp9, kA, kB, ⟨bA1, bA2⟩, ⟨bB1, bB2⟩, fA, fB⟩ := hCk
  have hk := hX.2.1
  rcases (show kp = 0 ∨ kp = 1 ∨ kp = 2 by omega) with rfl | rfl | rfl
  · refine xa_mono (c_xBack0 k mv le fi pc kf k0 k1 kr mv1 le1 fi1 pc1 kA hX hH) ?_
    rintro r h' ⟨q1, q2⟩
    subst q2
    exact ⟨Or.inl ⟨rfl, q1, hC'⟩, fun _ _ _ => rfl, Nat.le_refl _⟩
  · refine xa_mono (c_xBack1 k mv le fi pc kf k0 k1 kr mv1 le1 fi1 pc1 kA hX hH) ?_
    rintro r h' ⟨q1, q2, q3, q4, q5⟩
    have hn : h.2 ≤ h'.2 := by omega
    exact ⟨Or.inr (Or.inl ⟨rfl, q1, hC'.kept (fun i hi hj => q5 i (by omega)) q4 q2 q3 ⟨sp_cp_b hok.1 bA1 _, sp_cp_b hok.2.1 bA2 _, fiOk_cp (fA (by decide))⟩ ⟨kf, k0, k1, (q5 _ (by omega)).trans kr, by decide, kA.fr (fun i _ _ => q5 i (by omega)) hn, kB.fr (fun i _ _ => q5 i (by omega)) hn, ⟨bA1, bA2⟩, ⟨bB1, bB2⟩, fun z => absurd z (by decide), fun z => absurd z (by decide)⟩⟩), fun i hi hj => q5 i (by omega), by omega⟩
  · refine xa_mono (c_xBack2 k mv le fi pc kf k0 k1 kr mv2 le2 fi2 pc2 kB hX hH) ?_
    rintro r h' ⟨q1, q2, q3, q4, q5⟩
    have hn : h.2 ≤ h'.2 := by omega
    exact ⟨Or.inr (Or.inr ⟨rfl, q1, hC'.kept (fun i hi hj => q5 i (by omega)) q4 q2 q3 ⟨sp_cp_b hok.1 bB1 _, sp_cp_b hok.2.1 bB2 _, fiOk_cp (fB (by decide))⟩ ⟨kf, k0, k1, (q5 _ (by omega)).trans kr, by decide, kA.fr (fun i _ _ => q5 i (by omega)) hn, kB.fr (fun i _ _ => q5 i (by omega)) hn, ⟨bA1, bA2⟩, ⟨bB1, bB2⟩, fun _ => fA (by decide), fun z => absurd z (by decide)⟩⟩), fun i hi hj => q5 i (by omega), by omega⟩
theorem s_fault {G : xa_G} {h : xa_H} {k : Nat} {n : Nat} {f ld dg : Nat → Int} {pa jo : Nat} {wa sr pu ri : Int} {mv le fi : Nat → Int} {pc kp : Nat} {mv1 le1 fi1 : Nat → Int} {pc1 : Nat} {mv2 le2 fi2 : Nat → Int} {pc2 : Nat} {bc bs : Nat}  (hC : xCW h k n f ld dg pa jo wa sr pu ri mv le fi pc kp mv1 le1 fi1 pc1 mv2 le2 fi2 pc2 bc bs) : xa_M G mX9_fault [xa_r k] h 0 0 (fun r h' => (∃ ld2 dg2 : Nat → Int, ((∀ i, 0 ≤ ld2 i ∧ ld2 i ≤ 99) ∧ (∀ i, 0 ≤ dg2 i ∧ dg2 i ≤ 120)) ∧ r = some (xa_i (rd_res (rd_go n f 120 0 (rd_b0 ld2 dg2)).1))) ∧ xCW h' k n f ld dg pa jo wa sr pu ri mv le fi pc kp mv1 le1 fi1 pc1 mv2 le2 fi2 pc2 bc bs ∧ (∀ i, k + 72 ≤ i → i < k + 89 → h'.1 i = h.1 i) ∧ h.2 ≤ h'.2) := by
  have hC' := hC
  obtain ⟨hX, hT, hB, hH, hW, hB9, hok, hTS, hLn, hLS, hCd, hCk, hCs⟩ := hC
  obtain ⟨ln, hln⟩ := hLn
  obtain ⟨ld2, dg2, pa2, jo2, wa2, sr2, pu2, ri2, nu, p, d1, d2, d3, d4, d5⟩ := hCd
  rcases hgo : rd_go n f 120 0 (rd_b0 ld2 dg2) with ⟨go, ld3, dg3, pa3, jo3, wa3, sr3, pu3, ri3⟩
  refine xa_mono (c_xFault k _ n p f nu ld2 dg2 pa2 jo2 wa2 sr2 pu2 ri2 go ld3 dg3 pa3 jo3 wa3 sr3 pu3 ri3 hgo d2 d3 d5 hW hT d1 d4 hX) ?_
  rintro r h' ⟨q1, ⟨e1, e2, p', nu', e3, e4⟩, q2, q3⟩
  exact ⟨⟨ld2, dg2, ⟨d2, d3⟩, by rw [hgo]; exact q1⟩, hC'.draft (fun i hi => q3 i hi) q2 ⟨ld3, dg3, pa3, jo3, wa3, sr3, pu3, ri3, nu', p', e1, e2.2.1, e2.2.2.2.1, e3, e4⟩, fun i _ _ => q3 i (by omega), by omega⟩
set_option maxHeartbeats 4000000 in
theorem s_lay {G : xa_G} {h : xa_H} {k : Nat} {n : Nat} {f ld dg : Nat → Int} {pa jo : Nat} {wa sr pu ri : Int} {mv le fi : Nat → Int} {pc kp : Nat} {mv1 le1 fi1 : Nat → Int} {pc1 : Nat} {mv2 le2 fi2 : Nat → Int} {pc2 : Nat} {bc bs : Nat}  (hC : xCW h k n f ld dg pa jo wa sr pu ri mv le fi pc kp mv1 le1 fi1 pc1 mv2 le2 fi2 pc2 bc bs) : xa_M G mX9_lay [xa_r k] h 0 0 (fun r h' => (∃ ld2 dg2 : Nat → Int, ((∀ i, 0 ≤ ld2 i ∧ ld2 i ≤ 99) ∧ (∀ i, 0 ≤ dg2 i ∧ dg2 i ≤ 120)) ∧ ∃ (go : Option Nat) (ld3 dg3 : Nat → Int) (pa3 jo3 : Nat) (wa3 sr3 pu3 ri3 : Int), rd_go n f 120 0 (rd_b0 ld2 dg2) = (go, ld3, dg3, pa3, jo3, wa3, sr3, pu3, ri3) ∧ ((¬ (go = none ∧ 2 ≤ pa3 ∧ pa3 = jo3 + 1) ∧ r = some (xa_i (-2)) ∧ xCW h' k n f ld dg pa jo wa sr pu ri mv le fi pc kp mv1 le1 fi1 pc1 mv2 le2 fi2 pc2 bc bs) ∨ ((go = none ∧ 2 ≤ pa3 ∧ pa3 = jo3 + 1) ∧ r = some (xa_i ((pa3 : Nat) : Int)) ∧ ∃ ld' dg' : Nat → Int, (∀ i, i < 3 * pa3 → ld' i = ld3 i) ∧ (∀ j, j < jo3 → dg' j = dg3 j) ∧ xCW h' k n f ld' dg' pa3 jo3 wa3 sr3 pu3 ri3 mv (xa_fl le 4 0) fi 0 0 mv1 le1 fi1 pc1 mv2 le2 fi2 pc2 bc bs))) ∧ (∀ i, k + 72 ≤ i → i < k + 89 → h'.1 i = h.1 i) ∧ h.2 ≤ h'.2) := by
  have hC' := hC
  obtain ⟨hX, hT, hB, hH, hW, hB9, hok, hTS, hLn, hLS, hCd, hCk, hCs⟩ := hC
  obtain ⟨ln, hln⟩ := hLn
  obtain ⟨ld2, dg2, pa2, jo2, wa2, sr2, pu2, ri2, nu, p, d1, d2, d3, d4, d5⟩ := hCd
  rcases hgo : rd_go n f 120 0 (rd_b0 ld2 dg2) with ⟨go, ld3, dg3, pa3, jo3, wa3, sr3, pu3, ri3⟩
  have hCs0 := hCs
  obtain ⟨l1, r1, m1, nl1, na1, rd1, l2, r2, m2, nl2, na2, rd2, l3, r3, m3, nl3, na3, rd3, a1, a2, a3, s1, s2, s3, ⟨pp1, pp2, pp3⟩, ⟨qq1, qq2, qq3⟩, ⟨tt1, tt2, tt3⟩, hrest⟩ := hCs
  obtain ⟨o1, f1, u1, b1, t1, mm1, e1, g1⟩ := a1.forgot
  have fl1 : FL (k + 36) l1 h.2 := by
    obtain ⟨-, -, -, -, z5, -, -⟩ := a1.spl.lt
    exact ⟨a1.spl.1.2.1, z5⟩
  obtain ⟨o2, f2, u2, b2, t2, mm2, e2, g2⟩ := a2.forgot
  have fl2 : FL (k + 48) l2 h.2 := by
    obtain ⟨-, -, -, -, z5, -, -⟩ := a2.spl.lt
    exact ⟨a2.spl.1.2.1, z5⟩
  obtain ⟨o3, f3, u3, b3, t3, mm3, e3, g3⟩ := a3.forgot
  have fl3 : FL (k + 60) l3 h.2 := by
    obtain ⟨-, -, -, -, z5, -, -⟩ := a3.spl.lt
    exact ⟨a3.spl.1.2.1, z5⟩
  have hk := hX.2.1
  refine xa_mono (c_xLay k _ ld dg pa jo wa sr pu ri mv le fi pc n p f nu ld2 dg2 pa2 jo2 wa2 sr2 pu2 ri2 go ld3 dg3 pa3 jo3 wa3 sr3 pu3 ri3 hgo d2 d3 d5 hW hT d1 d4 l1 l2 l3 rd1 o1 f1 u1 b1 t1 mm1 rd2 o2 f2 u2 b2 t2 mm2 rd3 o3 f3 u3 b3 t3 mm3 fl1 fl2 fl3 e1 e2 e3 hB9 hX hB hH) ?_
  rintro r h' ⟨q, hn0, q4⟩
  have hn : h.2 ≤ h'.2 := by omega
  rcases q with ⟨w1, w2, ⟨x1, x2, p', nu', x3, x4⟩, w4, w5, w6, v1, v2, v3⟩ | ⟨w1, w2, ⟨x1, x2, p', nu', x3, x4⟩, w4, w6, ⟨⟨⟨z1, z2, z3, z4, z5⟩, z6, z7⟩, w5, v1, v2, v3⟩ | ⟨w5, v1, v2, v3⟩⟩
  · have hf : ∀ i, k + 15 ≤ i → h'.1 i = h.1 i := fun i hi => by
      by_cases c1 : i = k + 36
      · rw [c1]; exact v1.trans e1.symm
      · by_cases c2 : i = k + 48
        · rw [c2]; exact v2.trans e2.symm
        · by_cases c3 : i = k + 60
          · rw [c3]; exact v3.trans e3.symm
          · exact q4 i (by omega)
    exact ⟨⟨ld2, dg2, ⟨d2, d3⟩, go, ld3, dg3, pa3, jo3, wa3, sr3, pu3, ri3, hgo, Or.inl ⟨w1, w2, w4, hT.fr (fun i _ _ => q4 i (by omega)) hn, w5, w6, (q4 _ (by omega)).trans hW, hB9, hok, hTS.fr (fun i _ _ => hf i (by omega)) hn, ⟨ln, (hf _ (by omega)).trans hln⟩, hLS.fr (fun i _ _ => hf i (by omega)) hn, ⟨ld3, dg3, pa3, jo3, wa3, sr3, pu3, ri3, nu', p', x1, x2.2.1, x2.2.2.2.1, x3, x4⟩, hCk.fr (fun i _ _ => hf i (by omega)) hn, hCs0.fr (fun i _ _ => hf i (by omega)) hn⟩⟩, fun i hi hj => q4 i (by omega), by omega⟩
  · have hf : ∀ i, k + 15 ≤ i → h'.1 i = h.1 i := fun i hi => by
      by_cases c1 : i = k + 36
      · rw [c1]; exact v1.trans e1.symm
      · by_cases c2 : i = k + 48
        · rw [c2]; exact v2.trans e2.symm
        · by_cases c3 : i = k + 60
          · rw [c3]; exact v3.trans e3.symm
          · exact q4 i (by omega)
    subst z1
    subst z2
    subst z3
    subst z4
    subst z5
    have hsr := sr_same x2 hB9 z7
    subst hsr
    obtain ⟨kf, k0, k1, kr, kp9, kA, kB, kC1, kC2, -, -⟩ := hCk
    exact ⟨⟨ld2, dg2, ⟨d2, d3⟩, go, ld3, dg3, _, _, _, _, _, _, hgo, Or.inr ⟨w1, w2, ld, dg, fun i hi => (z6 i hi).symm, fun j hj => (z7 j hj).symm, w4, hT.fr (fun i _ _ => q4 i (by omega)) hn, w5, w6, (q4 _ (by omega)).trans hW, hB9, ⟨hok.1, fl_b hok.2.1, fiOk_0 _ _⟩, hTS.fr (fun i _ _ => hf i (by omega)) hn, ⟨ln, (hf _ (by omega)).trans hln⟩, hLS.fr (fun i _ _ => hf i (by omega)) hn, ⟨ld3, dg3, _, _, _, _, _, _, nu', p', x1, x2.2.1, x2.2.2.2.1, x3, x4⟩, ⟨kf, k0, k1, (hf _ (by omega)).trans kr, by decide, kA.fr (fun i _ _ => hf i (by omega)) hn, kB.fr (fun i _ _ => hf i (by omega)) hn, kC1, kC2, fun z => absurd z (by decide), fun z => absurd z (by decide)⟩, hCs0.fr (fun i _ _ => hf i (by omega)) hn⟩⟩, fun i hi hj => q4 i (by omega), by omega⟩
  · have c1 := g1 h' (fun i hi ho => by have y1 := ho.at (k := k) (by omega) pp1 pp2 pp3; have y2 := s1.symm.out ho; have y3 := s2.symm.out ho; exact q4 i ⟨by omega, by omega, hi, by omega, by omega⟩) hn v1
    have c2 := g2 h' (fun i hi ho => by have y1 := ho.at (k := k) (by omega) qq1 qq2 qq3; have y2 := s1.out ho; have y3 := s3.symm.out ho; exact q4 i ⟨by omega, by omega, by omega, hi, by omega⟩) hn v2
    have c3 := g3 h' (fun i hi ho => by have y1 := ho.at (k := k) (by omega) tt1 tt2 tt3; have y2 := s2.out ho; have y3 := s3.out ho; exact q4 i ⟨by omega, by omega, by omega, by omega, hi⟩) hn v3
    obtain ⟨kf, k0, k1, kr, kp9, kA, kB, kC1, kC2, -, -⟩ := hCk
    have hv1 : pa3 ≤ 3 ∧ jo3 ≤ 2 := x2.1
    exact ⟨⟨ld2, dg2, ⟨d2, d3⟩, go, ld3, dg3, pa3, jo3, wa3, sr3, pu3, ri3, hgo, Or.inr ⟨w1, w2, sp_cp ld ld3 9, sp_cp dg dg3 2, fun i hi => sp_cp_lt _ _ (by omega), fun j hj => sp_cp_lt _ _ (by omega), w4, hT.fr (fun i _ _ => q4 i (by omega)) hn, w5, w6, (q4 _ (by omega)).trans hW, vD_cp x2 hB9.2.1 hB9.2.2.2.1 w1.2, ⟨hok.1, fl_b hok.2.1, fiOk_0 _ _⟩, hTS.fr (fun i _ _ => q4 i (by omega)) hn, ⟨ln, (q4 _ (by omega)).trans hln⟩, hLS.fr (fun i _ _ => q4 i (by omega)) hn, ⟨ld3, dg3, pa3, jo3, wa3, sr3, pu3, ri3, nu', p', x1, x2.2.1, x2.2.2.2.1, x3, x4⟩, ⟨kf, k0, k1, (q4 _ (by omega)).trans kr, by decide, kA.fr (fun i _ _ => q4 i (by omega)) hn, kB.fr (fun i _ _ => q4 i (by omega)) hn, kC1, kC2, fun z => absurd z (by decide), fun z => absurd z (by decide)⟩, ⟨l1, r1, m1, nl1, na1, 0, l2, r2, m2, nl2, na2, 0, l3, r3, m3, nl3, na3, 0, Or.inr ⟨rfl, c1⟩, Or.inr ⟨rfl, c2⟩, Or.inr ⟨rfl, c3⟩, s1, s2, s3, ⟨pp1, pp2, pp3⟩, ⟨qq1, qq2, qq3⟩, ⟨tt1, tt2, tt3⟩, hrest⟩⟩⟩, fun i hi hj => q4 i (by omega), by omega⟩
