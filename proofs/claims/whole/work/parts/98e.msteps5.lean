/-! The model's calls, in its world: fault, lay -/
section MF
variable {F F' : Nat → Nat → Int} {s s' : Nat → Int} {h h1 : xa_H} {k : Nat} {n : Nat} {f ld dg : Nat → Int} {pa jo : Nat} {wa sr pu ri : Int} {mv le fi : Nat → Int} {pc kp : Nat} {mv1 le1 fi1 : Nat → Int} {pc1 : Nat} {mv2 le2 fi2 : Nat → Int} {pc2 : Nat}
theorem mFr_mR (ho : mOk F ld dg pa jo wa sr pu ri) (h : mFr F F') : mR F' ld dg pa jo wa := by
  obtain ⟨-, b2, b4, b3, b5, b6, -⟩ := h
  obtain ⟨o1, ⟨r1, r2, r3, r4, r5⟩, -⟩ := ho
  have h0 := o1.1
  exact ⟨b2.trans r1, b4.trans r2, fun i hi => (b3 i (by omega)).trans (r3 i hi), fun j hj => (b5 j (by omega)).trans (r4 j hj), fun j hj => (b6 j (by omega)).trans (r5 j hj)⟩
theorem mFr_ok (ho : mOk F ld dg pa jo wa sr pu ri) (hB : mBd F') (h : mFr F F') : mOk F' ld dg pa jo wa sr pu ri := by
  have hR := mFr_mR ho h
  obtain ⟨⟨f1, f9, f10, f11, f12, f14, f15, f16⟩, b2, b4, b3, b5, b6, b7, b8⟩ := h
  obtain ⟨o1, o2, o3, o4, o5, o6, o7⟩ := ho
  exact ⟨o1, hR, hB, b7.trans o4, b8.trans o5, by rw [f9]; exact o6, by rw [f10]; exact o7⟩
theorem xMW.draft {x : Int} (hM : xM h1 k F' (xa_upf s 15 x)) (ho : mOk F ld dg pa jo wa sr pu ri) (hl : mLi F s ld dg pa jo wa sr pu ri) (hf : mFre F ld dg pa jo wa sr) (hr : mRel F s n f pa mv le fi pc kp mv1 le1 fi1 pc1 mv2 le2 fi2 pc2) (hB : mBd F') (h : mFr F F') : xMW h1 k n f ld dg pa jo wa sr pu ri mv le fi pc kp mv1 le1 fi1 pc1 mv2 le2 fi2 pc2 := by
  have ho' := mFr_ok ho hB h
  have hR := mFr_mR ho h
  obtain ⟨⟨f1, f9, f10, f11, f12, f14, f15, f16⟩, -⟩ := h
  refine ⟨F', _, hM, ho', ?_, ?_, ?_⟩
  · unfold mLi at hl ⊢
    rw [mR_shapes ho.1 hR, ← mR_shapes ho.1 ho.2.1, f14]
    exact hl
  · unfold mFre
    rw [f16]
    exact hf
  · unfold mRel kAg at hr ⊢
    rw [f1, f9, f10, f11, f12]
    exact hr
end MF
theorem m_fault {G : xa_G} {h : xa_H} {k : Nat} {n : Nat} {f ld dg : Nat → Int} {pa jo : Nat} {wa sr pu ri : Int} {mv le fi : Nat → Int} {pc kp : Nat} {mv1 le1 fi1 : Nat → Int} {pc1 : Nat} {mv2 le2 fi2 : Nat → Int} {pc2 : Nat} (ld2 dg2 : Nat → Int) (hl2 : ∀ i, 0 ≤ ld2 i ∧ ld2 i ≤ 99) (hd2 : ∀ i, 0 ≤ dg2 i ∧ dg2 i ≤ 120) (hW : xMW h k n f ld dg pa jo wa sr pu ri mv le fi pc kp mv1 le1 fi1 pc1 mv2 le2 fi2 pc2) : xa_M G mX10_fault [xa_r k] h 0 0 (fun r h' => r = some (xa_i (rd_res (rd_go n f 120 0 (rd_b0 ld2 dg2)).1)) ∧ xMW h' k n f ld dg pa jo wa sr pu ri mv le fi pc kp mv1 le1 fi1 pc1 mv2 le2 fi2 pc2 ∧ h'.2 = h.2 ∧ ∀ i, (i < k ∨ k + 17 ≤ i) → h'.1 i = h.1 i) := by
  obtain ⟨F, s, hM, ho, hl, hf, hr⟩ := hW
  have hge := go_e (n := n) (fun i hi => hr.1.2.2.1 i (by have := hr.1.2.1; omega)) 120 0 (rd_b0 ld2 dg2)
  refine xa_mono (c_mFault k n F s ld2 dg2 hr.1.1 hr.1.2.1 hr.1.2.2.2 hl2 hd2 ho.2.2.1 hM) ?_
  rintro r h' ⟨⟨F', x, q1, q2, q3, q4⟩, q5, q6⟩
  exact ⟨by rw [hge]; exact q1, xMW.draft q4 ho hl hf hr q2 q3, q5, q6⟩
theorem m_lay {G : xa_G} {h : xa_H} {k : Nat} {n : Nat} {f ld dg : Nat → Int} {pa jo : Nat} {wa sr pu ri : Int} {mv le fi : Nat → Int} {pc kp : Nat} {mv1 le1 fi1 : Nat → Int} {pc1 : Nat} {mv2 le2 fi2 : Nat → Int} {pc2 : Nat} (ld2 dg2 : Nat → Int) (hl2 : ∀ i, 0 ≤ ld2 i ∧ ld2 i ≤ 99) (hd2 : ∀ i, 0 ≤ dg2 i ∧ dg2 i ≤ 120) {go : Option Nat} {ld3 dg3 : Nat → Int} {pa3 jo3 : Nat} {wa3 sr3 pu3 ri3 : Int} (hgo : rd_go n f 120 0 (rd_b0 ld2 dg2) = (go, ld3, dg3, pa3, jo3, wa3, sr3, pu3, ri3)) (hW : xMW h k n f ld dg pa jo wa sr pu ri mv le fi pc kp mv1 le1 fi1 pc1 mv2 le2 fi2 pc2) : xa_M G mX10_lay [xa_r k] h 0 0 (fun r h' => ((¬ (go = none ∧ 2 ≤ pa3 ∧ pa3 = jo3 + 1) ∧ r = some (xa_i (-2)) ∧ xMW h' k n f ld dg pa jo wa sr pu ri mv le fi pc kp mv1 le1 fi1 pc1 mv2 le2 fi2 pc2) ∨ ((go = none ∧ 2 ≤ pa3 ∧ pa3 = jo3 + 1) ∧ r = some (xa_i ((pa3 : Nat) : Int)) ∧ ∀ ld' dg' : Nat → Int, (∀ i, i < 3 * pa3 → ld' i = ld3 i) → (∀ j, j < jo3 → dg' j = dg3 j) → vB ld' dg' pa3 jo3 wa3 sr3 pu3 ri3 → xMW h' k n f ld' dg' pa3 jo3 wa3 sr3 pu3 ri3 mv (xa_fl le 4 0) fi 0 0 mv1 le1 fi1 pc1 mv2 le2 fi2 pc2)) ∧ h'.2 = h.2 ∧ ∀ i, (i < k ∨ k + 17 ≤ i) → h'.1 i = h.1 i) := by
  obtain ⟨F, s, hM, ho, hl, hf, hr⟩ := hW
  have hge := go_e (n := n) (fun i hi => hr.1.2.2.1 i (by have := hr.1.2.1; omega)) 120 0 (rd_b0 ld2 dg2)
  rw [hgo] at hge
  have CL := c_mLay (G := G) k n F s ld2 dg2 hr.1.1 hr.1.2.1 hr.1.2.2.2 hl2 hd2 ho.2.2.1 hM
  rw [← hge] at CL
  dsimp only at CL
  refine xa_mono CL ?_
  rintro r h' ⟨⟨⟨w1, w2⟩, F', s', w3, w4, w5⟩ | ⟨w1, w2, F', x, w3, w4, w5⟩, q5, q6⟩
  · refine ⟨Or.inr ⟨⟨w1, w2⟩, w3, fun ld' dg' e1 e2 hB => ?_⟩, q5, q6⟩
    obtain ⟨⟨r1, r2, r3, r4, r5⟩, b7, b8, hBd, f1, f10, f12, f9, f11, f16, t0, t13, t20⟩ := w4
    dsimp only at r1 r2 r3 r4 r5 b7 b8
    obtain ⟨R1, ⟨⟨g1, g2, g3, g4⟩, g5, g6⟩, ⟨k1, k2, k3, k4⟩, R4⟩ := hr
    obtain ⟨o1, o2, o3, o4, o5, o6, o7⟩ := ho
    refine ⟨F', s', w5, ⟨hB, ⟨r1, r2, fun i hi => (r3 i hi).trans (e1 i hi).symm, fun j hj => (r4 j hj).trans (e2 j hj).symm, r5⟩, hBd, b7, b8, fun i => ?_, by rw [f10]; exact o7⟩, ⟨by rw [t20]; decide, fun J hJ e => by omega⟩, fun J hJ => ?_, ⟨by rw [t0, f1]; exact R1, ⟨⟨by rw [f10]; exact g1, fun i hi => ?_, by rw [f12]; exact g3, by rw [f11]; rfl⟩, fl_b g5, fiOk_0 _ _⟩, ⟨t13, by decide, fun z => absurd z (by decide), fun z => absurd z (by decide)⟩, fun i => ?_⟩⟩
    · rw [f9]
      have := o6 i
      split <;> omega
    · rw [f16 J hJ]
      exact ⟨by decide, fun z => absurd z (by decide)⟩
    · rw [f9, if_pos (by omega)]
      exact if_pos hi
    · rw [f11]
      have := R4 i
      split <;> omega
  · exact ⟨Or.inl ⟨fun z => w1 ⟨z.1, z.2⟩, w2, xMW.draft w5 ho hl hf hr w3 w4⟩, q5, q6⟩
