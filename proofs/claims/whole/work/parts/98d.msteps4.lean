/-! The model's calls, in its world: keep, back, fault, lay -/
theorem m_keep {G : xa_G} {h : xa_H} {k : Nat} {n : Nat} {f ld dg : Nat → Int} {pa jo : Nat} {wa sr pu ri : Int} {mv le fi : Nat → Int} {pc kp : Nat} {mv1 le1 fi1 : Nat → Int} {pc1 : Nat} {mv2 le2 fi2 : Nat → Int} {pc2 : Nat}  (hW : xMW h k n f ld dg pa jo wa sr pu ri mv le fi pc kp mv1 le1 fi1 pc1 mv2 le2 fi2 pc2) : xa_M G mX10_keep [xa_r k] h 0 0 (fun r h' => ((kp = 0 ∧ r = some (xa_i 1) ∧ xMW h' k n f ld dg pa jo wa sr pu ri mv le fi pc 1 (sp_cp mv1 mv 240) (sp_cp le1 le 4) (sp_cp fi1 fi 120) pc mv2 le2 fi2 pc2) ∨ (kp = 1 ∧ r = some (xa_i 2) ∧ xMW h' k n f ld dg pa jo wa sr pu ri mv le fi pc 2 mv1 le1 fi1 pc1 (sp_cp mv2 mv 240) (sp_cp le2 le 4) (sp_cp fi2 fi 120) pc) ∨ (kp = 2 ∧ r = some (xa_i (-3)) ∧ xMW h' k n f ld dg pa jo wa sr pu ri mv le fi pc kp mv1 le1 fi1 pc1 mv2 le2 fi2 pc2)) ∧ h'.2 = h.2 ∧ ∀ i, (i < k ∨ k + 17 ≤ i) → h'.1 i = h.1 i) := by
  have hW' := hW
  obtain ⟨F, s, hM, ho, hl, hf, hr⟩ := hW
  obtain ⟨R1, ⟨⟨g1, g2, g3, g4⟩, g5, g6⟩, ⟨k1, k2, k3, k4⟩, R4⟩ := hr
  obtain ⟨o1, o2, o3, o4, o5, o6, o7⟩ := ho
  rcases (show kp = 0 ∨ kp = 1 ∨ kp = 2 by omega) with rfl | rfl | rfl
  · refine xa_mono (c_mKeep k 0 F s k1 (by decide) hM) ?_
    rintro r h' (⟨q1, q2, q3⟩ | ⟨q1, q2, q3, q4, q5⟩)
    · exact absurd q1 (by decide)
    · exact ⟨Or.inl ⟨rfl, q2, ⟨_, _, q3, ⟨o1, o2, o3, o4, o5, fcp_b o6 _ _ _, fcp_b o7 _ _ _⟩, hl, hf, R1, ⟨⟨fun i hi => by
        show _ = fcp (F 10) (240 * (0)) (240 * (1 + 0)) 240 (240 * 0 + i)
        rw [fcp_out _ (by omega)]
        exact g1 i hi, fun i hi => by
        show _ = fcp (F 9) (4 * (0)) (4 * (1 + 0)) 4 (4 * 0 + i)
        rw [fcp_out _ (by omega)]
        exact g2 i hi, fun i hi => by
        show _ = fcp (F 12) (120 * (0)) (120 * (1 + 0)) 120 (120 * 0 + i)
        rw [fcp_out _ (by omega)]
        exact g3 i hi, by
        show xa_upf (F 11) (1 + 0) (F 11 (0)) 0 = _
        exact (xa_upf_ne _ _ (by decide)).trans g4⟩, g5, g6⟩, ⟨rfl, by decide, fun _ => ⟨⟨fun i hi => by
        show _ = fcp (F 10) (240 * (0)) (240 * (1 + 0)) 240 (240 * 1 + i)
        rw [sp_cp_lt _ _ hi, fcp_in _ (i := i) (by omega) hi]
        exact g1 i hi, fun i hi => by
        show _ = fcp (F 9) (4 * (0)) (4 * (1 + 0)) 4 (4 * 1 + i)
        rw [sp_cp_lt _ _ hi, fcp_in _ (i := i) (by omega) hi]
        exact g2 i hi, fun i hi => by
        show _ = fcp (F 12) (120 * (0)) (120 * (1 + 0)) 120 (120 * 1 + i)
        rw [sp_cp_lt _ _ hi, fcp_in _ (i := i) (by omega) hi]
        exact g3 i hi, by
        show xa_upf (F 11) 1 (F 11 (0)) 1 = _
        exact (xa_upf_at _ _ _).trans g4⟩, fiOk_cp g6⟩, fun z => absurd z (by decide)⟩, xa_upf_b R4 (R4 0)⟩⟩, q4, q5⟩
  · obtain ⟨⟨z1, z2, z3, z4⟩, z5⟩ := k3 (by decide)
    refine xa_mono (c_mKeep k 1 F s k1 (by decide) hM) ?_
    rintro r h' (⟨q1, q2, q3⟩ | ⟨q1, q2, q3, q4, q5⟩)
    · exact absurd q1 (by decide)
    · exact ⟨Or.inr (Or.inl ⟨rfl, q2, ⟨_, _, q3, ⟨o1, o2, o3, o4, o5, fcp_b o6 _ _ _, fcp_b o7 _ _ _⟩, hl, hf, R1, ⟨⟨fun i hi => by
        show _ = fcp (F 10) (240 * (0)) (240 * (1 + 1)) 240 (240 * 0 + i)
        rw [fcp_out _ (by omega)]
        exact g1 i hi, fun i hi => by
        show _ = fcp (F 9) (4 * (0)) (4 * (1 + 1)) 4 (4 * 0 + i)
        rw [fcp_out _ (by omega)]
        exact g2 i hi, fun i hi => by
        show _ = fcp (F 12) (120 * (0)) (120 * (1 + 1)) 120 (120 * 0 + i)
        rw [fcp_out _ (by omega)]
        exact g3 i hi, by
        show xa_upf (F 11) (1 + 1) (F 11 (0)) 0 = _
        exact (xa_upf_ne _ _ (by decide)).trans g4⟩, g5, g6⟩, ⟨rfl, by decide, fun _ => ⟨⟨fun i hi => by
        show _ = fcp (F 10) (240 * (0)) (240 * (1 + 1)) 240 (240 * 1 + i)
        rw [fcp_out _ (by omega)]
        exact z1 i hi, fun i hi => by
        show _ = fcp (F 9) (4 * (0)) (4 * (1 + 1)) 4 (4 * 1 + i)
        rw [fcp_out _ (by omega)]
        exact z2 i hi, fun i hi => by
        show _ = fcp (F 12) (120 * (0)) (120 * (1 + 1)) 120 (120 * 1 + i)
        rw [fcp_out _ (by omega)]
        exact z3 i hi, by
        show xa_upf (F 11) (1 + 1) (F 11 (0)) 1 = _
        exact (xa_upf_ne _ _ (by decide)).trans z4⟩, z5⟩, fun _ => ⟨⟨fun i hi => by
        show _ = fcp (F 10) (240 * (0)) (240 * (1 + 1)) 240 (240 * 2 + i)
        rw [sp_cp_lt _ _ hi, fcp_in _ (i := i) (by omega) hi]
        exact g1 i hi, fun i hi => by
        show _ = fcp (F 9) (4 * (0)) (4 * (1 + 1)) 4 (4 * 2 + i)
        rw [sp_cp_lt _ _ hi, fcp_in _ (i := i) (by omega) hi]
        exact g2 i hi, fun i hi => by
        show _ = fcp (F 12) (120 * (0)) (120 * (1 + 1)) 120 (120 * 2 + i)
        rw [sp_cp_lt _ _ hi, fcp_in _ (i := i) (by omega) hi]
        exact g3 i hi, by
        show xa_upf (F 11) 2 (F 11 (0)) 2 = _
        exact (xa_upf_at _ _ _).trans g4⟩, fiOk_cp g6⟩⟩, xa_upf_b R4 (R4 0)⟩⟩), q4, q5⟩
  · refine xa_mono (c_mKeep k 2 F s k1 (by decide) hM) ?_
    rintro r h' (⟨q1, q2, q3⟩ | ⟨q1, q2, q3, q4, q5⟩)
    · subst q3
      exact ⟨Or.inr (Or.inr ⟨rfl, q2, hW'⟩), rfl, fun _ _ => rfl⟩
    · exact absurd q1 (by decide)
theorem m_back {G : xa_G} {h : xa_H} {k : Nat} {n : Nat} {f ld dg : Nat → Int} {pa jo : Nat} {wa sr pu ri : Int} {mv le fi : Nat → Int} {pc kp : Nat} {mv1 le1 fi1 : Nat → Int} {pc1 : Nat} {mv2 le2 fi2 : Nat → Int} {pc2 : Nat}  (hW : xMW h k n f ld dg pa jo wa sr pu ri mv le fi pc kp mv1 le1 fi1 pc1 mv2 le2 fi2 pc2) : xa_M G mX10_back [xa_r k] h 0 0 (fun r h' => ((kp = 0 ∧ r = some (xa_i (-2)) ∧ xMW h' k n f ld dg pa jo wa sr pu ri mv le fi pc kp mv1 le1 fi1 pc1 mv2 le2 fi2 pc2) ∨ (kp = 1 ∧ r = some (xa_i 0) ∧ xMW h' k n f ld dg pa jo wa sr pu ri (sp_cp mv mv1 240) (sp_cp le le1 4) (sp_cp fi fi1 120) pc1 0 mv1 le1 fi1 pc1 mv2 le2 fi2 pc2) ∨ (kp = 2 ∧ r = some (xa_i 1) ∧ xMW h' k n f ld dg pa jo wa sr pu ri (sp_cp mv mv2 240) (sp_cp le le2 4) (sp_cp fi fi2 120) pc2 1 mv1 le1 fi1 pc1 mv2 le2 fi2 pc2)) ∧ h'.2 = h.2 ∧ ∀ i, (i < k ∨ k + 17 ≤ i) → h'.1 i = h.1 i) := by
  have hW' := hW
  obtain ⟨F, s, hM, ho, hl, hf, hr⟩ := hW
  obtain ⟨R1, ⟨⟨g1, g2, g3, g4⟩, g5, g6⟩, ⟨k1, k2, k3, k4⟩, R4⟩ := hr
  obtain ⟨o1, o2, o3, o4, o5, o6, o7⟩ := ho
  rcases (show kp = 0 ∨ kp = 1 ∨ kp = 2 by omega) with rfl | rfl | rfl
  · refine xa_mono (c_mBack k 0 F s k1 (by decide) hM) ?_
    rintro r h' (⟨q1, q2, q3⟩ | ⟨q1, q2, q3, q4, q5⟩)
    · subst q3
      exact ⟨Or.inl ⟨rfl, q2, hW'⟩, rfl, fun _ _ => rfl⟩
    · exact absurd q1 (by decide)
  · obtain ⟨⟨z1, z2, z3, z4⟩, z5⟩ := k3 (by decide)
    refine xa_mono (c_mBack k 1 F s k1 (by decide) hM) ?_
    rintro r h' (⟨q1, q2, q3⟩ | ⟨q1, q2, q3, q4, q5⟩)
    · exact absurd q1 (by decide)
    · exact ⟨Or.inr (Or.inl ⟨rfl, q2, ⟨_, _, q3, ⟨o1, o2, o3, o4, o5, fcp_b o6 _ _ _, fcp_b o7 _ _ _⟩, hl, hf, R1, ⟨⟨fun i hi => by
        show _ = fcp (F 10) (240 * (1)) (240 * (0)) 240 (240 * 0 + i)
        rw [sp_cp_lt _ _ hi, fcp_in _ (i := i) (by omega) hi]
        exact z1 i hi, fun i hi => by
        show _ = fcp (F 9) (4 * (1)) (4 * (0)) 4 (4 * 0 + i)
        rw [sp_cp_lt _ _ hi, fcp_in _ (i := i) (by omega) hi]
        exact z2 i hi, fun i hi => by
        show _ = fcp (F 12) (120 * (1)) (120 * (0)) 120 (120 * 0 + i)
        rw [sp_cp_lt _ _ hi, fcp_in _ (i := i) (by omega) hi]
        exact z3 i hi, by
        show xa_upf (F 11) 0 (F 11 (1)) 0 = _
        exact (xa_upf_at _ _ _).trans z4⟩, fun i => by
        unfold sp_cp
        by_cases e : i < 4
        · rw [if_pos e, z2 i e]
          exact o6 _
        · rw [if_neg e]
          exact g5 i, fiOk_cp z5⟩, ⟨rfl, by decide, fun z => absurd z (by decide), fun z => absurd z (by decide)⟩, xa_upf_b R4 (R4 1)⟩⟩), q4, q5⟩
  · obtain ⟨⟨y1, y2, y3, y4⟩, y5⟩ := k3 (by decide)
    obtain ⟨⟨z1, z2, z3, z4⟩, z5⟩ := k4 (by decide)
    refine xa_mono (c_mBack k 2 F s k1 (by decide) hM) ?_
    rintro r h' (⟨q1, q2, q3⟩ | ⟨q1, q2, q3, q4, q5⟩)
    · exact absurd q1 (by decide)
    · exact ⟨Or.inr (Or.inr ⟨rfl, q2, ⟨_, _, q3, ⟨o1, o2, o3, o4, o5, fcp_b o6 _ _ _, fcp_b o7 _ _ _⟩, hl, hf, R1, ⟨⟨fun i hi => by
        show _ = fcp (F 10) (240 * (2)) (240 * (0)) 240 (240 * 0 + i)
        rw [sp_cp_lt _ _ hi, fcp_in _ (i := i) (by omega) hi]
        exact z1 i hi, fun i hi => by
        show _ = fcp (F 9) (4 * (2)) (4 * (0)) 4 (4 * 0 + i)
        rw [sp_cp_lt _ _ hi, fcp_in _ (i := i) (by omega) hi]
        exact z2 i hi, fun i hi => by
        show _ = fcp (F 12) (120 * (2)) (120 * (0)) 120 (120 * 0 + i)
        rw [sp_cp_lt _ _ hi, fcp_in _ (i := i) (by omega) hi]
        exact z3 i hi, by
        show xa_upf (F 11) 0 (F 11 (2)) 0 = _
        exact (xa_upf_at _ _ _).trans z4⟩, fun i => by
        unfold sp_cp
        by_cases e : i < 4
        · rw [if_pos e, z2 i e]
          exact o6 _
        · rw [if_neg e]
          exact g5 i, fiOk_cp z5⟩, ⟨rfl, by decide, fun _ => ⟨⟨fun i hi => by
        show _ = fcp (F 10) (240 * (2)) (240 * (0)) 240 (240 * 1 + i)
        rw [fcp_out _ (by omega)]
        exact y1 i hi, fun i hi => by
        show _ = fcp (F 9) (4 * (2)) (4 * (0)) 4 (4 * 1 + i)
        rw [fcp_out _ (by omega)]
        exact y2 i hi, fun i hi => by
        show _ = fcp (F 12) (120 * (2)) (120 * (0)) 120 (120 * 1 + i)
        rw [fcp_out _ (by omega)]
        exact y3 i hi, by
        show xa_upf (F 11) (0) (F 11 (2)) 1 = _
        exact (xa_upf_ne _ _ (by decide)).trans y4⟩, y5⟩, fun z => absurd z (by decide)⟩, xa_upf_b R4 (R4 2)⟩⟩), q4, q5⟩
