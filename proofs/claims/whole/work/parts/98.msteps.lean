/-! The model's world, and its queries -/
/-- what is kept at place j -/
def kAg (F : Nat → Nat → Int) (j : Nat) (mv le fi : Nat → Int) (pc : Nat) : Prop := (∀ i, i < 240 → mv i = F 10 (240 * j + i)) ∧ (∀ i, i < 4 → le i = F 9 (4 * j + i)) ∧ (∀ i, i < 120 → fi i = F 12 (120 * j + i)) ∧ F 11 j = (pc : Int)
def mRel (F : Nat → Nat → Int) (s : Nat → Int) (n : Nat) (f : Nat → Int) (pa : Nat) (mv le fi : Nat → Int) (pc kp : Nat) (mv1 le1 fi1 : Nat → Int) (pc1 : Nat) (mv2 le2 fi2 : Nat → Int) (pc2 : Nat) : Prop := (s 0 = (n : Int) ∧ n ≤ 120 ∧ (∀ i, i < 120 → f i = F 1 i) ∧ ∀ i, 0 ≤ F 1 i ∧ F 1 i ≤ 255) ∧ (kAg F 0 mv le fi pc ∧ (∀ i, 0 ≤ le i ∧ le i ≤ 60) ∧ fiOk pa fi pc) ∧ (s 13 = (kp : Int) ∧ kp ≤ 2 ∧ (1 ≤ kp → kAg F 1 mv1 le1 fi1 pc1 ∧ fiOk pa fi1 pc1) ∧ (2 ≤ kp → kAg F 2 mv2 le2 fi2 pc2 ∧ fiOk pa fi2 pc2)) ∧ ∀ i, 0 ≤ F 11 i ∧ F 11 i ≤ 30
def xMW (h : xa_H) (k : Nat) (n : Nat) (f ld dg : Nat → Int) (pa jo : Nat) (wa sr pu ri : Int) (mv le fi : Nat → Int) (pc kp : Nat) (mv1 le1 fi1 : Nat → Int) (pc1 : Nat) (mv2 le2 fi2 : Nat → Int) (pc2 : Nat) : Prop := ∃ (F : Nat → Nat → Int) (s : Nat → Int), xM h k F s ∧ mOk F ld dg pa jo wa sr pu ri ∧ mLi F s ld dg pa jo wa sr pu ri ∧ mFre F ld dg pa jo wa sr ∧ mRel F s n f pa mv le fi pc kp mv1 le1 fi1 pc1 mv2 le2 fi2 pc2
section MR
variable {F F' : Nat → Nat → Int} {s s' : Nat → Int} {h h1 : xa_H} {k : Nat} {n : Nat} {f ld dg : Nat → Int} {pa jo : Nat} {wa sr pu ri : Int} {mv le fi : Nat → Int} {pc kp : Nat} {mv1 le1 fi1 : Nat → Int} {pc1 : Nat} {mv2 le2 fi2 : Nat → Int} {pc2 : Nat}
theorem mRel.agr (hr : mRel F s n f pa mv le fi pc kp mv1 le1 fi1 pc1 mv2 le2 fi2 pc2) : agr mv le (F 10) (F 9) := ⟨fun i hi => by have z := hr.2.1.1.1 i hi; rwa [show 240 * 0 + i = i by omega] at z, fun i hi => by have z := hr.2.1.1.2.1 i hi; rwa [show 4 * 0 + i = i by omega] at z, hr.2.1.2.1⟩
theorem mRel.pic (hr : mRel F s n f pa mv le fi pc kp mv1 le1 fi1 pc1 mv2 le2 fi2 pc2) : ∀ i, i < 120 → fi i = F 12 i := fun i hi => by have z := hr.2.1.1.2.2.1 i hi; rwa [show 120 * 0 + i = i by omega] at z
theorem mRel.pcs (hr : mRel F s n f pa mv le fi pc kp mv1 le1 fi1 pc1 mv2 le2 fi2 pc2) : F 11 0 = (pc : Int) := hr.2.1.1.2.2.2
theorem mRel.filmOk (hr : mRel F s n f pa mv le fi pc kp mv1 le1 fi1 pc1 mv2 le2 fi2 pc2) : fiOk pa (F 12) pc := by
  have h1 := hr.2.1.2.2
  have hp := h1.1
  refine ⟨hp, fun n hn => ?_⟩
  rw [← hr.pic _ (by omega), ← hr.pic _ (by omega), ← hr.pic _ (by omega), ← hr.pic _ (by omega)]
  exact h1.2 n hn
theorem mRel.ms (hr : mRel F s n f pa mv le fi pc kp mv1 le1 fi1 pc1 mv2 le2 fi2 pc2) (h1 : s' 0 = s 0) (h2 : s' 13 = s 13) : mRel F s' n f pa mv le fi pc kp mv1 le1 fi1 pc1 mv2 le2 fi2 pc2 := by
  unfold mRel at hr ⊢
  rw [h1, h2]
  exact hr
theorem mRel.sim (hr : mRel F s n f pa mv le fi pc kp mv1 le1 fi1 pc1 mv2 le2 fi2 pc2) (h : mSim3 F F' s s') : mRel F' s' n f pa mv le fi pc kp mv1 le1 fi1 pc1 mv2 le2 fi2 pc2 := by
  obtain ⟨h1, h2, h3⟩ := h
  unfold mRel kAg at hr ⊢
  rw [h2, h3, h1 1 (by decide) (by decide) (by decide), h1 9 (by decide) (by decide) (by decide), h1 10 (by decide) (by decide) (by decide), h1 11 (by decide) (by decide) (by decide), h1 12 (by decide) (by decide) (by decide)]
  exact hr
theorem mLi.ms (hl : mLi F s ld dg pa jo wa sr pu ri) (h : s' 20 = s 20) : mLi F s' ld dg pa jo wa sr pu ri := by
  unfold mLi at hl ⊢
  rw [h]
  exact hl
theorem mSim.to3 (h : mSim F F' s s') : mSim3 F F' s s' := ⟨fun i a b _ => h.1 i a b, h.2⟩
theorem xM.fr (h0 : xM h k F s) (hf : ∀ i, k ≤ i → i < k + 17 → h1.1 i = h.1 i) (hn : h.2 ≤ h1.2) : xM h1 k F s := by
  obtain ⟨a0, a1, a2, a3, a4, a5, a6, a7, a8, a9, a10, a11, a12, a13, a14, a15, a16, b1, b2⟩ := h0
  refine ⟨?_, ?_, ?_, ?_, ?_, ?_, ?_, ?_, ?_, ?_, ?_, ?_, ?_, ?_, ?_, ?_, ?_, b1, by omega⟩
  all_goals (rw [hf _ (by omega) (by omega)]; assumption)
theorem xMW.fr (h0 : xMW h k n f ld dg pa jo wa sr pu ri mv le fi pc kp mv1 le1 fi1 pc1 mv2 le2 fi2 pc2) (hf : ∀ i, k ≤ i → i < k + 17 → h1.1 i = h.1 i) (hn : h.2 ≤ h1.2) : xMW h1 k n f ld dg pa jo wa sr pu ri mv le fi pc kp mv1 le1 fi1 pc1 mv2 le2 fi2 pc2 := by
  obtain ⟨F, s, hM, hr⟩ := h0
  exact ⟨F, s, hM.fr hf hn, hr⟩
end MR
theorem m_turn {G : xa_G} {h : xa_H} {k : Nat} {n : Nat} {f ld dg : Nat → Int} {pa jo : Nat} {wa sr pu ri : Int} {mv le fi : Nat → Int} {pc kp : Nat} {mv1 le1 fi1 : Nat → Int} {pc1 : Nat} {mv2 le2 fi2 : Nat → Int} {pc2 : Nat} (w turn t p : Int) (h1 : xa_ok w) (h2 : xa_ok turn) (h3 : xa_ok t) (h4 : xa_ok p) (hW : xMW h k n f ld dg pa jo wa sr pu ri mv le fi pc kp mv1 le1 fi1 pc1 mv2 le2 fi2 pc2) : xa_M G mX10_turn [xa_r k, xa_i w, xa_i turn, xa_i t, xa_i p] h 0 0 (fun r h' => (∃ r0, r = some (xa_i r0) ∧ ∀ r1, sq_turn ld dg pa jo wa sr pu mv le w turn t p r1 → r1 = r0) ∧ xMW h' k n f ld dg pa jo wa sr pu ri mv le fi pc kp mv1 le1 fi1 pc1 mv2 le2 fi2 pc2 ∧ h'.2 = h.2 ∧ ∀ i, (i < k ∨ k + 17 ≤ i) → h'.1 i = h.1 i) := by
  have hW' := hW
  obtain ⟨F, s, hM, ho, hl, hf, hr⟩ := hW
  refine xa_mono (c_mTurnA k w turn t p F s ld dg pa jo wa sr pu ri h1 h2 h3 h4 ho hM) ?_
  rintro r h' ⟨⟨r0, s', q1, q2, q3, q4⟩, q5, q6⟩
  exact ⟨⟨r0, q1, fun r1 z => sq_turn_u hr.agr z q2⟩, ⟨F, s', q4, ho, hl.ms q3.2.2, hf, hr.ms q3.1 q3.2.1⟩, q5, q6⟩
theorem m_run {G : xa_G} {h : xa_H} {k : Nat} {n : Nat} {f ld dg : Nat → Int} {pa jo : Nat} {wa sr pu ri : Int} {mv le fi : Nat → Int} {pc kp : Nat} {mv1 le1 fi1 : Nat → Int} {pc1 : Nat} {mv2 le2 fi2 : Nat → Int} {pc2 : Nat} (w q : Int) (h1 : xa_ok w) (h2 : xa_ok q) (hW : xMW h k n f ld dg pa jo wa sr pu ri mv le fi pc kp mv1 le1 fi1 pc1 mv2 le2 fi2 pc2) : xa_M G mX10_run [xa_r k, xa_i w, xa_i q] h 0 0 (fun r h' => (∃ r0, r = some (xa_i r0) ∧ ∀ r1, sq_run ld dg pa jo wa sr pu mv le w q r1 → r1 = r0) ∧ xMW h' k n f ld dg pa jo wa sr pu ri mv le fi pc kp mv1 le1 fi1 pc1 mv2 le2 fi2 pc2 ∧ h'.2 = h.2 ∧ ∀ i, (i < k ∨ k + 17 ≤ i) → h'.1 i = h.1 i) := by
  have hW' := hW
  obtain ⟨F, s, hM, ho, hl, hf, hr⟩ := hW
  refine xa_mono (c_mRun k w q F s ld dg pa jo wa sr pu ri h1 h2 ho hM) ?_
  rintro r h' ⟨⟨r0, s', q1, q2, q3, q4⟩, q5, q6⟩
  exact ⟨⟨r0, q1, fun r1 z => sq_run_u hr.agr z q2⟩, ⟨F, s', q4, ho, hl.ms q3.2.2, hf, hr.ms q3.1 q3.2.1⟩, q5, q6⟩
theorem m_spun {G : xa_G} {h : xa_H} {k : Nat} {n : Nat} {f ld dg : Nat → Int} {pa jo : Nat} {wa sr pu ri : Int} {mv le fi : Nat → Int} {pc kp : Nat} {mv1 le1 fi1 : Nat → Int} {pc1 : Nat} {mv2 le2 fi2 : Nat → Int} {pc2 : Nat} (w : Int) (h1 : xa_ok w) (hW : xMW h k n f ld dg pa jo wa sr pu ri mv le fi pc kp mv1 le1 fi1 pc1 mv2 le2 fi2 pc2) : xa_M G mX10_spun [xa_r k, xa_i w] h 0 0 (fun r h' => (∃ r0, r = some (xa_i r0) ∧ ∀ r1, sq_spun ld dg pa jo wa sr pu mv le w r1 → r1 = r0) ∧ xMW h' k n f ld dg pa jo wa sr pu ri mv le fi pc kp mv1 le1 fi1 pc1 mv2 le2 fi2 pc2 ∧ h'.2 = h.2 ∧ ∀ i, (i < k ∨ k + 17 ≤ i) → h'.1 i = h.1 i) := by
  have hW' := hW
  obtain ⟨F, s, hM, ho, hl, hf, hr⟩ := hW
  refine xa_mono (c_mSpun k w F s ld dg pa jo wa sr pu ri h1 ho hM) ?_
  rintro r h' ⟨⟨r0, s', q1, q2, q3, q4⟩, q5, q6⟩
  exact ⟨⟨r0, q1, fun r1 z => sq_spun_u hr.agr z q2⟩, ⟨F, s', q4, ho, hl.ms q3.2.2, hf, hr.ms q3.1 q3.2.1⟩, q5, q6⟩
theorem m_times {G : xa_G} {h : xa_H} {k : Nat} {n : Nat} {f ld dg : Nat → Int} {pa jo : Nat} {wa sr pu ri : Int} {mv le fi : Nat → Int} {pc kp : Nat} {mv1 le1 fi1 : Nat → Int} {pc1 : Nat} {mv2 le2 fi2 : Nat → Int} {pc2 : Nat} (w nn : Int) (h1 : xa_ok w) (h2 : xa_ok nn) (hW : xMW h k n f ld dg pa jo wa sr pu ri mv le fi pc kp mv1 le1 fi1 pc1 mv2 le2 fi2 pc2) : xa_M G mX10_times [xa_r k, xa_i w, xa_i nn] h 0 0 (fun r h' => (∃ r0, r = some (xa_i r0) ∧ ∀ r1, sq_times ld dg pa jo wa sr pu mv le w nn r1 → r1 = r0) ∧ xMW h' k n f ld dg pa jo wa sr pu ri mv le fi pc kp mv1 le1 fi1 pc1 mv2 le2 fi2 pc2 ∧ h'.2 = h.2 ∧ ∀ i, (i < k ∨ k + 17 ≤ i) → h'.1 i = h.1 i) := by
  have hW' := hW
  obtain ⟨F, s, hM, ho, hl, hf, hr⟩ := hW
  refine xa_mono (c_mTimes k w nn F s ld dg pa jo wa sr pu ri h1 h2 ho hM) ?_
  rintro r h' ⟨⟨r0, s', q1, q2, q3, q4⟩, q5, q6⟩
  exact ⟨⟨r0, q1, fun r1 z => sq_times_u hr.agr z q2⟩, ⟨F, s', q4, ho, hl.ms q3.2.2, hf, hr.ms q3.1 q3.2.1⟩, q5, q6⟩
theorem m_may {G : xa_G} {h : xa_H} {k : Nat} {n : Nat} {f ld dg : Nat → Int} {pa jo : Nat} {wa sr pu ri : Int} {mv le fi : Nat → Int} {pc kp : Nat} {mv1 le1 fi1 : Nat → Int} {pc1 : Nat} {mv2 le2 fi2 : Nat → Int} {pc2 : Nat} (w turn : Int) (h1 : xa_ok w) (h2 : xa_ok turn) (hW : xMW h k n f ld dg pa jo wa sr pu ri mv le fi pc kp mv1 le1 fi1 pc1 mv2 le2 fi2 pc2) : xa_M G mX10_may [xa_r k, xa_i w, xa_i turn] h 0 0 (fun r h' => (∃ r0, r = some (xa_i r0) ∧ ∀ r1, sq_may ld dg pa jo wa sr pu mv le fi pc w turn r1 → r1 = r0) ∧ xMW h' k n f ld dg pa jo wa sr pu ri mv le fi pc kp mv1 le1 fi1 pc1 mv2 le2 fi2 pc2 ∧ h'.2 = h.2 ∧ ∀ i, (i < k ∨ k + 17 ≤ i) → h'.1 i = h.1 i) := by
  have hW' := hW
  obtain ⟨F, s, hM, ho, hl, hf, hr⟩ := hW
  refine xa_mono (c_mMayA k pc w turn F s ld dg pa jo wa sr pu ri h1 h2 ho hr.pcs hr.filmOk hM) ?_
  rintro r h' ⟨⟨r0, s', q1, q2, q3, q4⟩, q5, q6⟩
  exact ⟨⟨r0, q1, fun r1 z => sq_may_u hr.agr hr.2.1.2.2.1 hr.pic z q2⟩, ⟨F, s', q4, ho, hl.ms q3.2.2, hf, hr.ms q3.1 q3.2.1⟩, q5, q6⟩
theorem m_looked {G : xa_G} {h : xa_H} {k : Nat} {n : Nat} {f ld dg : Nat → Int} {pa jo : Nat} {wa sr pu ri : Int} {mv le fi : Nat → Int} {pc kp : Nat} {mv1 le1 fi1 : Nat → Int} {pc1 : Nat} {mv2 le2 fi2 : Nat → Int} {pc2 : Nat} (w q : Int) (h1 : xa_ok w) (h2 : xa_ok q) (hW : xMW h k n f ld dg pa jo wa sr pu ri mv le fi pc kp mv1 le1 fi1 pc1 mv2 le2 fi2 pc2) : xa_M G mX10_looked [xa_r k, xa_i w, xa_i q] h 0 0 (fun r h' => (∃ r0, r = some (xa_i r0) ∧ ∀ r1, sq_looked ld dg pa jo wa sr pu mv le fi pc w q r1 → r1 = r0) ∧ xMW h' k n f ld dg pa jo wa sr pu ri mv le fi pc kp mv1 le1 fi1 pc1 mv2 le2 fi2 pc2 ∧ h'.2 = h.2 ∧ ∀ i, (i < k ∨ k + 17 ≤ i) → h'.1 i = h.1 i) := by
  have hW' := hW
  obtain ⟨F, s, hM, ho, hl, hf, hr⟩ := hW
  refine xa_mono (c_mLooked k pc w q F s ld dg pa jo wa sr pu ri h1 h2 ho hr.pcs hr.filmOk hM) ?_
  rintro r h' ⟨⟨r0, s', q1, q2, q3, q4⟩, q5, q6⟩
  exact ⟨⟨r0, q1, fun r1 z => sq_looked_u hr.agr hr.2.1.2.2.1 hr.pic z q2⟩, ⟨F, s', q4, ho, hl.ms q3.2.2, hf, hr.ms q3.1 q3.2.1⟩, q5, q6⟩
theorem m_pushed {G : xa_G} {h : xa_H} {k : Nat} {n : Nat} {f ld dg : Nat → Int} {pa jo : Nat} {wa sr pu ri : Int} {mv le fi : Nat → Int} {pc kp : Nat} {mv1 le1 fi1 : Nat → Int} {pc1 : Nat} {mv2 le2 fi2 : Nat → Int} {pc2 : Nat} (w turn mm q : Int) (h1 : xa_ok w) (h2 : xa_ok turn) (h3 : xa_ok mm) (h4 : xa_ok q) (hW : xMW h k n f ld dg pa jo wa sr pu ri mv le fi pc kp mv1 le1 fi1 pc1 mv2 le2 fi2 pc2) : xa_M G mX10_pushed [xa_r k, xa_i w, xa_i turn, xa_i mm, xa_i q] h 0 0 (fun r h' => (∃ r0, r = some (xa_i r0) ∧ ∀ r1, sq_pushed ld dg pa jo wa sr mv le fi pc w turn mm q r1 → r1 = r0) ∧ xMW h' k n f ld dg pa jo wa sr pu ri mv le fi pc kp mv1 le1 fi1 pc1 mv2 le2 fi2 pc2 ∧ h'.2 = h.2 ∧ ∀ i, (i < k ∨ k + 17 ≤ i) → h'.1 i = h.1 i) := by
  have hW' := hW
  obtain ⟨F, s, hM, ho, hl, hf, hr⟩ := hW
  refine xa_mono (c_mPushed k pc w turn mm q F s ld dg pa jo wa sr pu ri h1 h2 h3 h4 ho hr.pcs hr.filmOk hM) ?_
  rintro r h' ⟨⟨r0, s', q1, q2, q3, q4⟩, q5, q6⟩
  exact ⟨⟨r0, q1, fun r1 z => sq_pushed_u hr.agr hr.2.1.2.2.1 hr.pic z q2⟩, ⟨F, s', q4, ho, hl.ms q3.2.2, hf, hr.ms q3.1 q3.2.1⟩, q5, q6⟩
theorem m_head {G : xa_G} {h : xa_H} {k : Nat} {n : Nat} {f ld dg : Nat → Int} {pa jo : Nat} {wa sr pu ri : Int} {mv le fi : Nat → Int} {pc kp : Nat} {mv1 le1 fi1 : Nat → Int} {pc1 : Nat} {mv2 le2 fi2 : Nat → Int} {pc2 : Nat} (turn nn : Int) (h1 : xa_ok turn) (h2 : xa_ok nn) (hW : xMW h k n f ld dg pa jo wa sr pu ri mv le fi pc kp mv1 le1 fi1 pc1 mv2 le2 fi2 pc2) : xa_M G mX10_head [xa_r k, xa_i turn, xa_i nn] h 0 0 (fun r h' => (∃ r0, r = some (xa_i r0) ∧ ∀ r1, sq_head ld dg pa jo wa sr pu ri mv le turn nn r1 → r1 = r0) ∧ xMW h' k n f ld dg pa jo wa sr pu ri mv le fi pc kp mv1 le1 fi1 pc1 mv2 le2 fi2 pc2 ∧ h'.2 = h.2 ∧ ∀ i, (i < k ∨ k + 17 ≤ i) → h'.1 i = h.1 i) := by
  have hW' := hW
  obtain ⟨F, s, hM, ho, hl, hf, hr⟩ := hW
  refine xa_mono (c_mHeadA k turn nn F s ld dg pa jo wa sr pu ri h1 h2 ho hM) ?_
  rintro r h' ⟨⟨r0, s', q1, q2, q3, q4⟩, q5, q6⟩
  exact ⟨⟨r0, q1, fun r1 z => sq_head_u hr.agr z q2⟩, ⟨F, s', q4, ho, hl.ms q3.2.2, hf, hr.ms q3.1 q3.2.1⟩, q5, q6⟩
theorem m_down {G : xa_G} {h : xa_H} {k : Nat} {n : Nat} {f ld dg : Nat → Int} {pa jo : Nat} {wa sr pu ri : Int} {mv le fi : Nat → Int} {pc kp : Nat} {mv1 le1 fi1 : Nat → Int} {pc1 : Nat} {mv2 le2 fi2 : Nat → Int} {pc2 : Nat} (nn : Int) (h1 : xa_ok nn) (hW : xMW h k n f ld dg pa jo wa sr pu ri mv le fi pc kp mv1 le1 fi1 pc1 mv2 le2 fi2 pc2) : xa_M G mX10_down [xa_r k, xa_i nn] h 0 0 (fun r h' => (∃ r0, r = some (xa_i r0) ∧ ∀ r1, sq_down ld dg pa jo wa sr pu ri mv le nn r1 → r1 = r0) ∧ xMW h' k n f ld dg pa jo wa sr pu ri mv le fi pc kp mv1 le1 fi1 pc1 mv2 le2 fi2 pc2 ∧ h'.2 = h.2 ∧ ∀ i, (i < k ∨ k + 17 ≤ i) → h'.1 i = h.1 i) := by
  have hW' := hW
  obtain ⟨F, s, hM, ho, hl, hf, hr⟩ := hW
  refine xa_mono (c_mDown k nn F s ld dg pa jo wa sr pu ri h1 ho hM) ?_
  rintro r h' ⟨⟨r0, s', q1, q2, q3, q4⟩, q5, q6⟩
  exact ⟨⟨r0, q1, fun r1 z => sq_down_u hr.agr z q2⟩, ⟨F, s', q4, ho, hl.ms q3.2.2, hf, hr.ms q3.1 q3.2.1⟩, q5, q6⟩
theorem m_soon {G : xa_G} {h : xa_H} {k : Nat} {n : Nat} {f ld dg : Nat → Int} {pa jo : Nat} {wa sr pu ri : Int} {mv le fi : Nat → Int} {pc kp : Nat} {mv1 le1 fi1 : Nat → Int} {pc1 : Nat} {mv2 le2 fi2 : Nat → Int} {pc2 : Nat} (t i : Int) (h1 : xa_ok t) (h2 : xa_ok i) (hW : xMW h k n f ld dg pa jo wa sr pu ri mv le fi pc kp mv1 le1 fi1 pc1 mv2 le2 fi2 pc2) : xa_M G mX10_soon [xa_r k, xa_i t, xa_i i] h 0 0 (fun r h' => (∃ r0, r = some (xa_i r0) ∧ ∀ r1, sq_soon ld dg pa jo wa sr pu ri t i r1 → r1 = r0) ∧ xMW h' k n f ld dg pa jo wa sr pu ri mv le fi pc kp mv1 le1 fi1 pc1 mv2 le2 fi2 pc2 ∧ h'.2 = h.2 ∧ ∀ i, (i < k ∨ k + 17 ≤ i) → h'.1 i = h.1 i) := by
  have hW' := hW
  obtain ⟨F, s, hM, ho, hl, hf, hr⟩ := hW
  refine xa_mono (c_mSoon k t i F s ld dg pa jo wa sr pu ri h1 h2 ho hl hM) ?_
  rintro r h' ⟨⟨r0, F', s', q1, q2, q3, q4, q5⟩, q6, q7⟩
  exact ⟨⟨r0, q1, fun r1 z => sq_soon_u z q2⟩, ⟨F', s', q5, q3.to3.ok ho, q4, by unfold mFre; rw [q3.1 16 (by decide) (by decide)]; exact hf, hr.sim q3.to3⟩, q6, q7⟩
theorem m_saved {G : xa_G} {h : xa_H} {k : Nat} {n : Nat} {f ld dg : Nat → Int} {pa jo : Nat} {wa sr pu ri : Int} {mv le fi : Nat → Int} {pc kp : Nat} {mv1 le1 fi1 : Nat → Int} {pc1 : Nat} {mv2 le2 fi2 : Nat → Int} {pc2 : Nat} (H : Int) (h1 : xa_ok H) (hW : xMW h k n f ld dg pa jo wa sr pu ri mv le fi pc kp mv1 le1 fi1 pc1 mv2 le2 fi2 pc2) : xa_M G mX10_saved [xa_r k, xa_i H] h 0 0 (fun r h' => (∃ r0, r = some (xa_i r0) ∧ ∀ r1, sq_saved ld dg pa jo wa sr pu ri H r1 → r1 = r0) ∧ xMW h' k n f ld dg pa jo wa sr pu ri mv le fi pc kp mv1 le1 fi1 pc1 mv2 le2 fi2 pc2 ∧ h'.2 = h.2 ∧ ∀ i, (i < k ∨ k + 17 ≤ i) → h'.1 i = h.1 i) := by
  have hW' := hW
  obtain ⟨F, s, hM, ho, hl, hf, hr⟩ := hW
  refine xa_mono (c_mSaved k H F s ld dg pa jo wa sr pu ri h1 ho hl hM) ?_
  rintro r h' ⟨⟨r0, F', s', q1, q2, q3, q4, q5⟩, q6, q7⟩
  exact ⟨⟨r0, q1, fun r1 z => saved_u z q2⟩, ⟨F', s', q5, q3.to3.ok ho, q4, by unfold mFre; rw [q3.1 16 (by decide) (by decide)]; exact hf, hr.sim q3.to3⟩, q6, q7⟩
theorem m_worth {G : xa_G} {h : xa_H} {k : Nat} {n : Nat} {f ld dg : Nat → Int} {pa jo : Nat} {wa sr pu ri : Int} {mv le fi : Nat → Int} {pc kp : Nat} {mv1 le1 fi1 : Nat → Int} {pc1 : Nat} {mv2 le2 fi2 : Nat → Int} {pc2 : Nat} (j t : Int) (h1 : xa_ok j) (h2 : xa_ok t) (hW : xMW h k n f ld dg pa jo wa sr pu ri mv le fi pc kp mv1 le1 fi1 pc1 mv2 le2 fi2 pc2) : xa_M G mX10_worth [xa_r k, xa_i j, xa_i t] h 0 0 (fun r h' => (∃ r0, r = some (xa_i r0) ∧ ∀ r1, sq_worth ld dg pa jo wa sr pu ri j t r1 → r1 = r0) ∧ xMW h' k n f ld dg pa jo wa sr pu ri mv le fi pc kp mv1 le1 fi1 pc1 mv2 le2 fi2 pc2 ∧ h'.2 = h.2 ∧ ∀ i, (i < k ∨ k + 17 ≤ i) → h'.1 i = h.1 i) := by
  have hW' := hW
  obtain ⟨F, s, hM, ho, hl, hf, hr⟩ := hW
  refine xa_mono (c_mWorth k j t F s ld dg pa jo wa sr pu ri h1 h2 ho hl hM) ?_
  rintro r h' ⟨⟨r0, F', s', q1, q2, q3, q4, q5⟩, q6, q7⟩
  exact ⟨⟨r0, q1, fun r1 z => sq_worth_u z q2⟩, ⟨F', s', q5, q3.to3.ok ho, q4, by unfold mFre; rw [q3.1 16 (by decide) (by decide)]; exact hf, hr.sim q3.to3⟩, q6, q7⟩
theorem m_free {G : xa_G} {h : xa_H} {k : Nat} {n : Nat} {f ld dg : Nat → Int} {pa jo : Nat} {wa sr pu ri : Int} {mv le fi : Nat → Int} {pc kp : Nat} {mv1 le1 fi1 : Nat → Int} {pc1 : Nat} {mv2 le2 fi2 : Nat → Int} {pc2 : Nat} (J : Int) (h1 : xa_ok J) (hW : xMW h k n f ld dg pa jo wa sr pu ri mv le fi pc kp mv1 le1 fi1 pc1 mv2 le2 fi2 pc2) : xa_M G mX10_free [xa_r k, xa_i J] h 0 0 (fun r h' => (∃ r0, r = some (xa_i r0) ∧ ∀ r1, sq_free ld dg pa jo wa sr J r1 → r1 = r0) ∧ xMW h' k n f ld dg pa jo wa sr pu ri mv le fi pc kp mv1 le1 fi1 pc1 mv2 le2 fi2 pc2 ∧ h'.2 = h.2 ∧ ∀ i, (i < k ∨ k + 17 ≤ i) → h'.1 i = h.1 i) := by
  have hW' := hW
  obtain ⟨F, s, hM, ho, hl, hf, hr⟩ := hW
  refine xa_mono (c_mFree k J F s ld dg pa jo wa sr pu ri h1 ho hl hf hM) ?_
  rintro r h' ⟨⟨r0, F', s', q1, q2, q3, q4, q4', q5⟩, q6, q7⟩
  exact ⟨⟨r0, q1, fun r1 z => sq_free_u z q2⟩, ⟨F', s', q5, q3.ok ho, q4, q4', hr.sim q3⟩, q6, q7⟩
theorem m_fewest {G : xa_G} {h : xa_H} {k : Nat} {n : Nat} {f ld dg : Nat → Int} {pa jo : Nat} {wa sr pu ri : Int} {mv le fi : Nat → Int} {pc kp : Nat} {mv1 le1 fi1 : Nat → Int} {pc1 : Nat} {mv2 le2 fi2 : Nat → Int} {pc2 : Nat}  (hW : xMW h k n f ld dg pa jo wa sr pu ri mv le fi pc kp mv1 le1 fi1 pc1 mv2 le2 fi2 pc2) : xa_M G mX10_fewest [xa_r k] h 0 0 (fun r h' => (∃ r0, r = some (xa_i r0) ∧ ∀ r1, sq_fewest ld dg pa jo wa sr r1 → r1 = r0) ∧ xMW h' k n f ld dg pa jo wa sr pu ri mv le fi pc kp mv1 le1 fi1 pc1 mv2 le2 fi2 pc2 ∧ h'.2 = h.2 ∧ ∀ i, (i < k ∨ k + 17 ≤ i) → h'.1 i = h.1 i) := by
  have hW' := hW
  obtain ⟨F, s, hM, ho, hl, hf, hr⟩ := hW
  refine xa_mono (c_mFewest k F s ld dg pa jo wa sr pu ri ho hl hf hM) ?_
  rintro r h' ⟨⟨r0, F', s', q1, q2, q3, q4, q4', q5⟩, q6, q7⟩
  exact ⟨⟨r0, q1, fun r1 z => fewest_u z q2⟩, ⟨F', s', q5, q3.ok ho, q4, q4', hr.sim q3⟩, q6, q7⟩
