/-! The class's calls, in its world -/
theorem s_turn {G : xa_G} {h : xa_H} {k : Nat} {n : Nat} {f ld dg : Nat → Int} {pa jo : Nat} {wa sr pu ri : Int} {mv le fi : Nat → Int} {pc kp : Nat} {mv1 le1 fi1 : Nat → Int} {pc1 : Nat} {mv2 le2 fi2 : Nat → Int} {pc2 : Nat} {bc bs : Nat} (w turn t p : Int) (h1 : xa_ok w) (h2 : xa_ok turn) (h3 : xa_ok t) (h4 : xa_ok p) (hC : xCW h k n f ld dg pa jo wa sr pu ri mv le fi pc kp mv1 le1 fi1 pc1 mv2 le2 fi2 pc2 bc bs) : xa_M G mX9_turn [xa_r k, xa_i w, xa_i turn, xa_i t, xa_i p] h 0 0 (fun r h' => (∃ r0, r = some (xa_i r0) ∧ sq_turn ld dg pa jo wa sr pu mv le w turn t p r0) ∧ xCW h' k n f ld dg pa jo wa sr pu ri mv le fi pc kp mv1 le1 fi1 pc1 mv2 le2 fi2 pc2 bc bs ∧ (∀ i, k + 72 ≤ i → i < k + 89 → h'.1 i = h.1 i) ∧ h.2 ≤ h'.2) := by
  have hC' := hC
  obtain ⟨hX, hT, hB, hH, hW, hB9, hok, hTS, hLn, hLS, hCd, hCk, hCs⟩ := hC
  obtain ⟨ln, hln⟩ := hLn
  refine xa_mono (c_xTurn k _ ld dg pa jo wa sr pu ri mv le fi pc w turn t p h1 h2 h3 h4 hB9 hok.1 hok.2.1 hok.2.2 hX hB hH hTS) ?_
  rintro r h' ⟨q1, q2, q3, q4⟩
  exact ⟨q1, hC'.mid (fun i hi => q4 i (by omega)) q3 q2 ⟨ln, (q4 _ (by omega)).trans hln⟩ (hLS.fr (fun i _ _ => q4 i (by omega)) (by omega)), fun i _ _ => q4 i (by omega), by omega⟩
theorem s_run {G : xa_G} {h : xa_H} {k : Nat} {n : Nat} {f ld dg : Nat → Int} {pa jo : Nat} {wa sr pu ri : Int} {mv le fi : Nat → Int} {pc kp : Nat} {mv1 le1 fi1 : Nat → Int} {pc1 : Nat} {mv2 le2 fi2 : Nat → Int} {pc2 : Nat} {bc bs : Nat} (w q : Int) (h1 : xa_ok w) (h2 : xa_ok q) (hC : xCW h k n f ld dg pa jo wa sr pu ri mv le fi pc kp mv1 le1 fi1 pc1 mv2 le2 fi2 pc2 bc bs) : xa_M G mX9_run [xa_r k, xa_i w, xa_i q] h 0 0 (fun r h' => (∃ r0, r = some (xa_i r0) ∧ sq_run ld dg pa jo wa sr pu mv le w q r0) ∧ xCW h' k n f ld dg pa jo wa sr pu ri mv le fi pc kp mv1 le1 fi1 pc1 mv2 le2 fi2 pc2 bc bs ∧ (∀ i, k + 72 ≤ i → i < k + 89 → h'.1 i = h.1 i) ∧ h.2 ≤ h'.2) := by
  have hC' := hC
  obtain ⟨hX, hT, hB, hH, hW, hB9, hok, hTS, hLn, hLS, hCd, hCk, hCs⟩ := hC
  obtain ⟨ln, hln⟩ := hLn
  refine xa_mono (c_xRun k _ ld dg pa jo wa sr pu ri mv le fi pc w q h1 h2 hB9 hok.1 hok.2.1 hok.2.2 hX hB hH hTS) ?_
  rintro r h' ⟨q1, q2, q3, q4⟩
  exact ⟨q1, hC'.mid (fun i hi => q4 i (by omega)) q3 q2 ⟨ln, (q4 _ (by omega)).trans hln⟩ (hLS.fr (fun i _ _ => q4 i (by omega)) (by omega)), fun i _ _ => q4 i (by omega), by omega⟩
theorem s_spun {G : xa_G} {h : xa_H} {k : Nat} {n : Nat} {f ld dg : Nat → Int} {pa jo : Nat} {wa sr pu ri : Int} {mv le fi : Nat → Int} {pc kp : Nat} {mv1 le1 fi1 : Nat → Int} {pc1 : Nat} {mv2 le2 fi2 : Nat → Int} {pc2 : Nat} {bc bs : Nat} (w : Int) (h1 : xa_ok w) (hC : xCW h k n f ld dg pa jo wa sr pu ri mv le fi pc kp mv1 le1 fi1 pc1 mv2 le2 fi2 pc2 bc bs) : xa_M G mX9_spun [xa_r k, xa_i w] h 0 0 (fun r h' => (∃ r0, r = some (xa_i r0) ∧ sq_spun ld dg pa jo wa sr pu mv le w r0) ∧ xCW h' k n f ld dg pa jo wa sr pu ri mv le fi pc kp mv1 le1 fi1 pc1 mv2 le2 fi2 pc2 bc bs ∧ (∀ i, k + 72 ≤ i → i < k + 89 → h'.1 i = h.1 i) ∧ h.2 ≤ h'.2) := by
  have hC' := hC
  obtain ⟨hX, hT, hB, hH, hW, hB9, hok, hTS, hLn, hLS, hCd, hCk, hCs⟩ := hC
  obtain ⟨ln, hln⟩ := hLn
  refine xa_mono (c_xSpun k _ ld dg pa jo wa sr pu ri mv le fi pc w h1 hB9 hok.1 hok.2.1 hok.2.2 hX hB hH hTS) ?_
  rintro r h' ⟨q1, q2, q3, q4⟩
  exact ⟨q1, hC'.mid (fun i hi => q4 i (by omega)) q3 q2 ⟨ln, (q4 _ (by omega)).trans hln⟩ (hLS.fr (fun i _ _ => q4 i (by omega)) (by omega)), fun i _ _ => q4 i (by omega), by omega⟩
theorem s_times {G : xa_G} {h : xa_H} {k : Nat} {n : Nat} {f ld dg : Nat → Int} {pa jo : Nat} {wa sr pu ri : Int} {mv le fi : Nat → Int} {pc kp : Nat} {mv1 le1 fi1 : Nat → Int} {pc1 : Nat} {mv2 le2 fi2 : Nat → Int} {pc2 : Nat} {bc bs : Nat} (w nn : Int) (h1 : xa_ok w) (h2 : xa_ok nn) (hC : xCW h k n f ld dg pa jo wa sr pu ri mv le fi pc kp mv1 le1 fi1 pc1 mv2 le2 fi2 pc2 bc bs) : xa_M G mX9_times [xa_r k, xa_i w, xa_i nn] h 0 0 (fun r h' => (∃ r0, r = some (xa_i r0) ∧ sq_times ld dg pa jo wa sr pu mv le w nn r0) ∧ xCW h' k n f ld dg pa jo wa sr pu ri mv le fi pc kp mv1 le1 fi1 pc1 mv2 le2 fi2 pc2 bc bs ∧ (∀ i, k + 72 ≤ i → i < k + 89 → h'.1 i = h.1 i) ∧ h.2 ≤ h'.2) := by
  have hC' := hC
  obtain ⟨hX, hT, hB, hH, hW, hB9, hok, hTS, hLn, hLS, hCd, hCk, hCs⟩ := hC
  obtain ⟨ln, hln⟩ := hLn
  refine xa_mono (c_xTimes k _ ld dg pa jo wa sr pu ri mv le fi pc w nn h1 h2 hB9 hok.1 hok.2.1 hok.2.2 hX hB hH hTS) ?_
  rintro r h' ⟨q1, q2, q3, q4⟩
  exact ⟨q1, hC'.mid (fun i hi => q4 i (by omega)) q3 q2 ⟨ln, (q4 _ (by omega)).trans hln⟩ (hLS.fr (fun i _ _ => q4 i (by omega)) (by omega)), fun i _ _ => q4 i (by omega), by omega⟩
theorem s_may {G : xa_G} {h : xa_H} {k : Nat} {n : Nat} {f ld dg : Nat → Int} {pa jo : Nat} {wa sr pu ri : Int} {mv le fi : Nat → Int} {pc kp : Nat} {mv1 le1 fi1 : Nat → Int} {pc1 : Nat} {mv2 le2 fi2 : Nat → Int} {pc2 : Nat} {bc bs : Nat} (w turn : Int) (h1 : xa_ok w) (h2 : xa_ok turn) (hC : xCW h k n f ld dg pa jo wa sr pu ri mv le fi pc kp mv1 le1 fi1 pc1 mv2 le2 fi2 pc2 bc bs) : xa_M G mX9_may [xa_r k, xa_i w, xa_i turn] h 0 0 (fun r h' => (∃ r0, r = some (xa_i r0) ∧ sq_may ld dg pa jo wa sr pu mv le fi pc w turn r0) ∧ xCW h' k n f ld dg pa jo wa sr pu ri mv le fi pc kp mv1 le1 fi1 pc1 mv2 le2 fi2 pc2 bc bs ∧ (∀ i, k + 72 ≤ i → i < k + 89 → h'.1 i = h.1 i) ∧ h.2 ≤ h'.2) := by
  have hC' := hC
  obtain ⟨hX, hT, hB, hH, hW, hB9, hok, hTS, hLn, hLS, hCd, hCk, hCs⟩ := hC
  obtain ⟨ln, hln⟩ := hLn
  refine xa_mono (c_xMay k _ ld dg pa jo wa sr pu ri mv le fi pc w turn h1 h2 hB9 hok.1 hok.2.1 hok.2.2 hX hB hH hTS) ?_
  rintro r h' ⟨q1, q2, q3, q4⟩
  exact ⟨q1, hC'.mid (fun i hi => q4 i (by omega)) q3 q2 ⟨ln, (q4 _ (by omega)).trans hln⟩ (hLS.fr (fun i _ _ => q4 i (by omega)) (by omega)), fun i _ _ => q4 i (by omega), by omega⟩
theorem s_looked {G : xa_G} {h : xa_H} {k : Nat} {n : Nat} {f ld dg : Nat → Int} {pa jo : Nat} {wa sr pu ri : Int} {mv le fi : Nat → Int} {pc kp : Nat} {mv1 le1 fi1 : Nat → Int} {pc1 : Nat} {mv2 le2 fi2 : Nat → Int} {pc2 : Nat} {bc bs : Nat} (w q : Int) (h1 : xa_ok w) (h2 : xa_ok q) (hC : xCW h k n f ld dg pa jo wa sr pu ri mv le fi pc kp mv1 le1 fi1 pc1 mv2 le2 fi2 pc2 bc bs) : xa_M G mX9_looked [xa_r k, xa_i w, xa_i q] h 0 0 (fun r h' => (∃ r0, r = some (xa_i r0) ∧ sq_looked ld dg pa jo wa sr pu mv le fi pc w q r0) ∧ xCW h' k n f ld dg pa jo wa sr pu ri mv le fi pc kp mv1 le1 fi1 pc1 mv2 le2 fi2 pc2 bc bs ∧ (∀ i, k + 72 ≤ i → i < k + 89 → h'.1 i = h.1 i) ∧ h.2 ≤ h'.2) := by
  have hC' := hC
  obtain ⟨hX, hT, hB, hH, hW, hB9, hok, hTS, hLn, hLS, hCd, hCk, hCs⟩ := hC
  obtain ⟨ln, hln⟩ := hLn
  refine xa_mono (c_xLooked k _ ld dg pa jo wa sr pu ri mv le fi pc w q h1 h2 hB9 hok.1 hok.2.1 hok.2.2 hX hB hH hTS) ?_
  rintro r h' ⟨q1, q2, q3, q4⟩
  exact ⟨q1, hC'.mid (fun i hi => q4 i (by omega)) q3 q2 ⟨ln, (q4 _ (by omega)).trans hln⟩ (hLS.fr (fun i _ _ => q4 i (by omega)) (by omega)), fun i _ _ => q4 i (by omega), by omega⟩
theorem s_pushed {G : xa_G} {h : xa_H} {k : Nat} {n : Nat} {f ld dg : Nat → Int} {pa jo : Nat} {wa sr pu ri : Int} {mv le fi : Nat → Int} {pc kp : Nat} {mv1 le1 fi1 : Nat → Int} {pc1 : Nat} {mv2 le2 fi2 : Nat → Int} {pc2 : Nat} {bc bs : Nat} (w turn mm q : Int) (h1 : xa_ok w) (h2 : xa_ok turn) (h3 : xa_ok mm) (h4 : xa_ok q) (hC : xCW h k n f ld dg pa jo wa sr pu ri mv le fi pc kp mv1 le1 fi1 pc1 mv2 le2 fi2 pc2 bc bs) : xa_M G mX9_pushed [xa_r k, xa_i w, xa_i turn, xa_i mm, xa_i q] h 0 0 (fun r h' => (∃ r0, r = some (xa_i r0) ∧ sq_pushed ld dg pa jo wa sr mv le fi pc w turn mm q r0) ∧ xCW h' k n f ld dg pa jo wa sr pu ri mv le fi pc kp mv1 le1 fi1 pc1 mv2 le2 fi2 pc2 bc bs ∧ (∀ i, k + 72 ≤ i → i < k + 89 → h'.1 i = h.1 i) ∧ h.2 ≤ h'.2) := by
  have hC' := hC
  obtain ⟨hX, hT, hB, hH, hW, hB9, hok, hTS, hLn, hLS, hCd, hCk, hCs⟩ := hC
  obtain ⟨ln, hln⟩ := hLn
  refine xa_mono (c_xPushed k _ ld dg pa jo wa sr pu ri mv le fi pc w turn mm q h1 h2 h3 h4 hB9 hok.1 hok.2.1 hok.2.2 hX hB hH hTS) ?_
  rintro r h' ⟨q1, q2, q3, q4⟩
  exact ⟨q1, hC'.mid (fun i hi => q4 i (by omega)) q3 q2 ⟨ln, (q4 _ (by omega)).trans hln⟩ (hLS.fr (fun i _ _ => q4 i (by omega)) (by omega)), fun i _ _ => q4 i (by omega), by omega⟩
theorem s_head {G : xa_G} {h : xa_H} {k : Nat} {n : Nat} {f ld dg : Nat → Int} {pa jo : Nat} {wa sr pu ri : Int} {mv le fi : Nat → Int} {pc kp : Nat} {mv1 le1 fi1 : Nat → Int} {pc1 : Nat} {mv2 le2 fi2 : Nat → Int} {pc2 : Nat} {bc bs : Nat} (turn nn : Int) (h1 : xa_ok turn) (h2 : xa_ok nn) (hC : xCW h k n f ld dg pa jo wa sr pu ri mv le fi pc kp mv1 le1 fi1 pc1 mv2 le2 fi2 pc2 bc bs) : xa_M G mX9_head [xa_r k, xa_i turn, xa_i nn] h 0 0 (fun r h' => (∃ r0, r = some (xa_i r0) ∧ sq_head ld dg pa jo wa sr pu ri mv le turn nn r0) ∧ xCW h' k n f ld dg pa jo wa sr pu ri mv le fi pc kp mv1 le1 fi1 pc1 mv2 le2 fi2 pc2 bc bs ∧ (∀ i, k + 72 ≤ i → i < k + 89 → h'.1 i = h.1 i) ∧ h.2 ≤ h'.2) := by
  have hC' := hC
  obtain ⟨hX, hT, hB, hH, hW, hB9, hok, hTS, hLn, hLS, hCd, hCk, hCs⟩ := hC
  obtain ⟨ln, hln⟩ := hLn
  refine xa_mono (c_xHead k _ ld dg pa jo wa sr pu ri mv le fi pc turn nn h1 h2 hB9 hok.1 hok.2.1 hok.2.2 hX hB hH hTS ⟨ln, hln⟩) ?_
  rintro r h' ⟨q1, q2, q2', q3, q4⟩
  exact ⟨q1, hC'.mid (fun i hi => q4 i (by omega)) q3 q2 q2' (hLS.fr (fun i _ _ => q4 i (by omega)) (by omega)), fun i _ _ => q4 i (by omega), by omega⟩
theorem s_down {G : xa_G} {h : xa_H} {k : Nat} {n : Nat} {f ld dg : Nat → Int} {pa jo : Nat} {wa sr pu ri : Int} {mv le fi : Nat → Int} {pc kp : Nat} {mv1 le1 fi1 : Nat → Int} {pc1 : Nat} {mv2 le2 fi2 : Nat → Int} {pc2 : Nat} {bc bs : Nat} (nn : Int) (h1 : xa_ok nn) (hC : xCW h k n f ld dg pa jo wa sr pu ri mv le fi pc kp mv1 le1 fi1 pc1 mv2 le2 fi2 pc2 bc bs) : xa_M G mX9_down [xa_r k, xa_i nn] h 0 0 (fun r h' => (∃ r0, r = some (xa_i r0) ∧ sq_down ld dg pa jo wa sr pu ri mv le nn r0) ∧ xCW h' k n f ld dg pa jo wa sr pu ri mv le fi pc kp mv1 le1 fi1 pc1 mv2 le2 fi2 pc2 bc bs ∧ (∀ i, k + 72 ≤ i → i < k + 89 → h'.1 i = h.1 i) ∧ h.2 ≤ h'.2) := by
  have hC' := hC
  obtain ⟨hX, hT, hB, hH, hW, hB9, hok, hTS, hLn, hLS, hCd, hCk, hCs⟩ := hC
  obtain ⟨ln, hln⟩ := hLn
  refine xa_mono (c_xDown k _ ld dg pa jo wa sr pu ri mv le fi pc nn h1 hB9 hok.1 hok.2.1 hok.2.2 hX hB hH hTS ⟨ln, hln⟩) ?_
  rintro r h' ⟨q1, q2, q2', q3, q4⟩
  exact ⟨q1, hC'.mid (fun i hi => q4 i (by omega)) q3 q2 q2' (hLS.fr (fun i _ _ => q4 i (by omega)) (by omega)), fun i _ _ => q4 i (by omega), by omega⟩
theorem s_free {G : xa_G} {h : xa_H} {k : Nat} {n : Nat} {f ld dg : Nat → Int} {pa jo : Nat} {wa sr pu ri : Int} {mv le fi : Nat → Int} {pc kp : Nat} {mv1 le1 fi1 : Nat → Int} {pc1 : Nat} {mv2 le2 fi2 : Nat → Int} {pc2 : Nat} {bc bs : Nat} (J : Int) (h1 : xa_ok J) (hC : xCW h k n f ld dg pa jo wa sr pu ri mv le fi pc kp mv1 le1 fi1 pc1 mv2 le2 fi2 pc2 bc bs) : xa_M G mX9_free [xa_r k, xa_i J] h 0 0 (fun r h' => (∃ r0, r = some (xa_i r0) ∧ sq_free ld dg pa jo wa sr J r0) ∧ xCW h' k n f ld dg pa jo wa sr pu ri mv le fi pc kp mv1 le1 fi1 pc1 mv2 le2 fi2 pc2 bc bs ∧ (∀ i, k + 72 ≤ i → i < k + 89 → h'.1 i = h.1 i) ∧ h.2 ≤ h'.2) := by
  have hC' := hC
  obtain ⟨hX, hT, hB, hH, hW, hB9, hok, hTS, hLn, hLS, hCd, hCk, hCs⟩ := hC
  obtain ⟨ln, hln⟩ := hLn
  refine xa_mono (c_xFree k _ ld dg pa jo wa sr pu ri J h1 hB9 hX hB hLS) ?_
  rintro r h' ⟨q1, q2, q3, q4⟩
  exact ⟨q1, hC'.mid (fun i hi => q4 i (by omega)) q3 (hTS.fr (fun i _ _ => q4 i (by omega)) (by omega)) ⟨ln, (q4 _ (by omega)).trans hln⟩ q2, fun i _ _ => q4 i (by omega), by omega⟩
theorem s_fewest {G : xa_G} {h : xa_H} {k : Nat} {n : Nat} {f ld dg : Nat → Int} {pa jo : Nat} {wa sr pu ri : Int} {mv le fi : Nat → Int} {pc kp : Nat} {mv1 le1 fi1 : Nat → Int} {pc1 : Nat} {mv2 le2 fi2 : Nat → Int} {pc2 : Nat} {bc bs : Nat}  (hC : xCW h k n f ld dg pa jo wa sr pu ri mv le fi pc kp mv1 le1 fi1 pc1 mv2 le2 fi2 pc2 bc bs) : xa_M G mX9_fewest [xa_r k] h 0 0 (fun r h' => (∃ r0, r = some (xa_i r0) ∧ sq_fewest ld dg pa jo wa sr r0) ∧ xCW h' k n f ld dg pa jo wa sr pu ri mv le fi pc kp mv1 le1 fi1 pc1 mv2 le2 fi2 pc2 bc bs ∧ (∀ i, k + 72 ≤ i → i < k + 89 → h'.1 i = h.1 i) ∧ h.2 ≤ h'.2) := by
  have hC' := hC
  obtain ⟨hX, hT, hB, hH, hW, hB9, hok, hTS, hLn, hLS, hCd, hCk, hCs⟩ := hC
  obtain ⟨ln, hln⟩ := hLn
  refine xa_mono (c_xFewest k _ ld dg pa jo wa sr pu ri hB9 hX hB hLS) ?_
  rintro r h' ⟨q1, q2, q3, q4⟩
  exact ⟨q1, hC'.mid (fun i hi => q4 i (by omega)) q3 (hTS.fr (fun i _ _ => q4 i (by omega)) (by omega)) ⟨ln, (q4 _ (by omega)).trans hln⟩ q2, fun i _ _ => q4 i (by omega), by omega⟩
theorem s_load {G : xa_G} {h : xa_H} {k : Nat} {n : Nat} {f ld dg : Nat → Int} {pa jo : Nat} {wa sr pu ri : Int} {mv le fi : Nat → Int} {pc kp : Nat} {mv1 le1 fi1 : Nat → Int} {pc1 : Nat} {mv2 le2 fi2 : Nat → Int} {pc2 : Nat} {bc bs : Nat} (p q : Int) (h1 : xa_ok p) (h2 : xa_ok q) (hC : xCW h k n f ld dg pa jo wa sr pu ri mv le fi pc kp mv1 le1 fi1 pc1 mv2 le2 fi2 pc2 bc bs) : xa_M G mX9_load [xa_r k, xa_i p, xa_i q] h 0 0 (fun r h' => r = some (xa_i (if (0 ≤ p ∧ p ≤ (pa : Int) - 1) ∧ 0 ≤ q ∧ q ≤ 2 then sp_ld ld p q else -1)) ∧ xCW h' k n f ld dg pa jo wa sr pu ri mv le fi pc kp mv1 le1 fi1 pc1 mv2 le2 fi2 pc2 bc bs ∧ (∀ i, k + 72 ≤ i → i < k + 89 → h'.1 i = h.1 i) ∧ h.2 ≤ h'.2) := by
  have hC' := hC
  obtain ⟨hX, hT, hB, hH, hW, hB9, hok, hTS, hLn, hLS, hCd, hCk, hCs⟩ := hC
  obtain ⟨ln, hln⟩ := hLn
  have h0 := hB9.1
  have hwq := hB9.wag
  have hwa : xa_ok wa := by omega
  refine xa_mono (c_xLoad k _ ld dg pa jo wa sr pu ri p q h1 h2 (by omega) hX hB) ?_
  rintro r h' ⟨q1, q2⟩
  subst q2
  exact ⟨q1, hC', fun _ _ _ => rfl, Nat.le_refl _⟩
theorem s_joint {G : xa_G} {h : xa_H} {k : Nat} {n : Nat} {f ld dg : Nat → Int} {pa jo : Nat} {wa sr pu ri : Int} {mv le fi : Nat → Int} {pc kp : Nat} {mv1 le1 fi1 : Nat → Int} {pc1 : Nat} {mv2 le2 fi2 : Nat → Int} {pc2 : Nat} {bc bs : Nat} (p q : Int) (h1 : xa_ok p) (h2 : xa_ok q) (hC : xCW h k n f ld dg pa jo wa sr pu ri mv le fi pc kp mv1 le1 fi1 pc1 mv2 le2 fi2 pc2 bc bs) : xa_M G mX9_joint [xa_r k, xa_i p, xa_i q] h 0 0 (fun r h' => r = some (xa_i (if (0 ≤ p ∧ p ≤ (jo : Int) - 1) ∧ 0 ≤ q ∧ q ≤ 1 then (if q = 0 then sp_dg dg p else if p = wa then 1 else 0) else -1)) ∧ xCW h' k n f ld dg pa jo wa sr pu ri mv le fi pc kp mv1 le1 fi1 pc1 mv2 le2 fi2 pc2 bc bs ∧ (∀ i, k + 72 ≤ i → i < k + 89 → h'.1 i = h.1 i) ∧ h.2 ≤ h'.2) := by
  have hC' := hC
  obtain ⟨hX, hT, hB, hH, hW, hB9, hok, hTS, hLn, hLS, hCd, hCk, hCs⟩ := hC
  obtain ⟨ln, hln⟩ := hLn
  have h0 := hB9.1
  have hwq := hB9.wag
  have hwa : xa_ok wa := by omega
  refine xa_mono (c_xJointA k _ ld dg pa jo wa sr pu ri p q h1 h2 hwa (by omega) hX hB) ?_
  rintro r h' ⟨q1, q2⟩
  subst q2
  exact ⟨q1, hC', fun _ _ _ => rfl, Nat.le_refl _⟩
theorem s_begun {G : xa_G} {h : xa_H} {k : Nat} {n : Nat} {f ld dg : Nat → Int} {pa jo : Nat} {wa sr pu ri : Int} {mv le fi : Nat → Int} {pc kp : Nat} {mv1 le1 fi1 : Nat → Int} {pc1 : Nat} {mv2 le2 fi2 : Nat → Int} {pc2 : Nat} {bc bs : Nat} (q : Int) (h1 : xa_ok q) (hC : xCW h k n f ld dg pa jo wa sr pu ri mv le fi pc kp mv1 le1 fi1 pc1 mv2 le2 fi2 pc2 bc bs) : xa_M G mX9_begun [xa_r k, xa_i q] h 0 0 (fun r h' => r = some (xa_i (if q = 0 then pu else if q = 1 then ri else -10000)) ∧ xCW h' k n f ld dg pa jo wa sr pu ri mv le fi pc kp mv1 le1 fi1 pc1 mv2 le2 fi2 pc2 bc bs ∧ (∀ i, k + 72 ≤ i → i < k + 89 → h'.1 i = h.1 i) ∧ h.2 ≤ h'.2) := by
  have hC' := hC
  obtain ⟨hX, hT, hB, hH, hW, hB9, hok, hTS, hLn, hLS, hCd, hCk, hCs⟩ := hC
  obtain ⟨ln, hln⟩ := hLn
  have h0 := hB9.1
  have hwq := hB9.wag
  have hwa : xa_ok wa := by omega
  refine xa_mono (c_xBegun k _ ld dg pa jo wa sr pu ri q h1 hX hB) ?_
  rintro r h' ⟨q1, q2⟩
  subst q2
  exact ⟨q1, hC', fun _ _ _ => rfl, Nat.le_refl _⟩
theorem s_count {G : xa_G} {h : xa_H} {k : Nat} {n : Nat} {f ld dg : Nat → Int} {pa jo : Nat} {wa sr pu ri : Int} {mv le fi : Nat → Int} {pc kp : Nat} {mv1 le1 fi1 : Nat → Int} {pc1 : Nat} {mv2 le2 fi2 : Nat → Int} {pc2 : Nat} {bc bs : Nat} (q : Int) (h1 : xa_ok q) (hC : xCW h k n f ld dg pa jo wa sr pu ri mv le fi pc kp mv1 le1 fi1 pc1 mv2 le2 fi2 pc2 bc bs) : xa_M G mX9_count [xa_r k, xa_i q] h 0 0 (fun r h' => r = some (xa_i (if q = 0 then (pa : Int) else if q = 1 then (n : Int) else if q = 2 then le 0 + le 1 + le 2 + le 3 else if q = 3 then (pc : Int) else if q = 4 then ((kp : Nat) : Int) else -1)) ∧ xCW h' k n f ld dg pa jo wa sr pu ri mv le fi pc kp mv1 le1 fi1 pc1 mv2 le2 fi2 pc2 bc bs ∧ (∀ i, k + 72 ≤ i → i < k + 89 → h'.1 i = h.1 i) ∧ h.2 ≤ h'.2) := by
  have hC' := hC
  obtain ⟨hX, hT, hB, hH, hW, hB9, hok, hTS, hLn, hLS, hCd, hCk, hCs⟩ := hC
  obtain ⟨ln, hln⟩ := hLn
  have h0 := hB9.1
  have hwq := hB9.wag
  have hwa : xa_ok wa := by omega
  refine xa_mono (c_xCount k _ ld dg pa jo wa sr pu ri mv le fi pc n f q h1 hX hB hH hT) ?_
  rintro r h' ⟨q1, q2⟩
  subst q2
  exact ⟨q1, hC', fun _ _ _ => rfl, Nat.le_refl _⟩
theorem s_fall {G : xa_G} {h : xa_H} {k : Nat} {n : Nat} {f ld dg : Nat → Int} {pa jo : Nat} {wa sr pu ri : Int} {mv le fi : Nat → Int} {pc kp : Nat} {mv1 le1 fi1 : Nat → Int} {pc1 : Nat} {mv2 le2 fi2 : Nat → Int} {pc2 : Nat} {bc bs : Nat} (H : Int) (h1 : xa_ok H) (hC : xCW h k n f ld dg pa jo wa sr pu ri mv le fi pc kp mv1 le1 fi1 pc1 mv2 le2 fi2 pc2 bc bs) : xa_M G mX9_fall [xa_r k, xa_i H] h 0 0 (fun r h' => (¬ (0 ≤ H ∧ H ≤ 100000) ∧ r = some (xa_i (-1)) ∨ (0 ≤ H ∧ H ≤ 100000) ∧ ∃ t : Nat, r = some (xa_i ((t : Nat) : Int)) ∧ (t : Int) * t ≤ H ∧ H < ((t : Int) + 1) * ((t : Int) + 1)) ∧ xCW h' k n f ld dg pa jo wa sr pu ri mv le fi pc kp mv1 le1 fi1 pc1 mv2 le2 fi2 pc2 bc bs ∧ (∀ i, k + 72 ≤ i → i < k + 89 → h'.1 i = h.1 i) ∧ h.2 ≤ h'.2) := by
  have hC' := hC
  obtain ⟨hX, hT, hB, hH, hW, hB9, hok, hTS, hLn, hLS, hCd, hCk, hCs⟩ := hC
  obtain ⟨ln, hln⟩ := hLn
  have h0 := hB9.1
  have hwq := hB9.wag
  have hwa : xa_ok wa := by omega
  refine xa_mono (c_xFall k _ H h1 hX) ?_
  rintro r h' ⟨q1, q2⟩
  subst q2
  exact ⟨q1, hC', fun _ _ _ => rfl, Nat.le_refl _⟩
theorem s_write {G : xa_G} {h : xa_H} {k : Nat} {n : Nat} {f ld dg : Nat → Int} {pa jo : Nat} {wa sr pu ri : Int} {mv le fi : Nat → Int} {pc kp : Nat} {mv1 le1 fi1 : Nat → Int} {pc1 : Nat} {mv2 le2 fi2 : Nat → Int} {pc2 : Nat} {bc bs : Nat} (b v : Int) (h1 : xa_ok b) (hC : xCW h k n f ld dg pa jo wa sr pu ri mv le fi pc kp mv1 le1 fi1 pc1 mv2 le2 fi2 pc2 bc bs) : xa_M G mX9_write [xa_r k, xa_i b, xa_l v] h 0 0 (fun r h' => ((¬ (1 ≤ b ∧ b ≤ 8) ∧ r = some (xa_i (-1)) ∧ xCW h' k n f ld dg pa jo wa sr pu ri mv le fi pc kp mv1 le1 fi1 pc1 mv2 le2 fi2 pc2 bc bs) ∨ ((1 ≤ b ∧ b ≤ 8) ∧ 120 < ((n : Nat) : Int) + b ∧ r = some (xa_i (-3)) ∧ xCW h' k n f ld dg pa jo wa sr pu ri mv le fi pc kp mv1 le1 fi1 pc1 mv2 le2 fi2 pc2 bc bs) ∨ (∃ c : Nat, b = ((c : Nat) : Int) ∧ (1 ≤ c ∧ c ≤ 8) ∧ n + c ≤ 120 ∧ r = some (xa_i ((n + c : Nat) : Int)) ∧ xCW h' k (n + c) (sp_wr f n c c v) ld dg pa jo wa sr pu ri mv le fi pc kp mv1 le1 fi1 pc1 mv2 le2 fi2 pc2 bc bs)) ∧ (∀ i, k + 72 ≤ i → i < k + 89 → h'.1 i = h.1 i) ∧ h.2 ≤ h'.2) := by
  have hC' := hC
  obtain ⟨hX, hT, hB, hH, hW, hB9, hok, hTS, hLn, hLS, hCd, hCk, hCs⟩ := hC
  obtain ⟨ln, hln⟩ := hLn
  refine xa_mono (c_xWrite k _ n f b v h1 hX hT) ?_
  rintro r h' (⟨q1, q2, q3⟩ | ⟨q1, q2, q3, q4⟩ | ⟨c, q1, q2, q3, q4, q5, q6, q7⟩)
  · subst q3
    exact ⟨Or.inl ⟨q1, q2, hC'⟩, fun _ _ _ => rfl, Nat.le_refl _⟩
  · subst q4
    exact ⟨Or.inr (Or.inl ⟨q1, q2, q3, hC'⟩), fun _ _ _ => rfl, Nat.le_refl _⟩
  · exact ⟨Or.inr (Or.inr ⟨c, q1, q2, q3, q4, hC'.text (fun i hi => q7 i (by omega)) q6 q5⟩), fun i _ _ => q7 i (by omega), by omega⟩
theorem s_wipe {G : xa_G} {h : xa_H} {k : Nat} {n : Nat} {f ld dg : Nat → Int} {pa jo : Nat} {wa sr pu ri : Int} {mv le fi : Nat → Int} {pc kp : Nat} {mv1 le1 fi1 : Nat → Int} {pc1 : Nat} {mv2 le2 fi2 : Nat → Int} {pc2 : Nat} {bc bs : Nat}  (hC : xCW h k n f ld dg pa jo wa sr pu ri mv le fi pc kp mv1 le1 fi1 pc1 mv2 le2 fi2 pc2 bc bs) : xa_M G mX9_wipe [xa_r k] h 0 0 (fun r h' => r = some (xa_i ((n : Nat) : Int)) ∧ xCW h' k 0 f ld dg pa jo wa sr pu ri mv le fi pc kp mv1 le1 fi1 pc1 mv2 le2 fi2 pc2 bc bs ∧ (∀ i, k + 72 ≤ i → i < k + 89 → h'.1 i = h.1 i) ∧ h.2 ≤ h'.2) := by
  have hC' := hC
  obtain ⟨hX, hT, hB, hH, hW, hB9, hok, hTS, hLn, hLS, hCd, hCk, hCs⟩ := hC
  obtain ⟨ln, hln⟩ := hLn
  refine xa_mono (c_xWipe k _ n f hX hT) ?_
  rintro r h' ⟨q1, q2, q3, q4⟩
  exact ⟨q1, hC'.text (fun i hi => q4 i (by omega)) q3 q2, fun i _ _ => q4 i (by omega), by omega⟩
theorem s_move {G : xa_G} {h : xa_H} {k : Nat} {n : Nat} {f ld dg : Nat → Int} {pa jo : Nat} {wa sr pu ri : Int} {mv le fi : Nat → Int} {pc kp : Nat} {mv1 le1 fi1 : Nat → Int} {pc1 : Nat} {mv2 le2 fi2 : Nat → Int} {pc2 : Nat} {bc bs : Nat} (w m : Int) (h1 : xa_ok w) (h2 : xa_ok m) (hC : xCW h k n f ld dg pa jo wa sr pu ri mv le fi pc kp mv1 le1 fi1 pc1 mv2 le2 fi2 pc2 bc bs) : xa_M G mX9_move [xa_r k, xa_i w, xa_i m] h 0 0 (fun r h' => ((¬ ((0 ≤ w ∧ w ≤ 3) ∧ 0 ≤ m ∧ m ≤ 18) ∧ r = some (xa_i (-1)) ∧ xCW h' k n f ld dg pa jo wa sr pu ri mv le fi pc kp mv1 le1 fi1 pc1 mv2 le2 fi2 pc2 bc bs) ∨ (∃ wn : Nat, w = ((wn : Nat) : Int) ∧ (wn ≤ 3 ∧ 0 ≤ m ∧ m ≤ 18) ∧ le wn = 60 ∧ r = some (xa_i (-3)) ∧ xCW h' k n f ld dg pa jo wa sr pu ri mv le fi pc kp mv1 le1 fi1 pc1 mv2 le2 fi2 pc2 bc bs) ∨ (∃ wn : Nat, w = ((wn : Nat) : Int) ∧ (wn ≤ 3 ∧ 0 ≤ m ∧ m ≤ 18) ∧ le wn < 60 ∧ r = some (xa_i (le wn + 1)) ∧ xCW h' k n f ld dg pa jo wa sr pu ri (xa_upf mv (wn * 60 + (le wn).toNat) m) (xa_upf le wn (le wn + 1)) fi pc kp mv1 le1 fi1 pc1 mv2 le2 fi2 pc2 bc bs)) ∧ (∀ i, k + 72 ≤ i → i < k + 89 → h'.1 i = h.1 i) ∧ h.2 ≤ h'.2) := by
  have hC' := hC
  obtain ⟨hX, hT, hB, hH, hW, hB9, hok, hTS, hLn, hLS, hCd, hCk, hCs⟩ := hC
  obtain ⟨ln, hln⟩ := hLn
  refine xa_mono (c_xMove k _ mv le fi pc w m h1 h2 hok.2.1 hX hH) ?_
  rintro r h' (⟨q1, q2, q3⟩ | ⟨wn, q1, q2, q3, q4, q5, q6, q7⟩ | ⟨wn, q1, q2, q3, q4, q5, q6, q7⟩)
  · subst q3
    exact ⟨Or.inl ⟨q1, q2, hC'⟩, fun _ _ _ => rfl, Nat.le_refl _⟩
  · exact ⟨Or.inr (Or.inl ⟨wn, q1, q2, q3, q4, hC'.sheet (fun i hi => q7 i (by omega)) q6 q5 hok⟩), fun i _ _ => q7 i (by omega), by omega⟩
  · have hl := hok.2.1 wn
    exact ⟨Or.inr (Or.inr ⟨wn, q1, q2, q3, q4, hC'.sheet (fun i hi => q7 i (by omega)) q6 q5 ⟨xa_upf_b hok.1 (by omega), xa_upf_b hok.2.1 (by omega), hok.2.2⟩⟩), fun i _ _ => q7 i (by omega), by omega⟩
theorem s_noWay {G : xa_G} {h : xa_H} {k : Nat} {n : Nat} {f ld dg : Nat → Int} {pa jo : Nat} {wa sr pu ri : Int} {mv le fi : Nat → Int} {pc kp : Nat} {mv1 le1 fi1 : Nat → Int} {pc1 : Nat} {mv2 le2 fi2 : Nat → Int} {pc2 : Nat} {bc bs : Nat} (w : Int) (h1 : xa_ok w) (hC : xCW h k n f ld dg pa jo wa sr pu ri mv le fi pc kp mv1 le1 fi1 pc1 mv2 le2 fi2 pc2 bc bs) : xa_M G mX9_noWay [xa_r k, xa_i w] h 0 0 (fun r h' => ((¬ (0 ≤ w ∧ w ≤ 3) ∧ r = some (xa_i (-1)) ∧ xCW h' k n f ld dg pa jo wa sr pu ri mv le fi pc kp mv1 le1 fi1 pc1 mv2 le2 fi2 pc2 bc bs) ∨ (∃ wn : Nat, w = ((wn : Nat) : Int) ∧ wn ≤ 3 ∧ r = some (xa_i (le wn)) ∧ xCW h' k n f ld dg pa jo wa sr pu ri mv (xa_upf le wn 0) fi pc kp mv1 le1 fi1 pc1 mv2 le2 fi2 pc2 bc bs)) ∧ (∀ i, k + 72 ≤ i → i < k + 89 → h'.1 i = h.1 i) ∧ h.2 ≤ h'.2) := by
  have hC' := hC
  obtain ⟨hX, hT, hB, hH, hW, hB9, hok, hTS, hLn, hLS, hCd, hCk, hCs⟩ := hC
  obtain ⟨ln, hln⟩ := hLn
  refine xa_mono (c_xNoWay k _ mv le fi pc w h1 hX hH) ?_
  rintro r h' (⟨q1, q2, q3⟩ | ⟨wn, q1, q2, q3, q5, q6, q7⟩)
  · subst q3
    exact ⟨Or.inl ⟨q1, q2, hC'⟩, fun _ _ _ => rfl, Nat.le_refl _⟩
  · exact ⟨Or.inr ⟨wn, q1, q2, q3, hC'.sheet (fun i hi => q7 i (by omega)) q6 q5 ⟨hok.1, xa_upf_b hok.2.1 (by omega), hok.2.2⟩⟩, fun i _ _ => q7 i (by omega), by omega⟩
theorem fiOk_up {pa pc : Nat} {fi : Nat → Int} {a b c d : Int} (h : fiOk pa fi pc) (hp : pc < 30) (ho : ((0 ≤ a ∧ a ≤ 60) ∧ (0 ≤ b ∧ b ≤ (pa : Int) - 1) ∧ (0 ≤ c ∧ c ≤ 359) ∧ 0 ≤ d ∧ d ≤ 90)) : fiOk pa (xa_upf (xa_upf (xa_upf (xa_upf fi (pc * 4) a) (pc * 4 + 1) b) (pc * 4 + 2) c) (pc * 4 + 3) d) (pc + 1) := by
  refine ⟨by omega, fun n hn => ?_⟩
  by_cases e : n = pc
  · subst e
    rw [show 4 * n = n * 4 by omega, xa_upf_at, xa_upf_ne _ _ (show n * 4 + 2 ≠ n * 4 + 3 by omega), xa_upf_at, xa_upf_ne _ _ (show n * 4 + 1 ≠ n * 4 + 3 by omega), xa_upf_ne _ _ (show n * 4 + 1 ≠ n * 4 + 2 by omega), xa_upf_at, xa_upf_ne _ _ (show n * 4 ≠ n * 4 + 3 by omega), xa_upf_ne _ _ (show n * 4 ≠ n * 4 + 2 by omega), xa_upf_ne _ _ (show n * 4 ≠ n * 4 + 1 by omega), xa_upf_at]
    exact ⟨ho.1, ho.2.1, ho.2.2.1, ho.2.2.2⟩
  · have k : ∀ j, j < 4 → (xa_upf (xa_upf (xa_upf (xa_upf fi (pc * 4) a) (pc * 4 + 1) b) (pc * 4 + 2) c) (pc * 4 + 3) d) (4 * n + j) = fi (4 * n + j) := fun j hj => by
      rw [xa_upf_ne _ _ (by omega), xa_upf_ne _ _ (by omega), xa_upf_ne _ _ (by omega), xa_upf_ne _ _ (by omega)]
    rw [show 4 * n = 4 * n + 0 from rfl, k 0 (by decide)]
    rw [show 4 * n + 0 + 1 = 4 * n + 1 from rfl, k 1 (by decide), show 4 * n + 0 + 2 = 4 * n + 2 from rfl, k 2 (by decide), show 4 * n + 0 + 3 = 4 * n + 3 from rfl, k 3 (by decide)]
    exact h.2 n (by omega)
theorem s_picture {G : xa_G} {h : xa_H} {k : Nat} {n : Nat} {f ld dg : Nat → Int} {pa jo : Nat} {wa sr pu ri : Int} {mv le fi : Nat → Int} {pc kp : Nat} {mv1 le1 fi1 : Nat → Int} {pc1 : Nat} {mv2 le2 fi2 : Nat → Int} {pc2 : Nat} {bc bs : Nat} (a b c d : Int) (h1 : xa_ok a) (h2 : xa_ok b) (h3 : xa_ok c) (h4 : xa_ok d) (hC : xCW h k n f ld dg pa jo wa sr pu ri mv le fi pc kp mv1 le1 fi1 pc1 mv2 le2 fi2 pc2 bc bs) : xa_M G mX9_picture [xa_r k, xa_i a, xa_i b, xa_i c, xa_i d] h 0 0 (fun r h' => ((¬ ((0 ≤ a ∧ a ≤ 60) ∧ (0 ≤ b ∧ b ≤ (pa : Int) - 1) ∧ (0 ≤ c ∧ c ≤ 359) ∧ 0 ≤ d ∧ d ≤ 90) ∧ r = some (xa_i (-1)) ∧ xCW h' k n f ld dg pa jo wa sr pu ri mv le fi pc kp mv1 le1 fi1 pc1 mv2 le2 fi2 pc2 bc bs) ∨ (((0 ≤ a ∧ a ≤ 60) ∧ (0 ≤ b ∧ b ≤ (pa : Int) - 1) ∧ (0 ≤ c ∧ c ≤ 359) ∧ 0 ≤ d ∧ d ≤ 90) ∧ pc = 30 ∧ r = some (xa_i (-3)) ∧ xCW h' k n f ld dg pa jo wa sr pu ri mv le fi pc kp mv1 le1 fi1 pc1 mv2 le2 fi2 pc2 bc bs) ∨ (((0 ≤ a ∧ a ≤ 60) ∧ (0 ≤ b ∧ b ≤ (pa : Int) - 1) ∧ (0 ≤ c ∧ c ≤ 359) ∧ 0 ≤ d ∧ d ≤ 90) ∧ pc < 30 ∧ r = some (xa_i ((pc + 1 : Nat) : Int)) ∧ xCW h' k n f ld dg pa jo wa sr pu ri mv le (xa_upf (xa_upf (xa_upf (xa_upf fi (pc * 4) a) (pc * 4 + 1) b) (pc * 4 + 2) c) (pc * 4 + 3) d) (pc + 1) kp mv1 le1 fi1 pc1 mv2 le2 fi2 pc2 bc bs)) ∧ (∀ i, k + 72 ≤ i → i < k + 89 → h'.1 i = h.1 i) ∧ h.2 ≤ h'.2) := by
  have hC' := hC
  obtain ⟨hX, hT, hB, hH, hW, hB9, hok, hTS, hLn, hLS, hCd, hCk, hCs⟩ := hC
  obtain ⟨ln, hln⟩ := hLn
  have h0 := hB9.1
  refine xa_mono (c_xPicture k _ ld dg pa jo wa sr pu ri mv le fi pc a b c d h1 h2 h3 h4 (by omega) hok.2.2.1 hX hB hH) ?_
  rintro r h' (⟨q1, q2, q3⟩ | ⟨q1, q2, q3, q5, q6, q7⟩ | ⟨q1, q2, q3, q5, q6, q7⟩)
  · subst q3
    exact ⟨Or.inl ⟨q1, q2, hC'⟩, fun _ _ _ => rfl, Nat.le_refl _⟩
  · exact ⟨Or.inr (Or.inl ⟨q1, q2, q3, hC'.sheet (fun i hi => q7 i (by omega)) q6 q5 hok⟩), fun i _ _ => q7 i (by omega), by omega⟩
  · exact ⟨Or.inr (Or.inr ⟨q1, q2, q3, hC'.sheet (fun i hi => q7 i (by omega)) q6 q5 ⟨hok.1, hok.2.1, fiOk_up hok.2.2 q2 q1⟩⟩), fun i _ _ => q7 i (by omega), by omega⟩
theorem s_noFilm {G : xa_G} {h : xa_H} {k : Nat} {n : Nat} {f ld dg : Nat → Int} {pa jo : Nat} {wa sr pu ri : Int} {mv le fi : Nat → Int} {pc kp : Nat} {mv1 le1 fi1 : Nat → Int} {pc1 : Nat} {mv2 le2 fi2 : Nat → Int} {pc2 : Nat} {bc bs : Nat}  (hC : xCW h k n f ld dg pa jo wa sr pu ri mv le fi pc kp mv1 le1 fi1 pc1 mv2 le2 fi2 pc2 bc bs) : xa_M G mX9_noFilm [xa_r k] h 0 0 (fun r h' => r = some (xa_i ((pc : Nat) : Int)) ∧ xCW h' k n f ld dg pa jo wa sr pu ri mv le fi 0 kp mv1 le1 fi1 pc1 mv2 le2 fi2 pc2 bc bs ∧ (∀ i, k + 72 ≤ i → i < k + 89 → h'.1 i = h.1 i) ∧ h.2 ≤ h'.2) := by
  have hC' := hC
  obtain ⟨hX, hT, hB, hH, hW, hB9, hok, hTS, hLn, hLS, hCd, hCk, hCs⟩ := hC
  obtain ⟨ln, hln⟩ := hLn
  refine xa_mono (c_xNoFilm k _ mv le fi pc hX hH) ?_
  rintro r h' ⟨q1, q5, q6, q7⟩
  exact ⟨q1, hC'.sheet (fun i hi => q7 i (by omega)) q6 q5 ⟨hok.1, hok.2.1, Nat.zero_le _, fun n hn => absurd hn (Nat.not_lt_zero _)⟩, fun i _ _ => q7 i (by omega), by omega⟩
