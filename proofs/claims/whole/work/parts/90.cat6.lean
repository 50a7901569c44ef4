/-! The class: soon, saved, worth -/
theorem mm_le {m : Nat} {H : Int} (h : ((m : Nat) : Int) * m ≤ H) (h2 : H ≤ 100000) : m ≤ 100000 := by
  by_cases e : m = 0
  · omega
  · have k := Int.mul_le_mul_of_nonneg_right (show (1 : Int) ≤ (m : Int) by omega) (show (0 : Int) ≤ (m : Int) by omega)
    omega
theorem kJ_m (jo : Nat) : kJ jo (-1) = if jo = 1 then 1 else 3 := by unfold kJ; rw [if_neg (by decide), if_neg (by decide)]
theorem kJ_0 (jo : Nat) : kJ jo 0 = if jo = 1 then 0 else 2 := by unfold kJ; rw [if_pos rfl]
theorem kJ_1 (jo : Nat) : kJ jo 1 = 1 := by unfold kJ; rw [if_neg (by decide), if_pos rfl]
/-- a search's own places -/
def own (a l r m i : Nat) : Prop := (a ≤ i ∧ i < a + 12) ∨ i = l ∨ i = r ∨ i = m
def SQ (x b l r m : Nat) : Prop := (x < b ∨ b + 12 ≤ x) ∧ x ≠ l ∧ x ≠ r ∧ x ≠ m
def SP (a l r m b l2 r2 m2 : Nat) : Prop := (a + 12 ≤ b ∨ b + 12 ≤ a) ∧ (SQ l b l2 r2 m2 ∧ SQ r b l2 r2 m2 ∧ SQ m b l2 r2 m2) ∧ ((l2 < a ∨ a + 12 ≤ l2) ∧ (r2 < a ∨ a + 12 ≤ r2) ∧ (m2 < a ∨ a + 12 ≤ m2))
theorem SP.symm {a l r m b l2 r2 m2 : Nat} (h : SP a l r m b l2 r2 m2) : SP b l2 r2 m2 a l r m := by
  obtain ⟨h1, ⟨⟨a1, a2, a3, a4⟩, ⟨b1, b2, b3, b4⟩, c1, c2, c3, c4⟩, d1, d2, d3⟩ := h
  exact ⟨h1.symm, ⟨⟨d1, Ne.symm a2, Ne.symm b2, Ne.symm c2⟩, ⟨d2, Ne.symm a3, Ne.symm b3, Ne.symm c3⟩, d3, Ne.symm a4, Ne.symm b4, Ne.symm c4⟩, a1, b1, c1⟩
theorem SP.out {a l r m b l2 r2 m2 i : Nat} (h : SP a l r m b l2 r2 m2) (hi : own b l2 r2 m2 i) : (i < a ∨ a + 12 ≤ i) ∧ i ≠ l ∧ i ≠ r ∧ i ≠ m := by
  obtain ⟨h1, ⟨⟨a1, a2, a3, a4⟩, ⟨b1, b2, b3, b4⟩, c1, c2, c3, c4⟩, d1, d2, d3⟩ := h
  rcases hi with hi | rfl | rfl | rfl
  · refine ⟨by omega, ?_, ?_, ?_⟩ <;> omega
  · exact ⟨d1, Ne.symm a2, Ne.symm b2, Ne.symm c2⟩
  · exact ⟨d2, Ne.symm a3, Ne.symm b3, Ne.symm c3⟩
  · exact ⟨d3, Ne.symm a4, Ne.symm b4, Ne.symm c4⟩
theorem SQ.new {x x' b l r m n : Nat} (h : SQ x b l r m) (hx : x' = x ∨ n ≤ x') (hb : b + 12 ≤ n) (h1 : l < n) (h2 : r < n) (h3 : m < n) : SQ x' b l r m := by
  rcases hx with rfl | hx
  · exact h
  · exact ⟨by omega, by omega, by omega, by omega⟩
theorem SP.new {a l r m b l2 r2 m2 l' r' m' n : Nat} (h : SP a l r m b l2 r2 m2) (hb : b + 12 ≤ n) (h1 : l2 < n) (h2 : r2 < n) (h3 : m2 < n) (e1 : l' = l ∨ n ≤ l') (e2 : r' = r ∨ n ≤ r') (e3 : m' = m ∨ n ≤ m') : SP a l' r' m' b l2 r2 m2 :=
  ⟨h.1, ⟨h.2.1.1.new e1 hb h1 h2 h3, h.2.1.2.1.new e2 hb h1 h2 h3, h.2.1.2.2.new e3 hb h1 h2 h3⟩, h.2.2⟩
section XSA
variable {h h1 : xa_H} {k kb kl kbr kam nl na : Nat} {sj rdy op ti : Int} {tk : Nat → Int} {ld dg : Nat → Int} {pa jo : Nat} {wa sr pu ri : Int}
theorem xSpl.fr {nb : Nat} (hS : xSpl h k kb kl kbr kam nl nb na) (hn : h.2 ≤ h1.2) : xSpl h1 k kb kl kbr kam nl nb na := by
  obtain ⟨a1, ⟨a2, a3, a4⟩, ⟨a5, a6, a7⟩, a8⟩ := hS
  exact ⟨a1, ⟨a2, a3, by omega⟩, ⟨by omega, by omega, by omega⟩, a8⟩
theorem xSC.fr {nb ns : Nat} {pl lw br am po sp lk tk en : Nat → Int} {tj tb fi la lo an fs lst : Int} (hf : ∀ i, own k kl kbr kam i → h1.1 i = h.1 i) (hS : xSC h k kb kl kbr kam nl nb na ns pl lw br am po sp lk tk en sj tj tb rdy op fi la lo ti an fs lst) : xSC h1 k kb kl kbr kam nl nb na ns pl lw br am po sp lk tk en sj tj tb rdy op fi la lo ti an fs lst := by
  obtain ⟨c1, c2, c3, c4, c5, c6, c7, c8, c9, c10, c11, c12⟩ := hS
  exact ⟨(hf _ (Or.inl ⟨by omega, by omega⟩)).trans c1, (hf _ (Or.inl ⟨by omega, by omega⟩)).trans c2, (hf _ (Or.inl ⟨by omega, by omega⟩)).trans c3, (hf _ (Or.inr (Or.inl rfl))).trans c4, (hf _ (Or.inl ⟨by omega, by omega⟩)).trans c5, (hf _ (Or.inl ⟨by omega, by omega⟩)).trans c6, (hf _ (Or.inl ⟨by omega, by omega⟩)).trans c7, (hf _ (Or.inr (Or.inr (Or.inl rfl)))).trans c8, (hf _ (Or.inr (Or.inr (Or.inr rfl)))).trans c9, (hf _ (Or.inl ⟨by omega, by omega⟩)).trans c10, (hf _ (Or.inl ⟨by omega, by omega⟩)).trans c11, (hf _ (Or.inl ⟨by omega, by omega⟩)).trans c12⟩
theorem xSR.fr (hf : ∀ i, own k kl kbr kam i → h1.1 i = h.1 i) (hn : h.2 ≤ h1.2) (hS : xSR h k kb kl kbr kam nl na sj ld dg pa jo wa sr pu ri tk op ti) : xSR h1 k kb kl kbr kam nl na sj ld dg pa jo wa sr pu ri tk op ti := by
  obtain ⟨a1, a2, a3, pl, lw, br, am, po, sp, lk, en, tj, tb, fi, la, lo, Q, P, M, D, n, kk, h4, h5, h6, h7, h8, h9⟩ := hS
  exact ⟨a1.fr hn, a2, a3, pl, lw, br, am, po, sp, lk, en, tj, tb, fi, la, lo, Q, P, M, D, n, kk, h4, h5, h6, h7, h8, h9.fr hf⟩
theorem xSN.fr (hf : ∀ i, own k kl kbr kam i → h1.1 i = h.1 i) (hn : h.2 ≤ h1.2) (hS : xSN h k kb kl kbr kam nl na sj) : xSN h1 k kb kl kbr kam nl na sj := by
  obtain ⟨a1, ns, pl, lw, br, am, po, sp, lk, tk, en, tj, tb, op, fi, la, lo, ti, an, fs, lst, h2, h3, h4⟩ := hS
  exact ⟨a1.fr hn, ns, pl, lw, br, am, po, sp, lk, tk, en, tj, tb, op, fi, la, lo, ti, an, fs, lst, h2, h3, h4.fr hf⟩
theorem xSA.fr (hf : ∀ i, own k kl kbr kam i → h1.1 i = h.1 i) (hn : h.2 ≤ h1.2) (hS : xSA h k kb kl kbr kam nl na sj rdy ld dg pa jo wa sr pu ri) : xSA h1 k kb kl kbr kam nl na sj rdy ld dg pa jo wa sr pu ri := by
  rcases hS with ⟨e, tk, op, ti, hR⟩ | ⟨e, hN⟩
  · exact Or.inl ⟨e, tk, op, ti, hR.fr hf hn⟩
  · exact Or.inr ⟨e, hN.fr hf hn⟩
theorem own.lt (hS : xSA h k kb kl kbr kam nl na sj rdy ld dg pa jo wa sr pu ri) {i : Nat} (hi : own k kl kbr kam i) : i < h.2 := by
  obtain ⟨p1, p2, p3, p4, p5, p6, p7⟩ := hS.spl.lt
  rcases hi with hi | rfl | rfl | rfl <;> omega
/-- what lay leaves of a search -/
theorem xSA.forgot (hS : xSA h k kb kl kbr kam nl na sj rdy ld dg pa jo wa sr pu ri) : ∃ op fi la lo ti an : Int, h.1 k = xa_o 3 [xa_r kb, xa_r (k + 4), xa_r (k + 1), xa_r (k + 2), xa_r kl, xa_i rdy, xa_i op, xa_i fi, xa_i la, xa_i lo, xa_i ti, xa_i an] ∧ ∀ h1 : xa_H, (∀ i, i ≠ k → own k kl kbr kam i → h1.1 i = h.1 i) → h.2 ≤ h1.2 → h1.1 k = xa_o 3 [xa_r kb, xa_r (k + 4), xa_r (k + 1), xa_r (k + 2), xa_r kl, xa_i 0, xa_i op, xa_i fi, xa_i la, xa_i lo, xa_i ti, xa_i an] → xSN h1 k kb kl kbr kam nl na sj := by
  have hPL := hS.spl.1
  rcases hS with ⟨e, tk, op, ti, a1, a2, a3, pl, lw, br, am, po, sp, lk, en, tj, tb, fi, la, lo, Q, P, M, D, n, kk, h4, h5, h6, h7, h8, c1, c2, c3, c4, c5, c6, c7, c8, c9, c10, c11, c12⟩ | ⟨e, a1, ns, pl, lw, br, am, po, sp, lk, tk, en, tj, tb, op, fi, la, lo, ti, an, fs, lst, h2, h3, c1, c2, c3, c4, c5, c6, c7, c8, c9, c10, c11, c12⟩
  · subst e
    refine ⟨_, _, _, _, _, _, c1, fun h1 hf hn g => ⟨a1.fr hn, _, pl, lw, br, am, po, sp, lk, tk, en, tj, tb, _, _, _, _, _, _, _, _, h4.2.2.2.2, h6, g, (hf _ (by omega) (Or.inl ⟨by omega, by omega⟩)).trans c2, (hf _ (by omega) (Or.inl ⟨by omega, by omega⟩)).trans c3, (hf _ (Ne.symm (hPL.l 0 (by decide) (by decide))) (Or.inr (Or.inl rfl))).trans c4, (hf _ (by omega) (Or.inl ⟨by omega, by omega⟩)).trans c5, (hf _ (by omega) (Or.inl ⟨by omega, by omega⟩)).trans c6, (hf _ (by omega) (Or.inl ⟨by omega, by omega⟩)).trans c7, (hf _ (Ne.symm (hPL.r 0 (by decide) (by decide))) (Or.inr (Or.inr (Or.inl rfl)))).trans c8, (hf _ (Ne.symm (hPL.a 0 (by decide) (by decide))) (Or.inr (Or.inr (Or.inr rfl)))).trans c9, (hf _ (by omega) (Or.inl ⟨by omega, by omega⟩)).trans c10, (hf _ (by omega) (Or.inl ⟨by omega, by omega⟩)).trans c11, (hf _ (by omega) (Or.inl ⟨by omega, by omega⟩)).trans c12⟩⟩
  · subst e
    refine ⟨_, _, _, _, _, _, c1, fun h1 hf hn g => ⟨a1.fr hn, _, pl, lw, br, am, po, sp, lk, tk, en, tj, tb, _, _, _, _, _, _, _, _, h2, h3, g, (hf _ (by omega) (Or.inl ⟨by omega, by omega⟩)).trans c2, (hf _ (by omega) (Or.inl ⟨by omega, by omega⟩)).trans c3, (hf _ (Ne.symm (hPL.l 0 (by decide) (by decide))) (Or.inr (Or.inl rfl))).trans c4, (hf _ (by omega) (Or.inl ⟨by omega, by omega⟩)).trans c5, (hf _ (by omega) (Or.inl ⟨by omega, by omega⟩)).trans c6, (hf _ (by omega) (Or.inl ⟨by omega, by omega⟩)).trans c7, (hf _ (Ne.symm (hPL.r 0 (by decide) (by decide))) (Or.inr (Or.inr (Or.inl rfl)))).trans c8, (hf _ (Ne.symm (hPL.a 0 (by decide) (by decide))) (Or.inr (Or.inr (Or.inr rfl)))).trans c9, (hf _ (by omega) (Or.inl ⟨by omega, by omega⟩)).trans c10, (hf _ (by omega) (Or.inl ⟨by omega, by omega⟩)).trans c11, (hf _ (by omega) (Or.inl ⟨by omega, by omega⟩)).trans c12⟩⟩
theorem xtk_of (hB : vB ld dg pa jo wa sr pu ri) (hsj : -1 ≤ sj ∧ sj < (jo : Int)) (hS : xSR h k kb kl kbr kam nl na sj ld dg pa jo wa sr pu ri tk op ti) {t : Nat} (ht : t < 360) (hd : tk t ≠ -1 ∨ op = 0) : (-1 ≤ tk t ∧ tk t ≤ 200) ∧ ∃ v, (tk t = -1 ∧ v = -4 ∨ 0 ≤ tk t ∧ v = tk t) ∧ tk_is ld dg pa jo wa sr pu ri (kJ jo sj) ((t : Nat) : Int) v := by
  obtain ⟨a1, a2, a3, pl, lw, br, am, po, sp, lk, en, tj, tb, fi, la, lo, Q, P, M, D, n, kk, h4, h5, h6, h7, h8, h9⟩ := hS
  have hb := sI_b h8 ht
  have e := sI_tk hB hsj h8 ht hd
  refine ⟨hb, _, ?_, e⟩
  split <;> omega
theorem xtk_B (hB : vB ld dg pa jo wa sr pu ri) (hsj : -1 ≤ sj ∧ sj < (jo : Int)) (hS : xSR h k kb kl kbr kam nl na sj ld dg pa jo wa sr pu ri tk op ti) {t m : Nat} (ht : t < 360) (hd : op = 0 ∨ (m : Int) ≤ ti) : (0 ≤ tk t ∧ tk t ≤ (m : Int)) ↔ tk_B ld dg pa jo wa sr pu ri (kJ jo sj) (t : Int) m := by
  obtain ⟨a1, a2, a3, pl, lw, br, am, po, sp, lk, en, tj, tb, fi, la, lo, Q, P, M, D, n, kk, h4, h5, h6, h7, h8, h9⟩ := hS
  exact sI_B hB hsj h8 ht hd
end XSA
/-- a search that is ready, its rows where they were or new -/
def xSF (h' : xa_H) (n0 a kb kl kbr kam nl na : Nat) (sj : Int) (ld dg : Nat → Int) (pa jo : Nat) (wa sr pu ri : Int) : Prop := ∃ kl' kbr' kam' : Nat, xSA h' a kb kl' kbr' kam' nl na sj 1 ld dg pa jo wa sr pu ri ∧ (kl' = kl ∨ n0 ≤ kl') ∧ (kbr' = kbr ∨ n0 ≤ kbr') ∧ (kam' = kam ∨ n0 ≤ kam')

theorem c_xSoon {G : xa_G} {h : xa_H} (k : Nat) (kp : Int) (ld dg : Nat → Int) (pa jo : Nat) (wa sr pu ri : Int) (t i : Int) (h1 : xa_ok t) (h2 : xa_ok i) (hag : (0 ≤ t ∧ t ≤ 359) ∧ -1 ≤ i) (kl kbr kam nl na : Nat) (rdy : Int) (hB9 : vB ld dg pa jo wa sr pu ri) (hX : xX0 h k kp) (hB : xB h (k + 3) ld dg pa jo wa sr pu ri) (hS : xSA h (k + 36) (k + 3) kl kbr kam nl na (-1) rdy ld dg pa jo wa sr pu ri)  : xa_M G mX9_soon [xa_r k, xa_i t, xa_i i] h (kC rdy na nl (kN pa jo wa sr (-1))).1 (kC rdy na nl (kN pa jo wa sr (-1))).2 (fun r h' => (∃ r0, r = some (xa_i r0) ∧ sq_soon ld dg pa jo wa sr pu ri t i r0) ∧ xSF h' h.2 (k + 36) (k + 3) kl kbr kam (kNl rdy nl (kN pa jo wa sr (-1))) (kNa rdy na (kN pa jo wa sr (-1))) (-1) ld dg pa jo wa sr pu ri ∧ h'.2 = h.2 + (kC rdy na nl (kN pa jo wa sr (-1))).1 ∧ ∀ i, ((i < k + 36 ∨ k + 48 ≤ i) ∧ i ≠ kl ∧ i ≠ kbr ∧ i ≠ kam ∧ i < h.2) → h'.1 i = h.1 i) := by
  refine xa_enter (by decide +kernel) (Nat.le_of_ble_eq_true rfl) ?_
  refine xa_locals (ls' := [some (xa_r k), some (xa_i t), some (xa_i i), none]) rfl ?_
  have hn : h.2 = h.2 := rfl
  have fr : ∀ i, ((i < k + 36 ∨ k + 48 ≤ i) ∧ i ≠ kl ∧ i ≠ kbr ∧ i ≠ kam ∧ i < h.2) → h.1 i = h.1 i := fun _ _ => rfl
  obtain ⟨hX0, hk, hkn⟩ := hX
  have hB' := hB
  obtain ⟨hB0, hB1, hB2, hBk, hBn⟩ := hB
  have h0' := hB9.1
  obtain ⟨fs, hE⟩ := hS.cell
  obtain ⟨p1, p2, p3, p4, p5, p6, p7⟩ := hS.spl.lt
  have hPL := hS.spl.1
  have g1 : k + 36 < kl := by have := hPL.2.1; omega
  have g2 : k + 36 < kbr := by have := hPL.2.2.1; omega
  have g3 : k + 36 < kam := by have := hPL.2.2.2.1; omega
  clear hPL
  refine xa_iload_n (pc := 0) dX9_soon_0 rfl ?_
  refine xa_callS (pc := 1) (as := [xa_i t]) (rest := []) dX9_soon_1 ⟨qX9_isTurn.1, qX9_isTurn.2.1, qX9_isTurn.2.2, by decide, by decide⟩ lkRX9_163 smX9_isTurn rfl rfl (Nat.le_of_ble_eq_true rfl) (Nat.zero_le _) (Nat.zero_le _) (c_isTurn _ ⟨by omega, by omega⟩) (fun r h' hq => ?_)
  obtain ⟨rfl, hq⟩ := hq
  have hq := hq.symm
  subst hq
  refine xa_if_eq (pc := 4) (tgt := 12) dX9_soon_4 (by decide) xa_okb (fun c_4 => ?_) (fun c_4 => ?_)
  · have c_4 := xa_b0.mp c_4
    exfalso; omega
  · have c_4 := xa_b1.mp c_4
    refine xa_iload_n (pc := 7) dX9_soon_7 rfl ?_
    refine xa_iconst (pc := 8) dX9_soon_8 ?_
    refine xa_icmp_ge (pc := 9) (tgt := 14) dX9_soon_9 (by decide) ⟨by omega, by omega⟩ (by decide) (fun c_9 => ?_) (fun c_9 => ?_)
    · skip
      obtain ⟨tn, rfl⟩ : ∃ z : Nat, t = (z : Int) := ⟨t.toNat, by omega⟩
      refine xa_aload_n (pc := 14) dX9_soon_14 rfl ?_
      refine xa_getfield (pc := 15) dX9_soon_15 flRX9_71 (by omega) (by omega) hX0 rfl ?_
      refine xa_iload_n (pc := 18) dX9_soon_18 rfl ?_
      refine xa_callV (pc := 19) (as := [xa_i ((tn : Nat) : Int)]) (rest := []) dX9_soon_19 ⟨qX3_ticksFrom.1, qX3_ticksFrom.2.1, qX3_ticksFrom.2.2, by decide, by decide⟩ lkRX9_201 imX3_ticksFrom seX3_ticksFrom rfl rfl (by omega) (by omega) hE rfl (Nat.le_of_ble_eq_true rfl) (Nat.le_refl _) (Nat.le_refl _) (c_ticksFrom (k + 36) (k + 3) kl kbr kam nl na (-1) rdy ld dg pa jo wa sr pu ri hB9 (by omega) hS hB' tn (by omega)) (fun r h' hq => ?_)
      obtain ⟨⟨kl', kbr', kam', nl', na', tk', op', ti', hnl', hna', hR, rfl, hop, hx1, hx2, hx3⟩, hqn, hqf⟩ := hq
      have hX0 : h'.1 k = xa_o 9 [xa_r (k + 1), xa_r (k + 3), xa_r (k + 6), xa_r (k + 9), xa_r (k + 11), xa_r (k + 15), xa_i kp, xa_r (k + 24), xa_r (k + 31), xa_r (k + 32), xa_r (k + 36), xa_r (k + 48), xa_r (k + 60)] := (hqf _ (by omega)).trans hX0
      have hB0 : h'.1 (k + 3) = xa_o 0 [xa_r (k + 3 + 1), xa_r (k + 3 + 2), xa_i ((pa : Nat) : Int), xa_i ((jo : Nat) : Int), xa_i wa, xa_i sr, xa_i pu, xa_i ri] := (hqf _ (by omega)).trans hB0
      have hB1 : h'.1 (k + 3 + 1) = xa_a 9 ld := (hqf _ (by omega)).trans hB1
      have hB2 : h'.1 (k + 3 + 2) = xa_a 2 dg := (hqf _ (by omega)).trans hB2
      obtain ⟨fs1, hE⟩ := (show xSA h' (k + 36) (k + 3) _ _ _ _ _ (-1) 1 ld dg pa jo wa sr pu ri from Or.inl ⟨rfl, _, _, _, hR⟩).cell
      have hn : h'.2 = h.2 + (kC rdy na nl (kN pa jo wa sr (-1))).1 := hqn
      have fr : ∀ i, ((i < k + 36 ∨ k + 48 ≤ i) ∧ i ≠ kl ∧ i ≠ kbr ∧ i ≠ kam ∧ i < h.2) → h'.1 i = h.1 i := hqf
      obtain ⟨htb, v0, hv0, htk⟩ := xtk_of hB9 (by omega) hR (t := tn) (by omega) hop
      rw [kJ_m] at htk
      refine xa_bud 0 0 (by omega) (by omega) ?_
      refine xa_istoren (pc := 22) [some (xa_r k), some (xa_i ((tn : Nat) : Int)), some (xa_i i), some (xa_i (tk' tn))] dX9_soon_22 (by decide) (Nat.le_of_ble_eq_true rfl) rfl rfl ?_
      refine xa_iload_n (pc := 23) dX9_soon_23 rfl ?_
      refine xa_if_lt (pc := 24) (tgt := 32) dX9_soon_24 (by decide) ⟨by omega, by omega⟩ (fun c_24 => ?_) (fun c_24 => ?_)
      · skip
        refine xa_bipush (pc := 32) dX9_soon_32 rfl ?_
        refine xa_ireturn (pc := 34) dX9_soon_34 rfl trivial ?_
        exact ⟨⟨_, rfl, Or.inr ⟨by omega, v0, htk, Or.inl ⟨by omega, by split <;> omega⟩⟩⟩, ⟨kl', kbr', kam', by rw [← hnl', ← hna']; exact Or.inl ⟨rfl, _, _, _, hR⟩, hx1, hx2, hx3⟩, hn, fr⟩
      · skip
        refine xa_iload_n (pc := 27) dX9_soon_27 rfl ?_
        refine xa_iload_n (pc := 28) dX9_soon_28 rfl ?_
        refine xa_icmp_lt (pc := 29) (tgt := 35) dX9_soon_29 (by decide) ⟨by omega, by omega⟩ ⟨by omega, by omega⟩ (fun c_29 => ?_) (fun c_29 => ?_)
        · skip
          refine xa_iload_n (pc := 35) dX9_soon_35 rfl ?_
          refine xa_if_ge (pc := 36) (tgt := 43) dX9_soon_36 (by decide) ⟨by omega, by omega⟩ (fun c_36 => ?_) (fun c_36 => ?_)
          · skip
            obtain ⟨in_, rfl⟩ : ∃ z : Nat, i = (z : Int) := ⟨i.toNat, by omega⟩
            refine xa_aload_n (pc := 43) dX9_soon_43 rfl ?_
            refine xa_getfield (pc := 44) dX9_soon_44 flRX9_71 (by omega) (by omega) hX0 rfl ?_
            refine xa_iload_n (pc := 47) dX9_soon_47 rfl ?_
            refine xa_iload_n (pc := 48) dX9_soon_48 rfl ?_
            refine xa_callV (pc := 49) (as := [xa_i ((tn : Nat) : Int), xa_i ((in_ : Nat) : Int)]) (rest := []) dX9_soon_49 ⟨qX3_moveFrom.1, qX3_moveFrom.2.1, qX3_moveFrom.2.2, by decide, by decide⟩ lkRX9_204 imX3_moveFrom seX3_moveFrom rfl rfl (by omega) (by omega) hE rfl (Nat.le_of_ble_eq_true rfl) (Nat.zero_le _) (Nat.zero_le _) (c_moveFrom (k + 36) (k + 3) kl' kbr' kam' nl' na' ld dg pa jo wa sr pu ri tk' op' ti' hB9 hR ⟨hB0, hB1, hB2, by omega, by omega⟩ tn in_ (by omega) (by omega)) (fun r h' hq => ?_)
            obtain ⟨⟨m0, rfl, hgm⟩, hR, hqn, hqf⟩ := hq
            rw [kJ_m] at hgm
            have hn : h'.2 = h.2 + (kC rdy na nl (kN pa jo wa sr (-1))).1 := hqn.trans hn
            have fr : ∀ i, ((i < k + 36 ∨ k + 48 ≤ i) ∧ i ≠ kl ∧ i ≠ kbr ∧ i ≠ kam ∧ i < h.2) → h'.1 i = h.1 i := fun i hi => (hqf i ⟨hi.1, by omega, by omega, by omega⟩).trans (fr i hi)
            refine xa_ireturn (pc := 52) dX9_soon_52 rfl trivial ?_
            exact ⟨⟨_, rfl, Or.inr ⟨by omega, v0, htk, Or.inr ⟨by omega, by rw [show ((in_ : Nat) : Int).toNat = in_ by omega, show v0.toNat = (tk' tn).toNat by omega]; exact hgm⟩⟩⟩, ⟨kl', kbr', kam', by rw [← hnl', ← hna']; exact Or.inl ⟨rfl, _, _, _, hR⟩, hx1, hx2, hx3⟩, hn, fr⟩
          · skip
            refine xa_iload_n (pc := 39) dX9_soon_39 rfl ?_
            refine xa_goto (pc := 40) (tgt := 52) dX9_soon_40 (by decide) ?_
            refine xa_ireturn (pc := 52) dX9_soon_52 rfl trivial ?_
            exact ⟨⟨_, rfl, Or.inr ⟨by omega, v0, htk, Or.inl ⟨by omega, by split <;> omega⟩⟩⟩, ⟨kl', kbr', kam', by rw [← hnl', ← hna']; exact Or.inl ⟨rfl, _, _, _, hR⟩, hx1, hx2, hx3⟩, hn, fr⟩
        · skip
          refine xa_bipush (pc := 32) dX9_soon_32 rfl ?_
          refine xa_ireturn (pc := 34) dX9_soon_34 rfl trivial ?_
          exact ⟨⟨_, rfl, Or.inr ⟨by omega, v0, htk, Or.inl ⟨by omega, by split <;> omega⟩⟩⟩, ⟨kl', kbr', kam', by rw [← hnl', ← hna']; exact Or.inl ⟨rfl, _, _, _, hR⟩, hx1, hx2, hx3⟩, hn, fr⟩
    · skip
      exfalso; omega
theorem c_xSoonB {G : xa_G} {h : xa_H} (k : Nat) (kp : Int) (t i : Int) (h1 : xa_ok t) (h2 : xa_ok i) (hag : ¬ ((0 ≤ t ∧ t ≤ 359) ∧ -1 ≤ i)) (hX : xX0 h k kp)  : xa_M G mX9_soon [xa_r k, xa_i t, xa_i i] h 0 0 (fun r h' => r = some (xa_i (-1)) ∧ h' = h) := by
  refine xa_enter (by decide +kernel) (Nat.le_of_ble_eq_true rfl) ?_
  refine xa_locals (ls' := [some (xa_r k), some (xa_i t), some (xa_i i), none]) rfl ?_
  obtain ⟨hX0, hk, hkn⟩ := hX
  refine xa_iload_n (pc := 0) dX9_soon_0 rfl ?_
  refine xa_callS (pc := 1) (as := [xa_i t]) (rest := []) dX9_soon_1 ⟨qX9_isTurn.1, qX9_isTurn.2.1, qX9_isTurn.2.2, by decide, by decide⟩ lkRX9_163 smX9_isTurn rfl rfl (Nat.le_of_ble_eq_true rfl) (Nat.zero_le _) (Nat.zero_le _) (c_isTurn _ ⟨by omega, by omega⟩) (fun r h' hq => ?_)
  obtain ⟨rfl, hq⟩ := hq
  have hq := hq.symm
  subst hq
  refine xa_if_eq (pc := 4) (tgt := 12) dX9_soon_4 (by decide) xa_okb (fun c_4 => ?_) (fun c_4 => ?_)
  · have c_4 := xa_b0.mp c_4
    refine xa_iconst (pc := 12) dX9_soon_12 ?_
    refine xa_ireturn (pc := 13) dX9_soon_13 rfl trivial ?_
    exact ⟨rfl, rfl⟩
  · have c_4 := xa_b1.mp c_4
    refine xa_iload_n (pc := 7) dX9_soon_7 rfl ?_
    refine xa_iconst (pc := 8) dX9_soon_8 ?_
    refine xa_icmp_ge (pc := 9) (tgt := 14) dX9_soon_9 (by decide) ⟨by omega, by omega⟩ (by decide) (fun c_9 => ?_) (fun c_9 => ?_)
    · skip
      exfalso; omega
    · skip
      refine xa_iconst (pc := 12) dX9_soon_12 ?_
      refine xa_ireturn (pc := 13) dX9_soon_13 rfl trivial ?_
      exact ⟨rfl, rfl⟩
theorem c_xSavedB {G : xa_G} {h : xa_H} (k : Nat) (kp : Int) (H : Int) (h1 : xa_ok H) (hag : ¬ (0 ≤ H ∧ H ≤ 100000)) (hX : xX0 h k kp)  : xa_M G mX9_saved [xa_r k, xa_i H] h 0 0 (fun r h' => r = some (xa_i (-1)) ∧ h' = h) := by
  refine xa_enter (by decide +kernel) (Nat.le_of_ble_eq_true rfl) ?_
  refine xa_locals (ls' := [some (xa_r k), some (xa_i H)]) rfl ?_
  obtain ⟨hX0, hk, hkn⟩ := hX
  refine xa_iload_n (pc := 0) dX9_saved_0 rfl ?_
  refine xa_iconst (pc := 1) dX9_saved_1 ?_
  refine xa_ldc (pc := 2) (n := 100000) dX9_saved_2 ctRX9_207 rfl ?_
  refine xa_callS (pc := 4) (as := [xa_i H, xa_i 0, xa_i 100000]) (rest := []) dX9_saved_4 ⟨qX9_isWithin.1, qX9_isWithin.2.1, qX9_isWithin.2.2, by decide, by decide⟩ lkRX9_89 smX9_isWithin rfl rfl (Nat.le_of_ble_eq_true rfl) (Nat.zero_le _) (Nat.zero_le _) (c_isWithin _ _ _ ⟨by omega, by omega⟩ (by decide) (by decide)) (fun r h' hq => ?_)
  obtain ⟨rfl, hq⟩ := hq
  have hq := hq.symm
  subst hq
  refine xa_if_eq (pc := 7) (tgt := 24) dX9_saved_7 (by decide) xa_okb (fun c_7 => ?_) (fun c_7 => ?_)
  · have c_7 := xa_b0.mp c_7
    refine xa_iconst (pc := 24) dX9_saved_24 ?_
    refine xa_ireturn (pc := 25) dX9_saved_25 rfl trivial ?_
    exact ⟨rfl, rfl⟩
  · have c_7 := xa_b1.mp c_7
    exfalso; omega
theorem c_xSaved {G : xa_G} {h : xa_H} (k : Nat) (kp : Int) (ld dg : Nat → Int) (pa jo : Nat) (wa sr pu ri : Int) (H : Int) (h1 : xa_ok H) (hag : 0 ≤ H ∧ H ≤ 100000) (kl kbr kam nl na : Nat) (rdy : Int) (hB9 : vB ld dg pa jo wa sr pu ri) (hX : xX0 h k kp) (hB : xB h (k + 3) ld dg pa jo wa sr pu ri) (hS : xSA h (k + 36) (k + 3) kl kbr kam nl na (-1) rdy ld dg pa jo wa sr pu ri)  : xa_M G mX9_saved [xa_r k, xa_i H] h (kC rdy na nl (kN pa jo wa sr (-1))).1 (kC rdy na nl (kN pa jo wa sr (-1))).2 (fun r h' => (∃ r0, r = some (xa_i r0) ∧ sq_saved ld dg pa jo wa sr pu ri H r0) ∧ xSF h' h.2 (k + 36) (k + 3) kl kbr kam (kNl rdy nl (kN pa jo wa sr (-1))) (kNa rdy na (kN pa jo wa sr (-1))) (-1) ld dg pa jo wa sr pu ri ∧ h'.2 = h.2 + (kC rdy na nl (kN pa jo wa sr (-1))).1 ∧ ∀ i, ((i < k + 36 ∨ k + 48 ≤ i) ∧ i ≠ kl ∧ i ≠ kbr ∧ i ≠ kam ∧ i < h.2) → h'.1 i = h.1 i) := by
  refine xa_enter (by decide +kernel) (Nat.le_of_ble_eq_true rfl) ?_
  refine xa_locals (ls' := [some (xa_r k), some (xa_i H)]) rfl ?_
  have hn : h.2 = h.2 := rfl
  have fr : ∀ i, ((i < k + 36 ∨ k + 48 ≤ i) ∧ i ≠ kl ∧ i ≠ kbr ∧ i ≠ kam ∧ i < h.2) → h.1 i = h.1 i := fun _ _ => rfl
  obtain ⟨hX0, hk, hkn⟩ := hX
  have hB' := hB
  obtain ⟨hB0, hB1, hB2, hBk, hBn⟩ := hB
  have h0' := hB9.1
  obtain ⟨fs, hE⟩ := hS.cell
  obtain ⟨p1, p2, p3, p4, p5, p6, p7⟩ := hS.spl.lt
  have hPL := hS.spl.1
  have g1 : k + 36 < kl := by have := hPL.2.1; omega
  have g2 : k + 36 < kbr := by have := hPL.2.2.1; omega
  have g3 : k + 36 < kam := by have := hPL.2.2.2.1; omega
  clear hPL
  refine xa_iload_n (pc := 0) dX9_saved_0 rfl ?_
  refine xa_iconst (pc := 1) dX9_saved_1 ?_
  refine xa_ldc (pc := 2) (n := 100000) dX9_saved_2 ctRX9_207 rfl ?_
  refine xa_callS (pc := 4) (as := [xa_i H, xa_i 0, xa_i 100000]) (rest := []) dX9_saved_4 ⟨qX9_isWithin.1, qX9_isWithin.2.1, qX9_isWithin.2.2, by decide, by decide⟩ lkRX9_89 smX9_isWithin rfl rfl (Nat.le_of_ble_eq_true rfl) (Nat.zero_le _) (Nat.zero_le _) (c_isWithin _ _ _ ⟨by omega, by omega⟩ (by decide) (by decide)) (fun r h' hq => ?_)
  obtain ⟨rfl, hq⟩ := hq
  have hq := hq.symm
  subst hq
  refine xa_if_eq (pc := 7) (tgt := 24) dX9_saved_7 (by decide) xa_okb (fun c_7 => ?_) (fun c_7 => ?_)
  · have c_7 := xa_b0.mp c_7
    exfalso; omega
  · have c_7 := xa_b1.mp c_7
    refine xa_aload_n (pc := 10) dX9_saved_10 rfl ?_
    refine xa_getfield (pc := 11) dX9_saved_11 flRX9_71 (by omega) (by omega) hX0 rfl ?_
    refine xa_iload_n (pc := 14) dX9_saved_14 rfl ?_
    refine xa_callS (pc := 15) (as := [xa_i H]) (rest := [xa_r (k + 36)]) dX9_saved_15 ⟨qX9_ticksOfFall.1, qX9_ticksOfFall.2.1, qX9_ticksOfFall.2.2, by decide, by decide⟩ lkRX9_208 smX9_ticksOfFall rfl rfl (Nat.le_of_ble_eq_true rfl) (Nat.zero_le _) (Nat.zero_le _) (c_ticksOfFall H (by omega)) (fun r h' hq => ?_)
    obtain ⟨⟨t, rfl, ht1, ht2⟩, hq⟩ := hq
    have hq := hq.symm
    subst hq
    refine xa_callV (pc := 18) (as := [xa_i ((t : Nat) : Int)]) (rest := []) dX9_saved_18 ⟨qX3_turnsWithin.1, qX3_turnsWithin.2.1, qX3_turnsWithin.2.2, by decide, by decide⟩ lkRX9_211 imX3_turnsWithin seX3_turnsWithin rfl rfl (by omega) (by omega) hE rfl (Nat.le_of_ble_eq_true rfl) (Nat.le_refl _) (Nat.le_refl _) (c_turnsWithin (k + 36) (k + 3) kl kbr kam nl na (-1) rdy ld dg pa jo wa sr pu ri hB9 (by omega) hS hB' t (mm_le ht1 (by omega))) (fun r h' hq => ?_)
    obtain ⟨⟨kl', kbr', kam', nl', na', tk', op', ti', hnl', hna', hR, rfl, hop, hx1, hx2, hx3⟩, hqn, hqf⟩ := hq
    have hX0 : h'.1 k = xa_o 9 [xa_r (k + 1), xa_r (k + 3), xa_r (k + 6), xa_r (k + 9), xa_r (k + 11), xa_r (k + 15), xa_i kp, xa_r (k + 24), xa_r (k + 31), xa_r (k + 32), xa_r (k + 36), xa_r (k + 48), xa_r (k + 60)] := (hqf _ (by omega)).trans hX0
    have hB0 : h'.1 (k + 3) = xa_o 0 [xa_r (k + 3 + 1), xa_r (k + 3 + 2), xa_i ((pa : Nat) : Int), xa_i ((jo : Nat) : Int), xa_i wa, xa_i sr, xa_i pu, xa_i ri] := (hqf _ (by omega)).trans hB0
    have hB1 : h'.1 (k + 3 + 1) = xa_a 9 ld := (hqf _ (by omega)).trans hB1
    have hB2 : h'.1 (k + 3 + 2) = xa_a 2 dg := (hqf _ (by omega)).trans hB2
    have hn : h'.2 = h.2 + (kC rdy na nl (kN pa jo wa sr (-1))).1 := hqn
    have fr : ∀ i, ((i < k + 36 ∨ k + 48 ≤ i) ∧ i ≠ kl ∧ i ≠ kbr ∧ i ≠ kam ∧ i < h.2) → h'.1 i = h.1 i := hqf
    refine xa_bud 0 0 (by omega) (by omega) ?_
    refine xa_goto (pc := 21) (tgt := 25) dX9_saved_21 (by decide) ?_
    refine xa_ireturn (pc := 25) dX9_saved_25 rfl trivial ?_
    exact ⟨⟨_, rfl, Or.inr ⟨by omega, t, fun z => decide (0 ≤ tk' z ∧ tk' z ≤ ((t : Nat) : Int)), ⟨ht1, ht2⟩, fun z hz => by rw [decide_eq_true_iff, ← kJ_m]; exact xtk_B hB9 (by omega) hR hz hop, rfl⟩⟩, ⟨kl', kbr', kam', by rw [← hnl', ← hna']; exact Or.inl ⟨rfl, _, _, _, hR⟩, hx1, hx2, hx3⟩, hn, fr⟩
set_option maxHeartbeats 4000000 in
theorem c_xWorth0 {G : xa_G} {h : xa_H} (k : Nat) (kp : Int) (ld dg : Nat → Int) (pa jo : Nat) (wa sr pu ri : Int) (t : Int) (h1 : xa_ok t) (hag : 0 ≤ t ∧ t ≤ 359) (kl kbr kam nl na : Nat) (rdy : Int) (hB9 : vB ld dg pa jo wa sr pu ri) (hX : xX0 h k kp) (hB : xB h (k + 3) ld dg pa jo wa sr pu ri) (hS : xSA h (k + 36) (k + 3) kl kbr kam nl na (-1) rdy ld dg pa jo wa sr pu ri) (kl2 kbr2 kam2 nl2 na2 : Nat) (rdy2 : Int) (hS2 : xSA h (k + 48) (k + 3) kl2 kbr2 kam2 nl2 na2 0 rdy2 ld dg pa jo wa sr pu ri) (hSP : SP (k + 36) kl kbr kam (k + 48) kl2 kbr2 kam2) (hj9 : 0 ≤ jo - 1)  : xa_M G mX9_worth [xa_r k, xa_i 0, xa_i t] h ((kC rdy na nl (kN pa jo wa sr (-1))).1 + (kC rdy2 na2 nl2 (kN pa jo wa sr 0)).1) ((kC rdy na nl (kN pa jo wa sr (-1))).2 + (kC rdy2 na2 nl2 (kN pa jo wa sr 0)).2) (fun r h' => (∃ r0, r = some (xa_i r0) ∧ sq_worth ld dg pa jo wa sr pu ri 0 t r0) ∧ (∃ kl' kbr' kam' kl2' kbr2' kam2' : Nat, xSA h' (k + 36) (k + 3) kl' kbr' kam' (kNl rdy nl (kN pa jo wa sr (-1))) (kNa rdy na (kN pa jo wa sr (-1))) (-1) 1 ld dg pa jo wa sr pu ri ∧ xSA h' (k + 48) (k + 3) kl2' kbr2' kam2' (kNl rdy2 nl2 (kN pa jo wa sr 0)) (kNa rdy2 na2 (kN pa jo wa sr 0)) 0 1 ld dg pa jo wa sr pu ri ∧ SP (k + 36) kl' kbr' kam' (k + 48) kl2' kbr2' kam2' ∧ (kl' = kl ∨ h.2 ≤ kl') ∧ (kbr' = kbr ∨ h.2 ≤ kbr') ∧ (kam' = kam ∨ h.2 ≤ kam') ∧ (kl2' = kl2 ∨ h.2 ≤ kl2') ∧ (kbr2' = kbr2 ∨ h.2 ≤ kbr2') ∧ (kam2' = kam2 ∨ h.2 ≤ kam2')) ∧ h'.2 = h.2 + ((kC rdy na nl (kN pa jo wa sr (-1))).1 + (kC rdy2 na2 nl2 (kN pa jo wa sr 0)).1) ∧ ∀ i, ((i < k + 36 ∨ k + 48 ≤ i) ∧ i ≠ kl ∧ i ≠ kbr ∧ i ≠ kam ∧ (i < k + 48 ∨ k + 48 + 12 ≤ i) ∧ i ≠ kl2 ∧ i ≠ kbr2 ∧ i ≠ kam2 ∧ i < h.2) → h'.1 i = h.1 i) := by
  refine xa_enter (by decide +kernel) (Nat.le_of_ble_eq_true rfl) ?_
  refine xa_locals (ls' := [some (xa_r k), some (xa_i 0), some (xa_i t), none, none]) rfl ?_
  have hn : h.2 = h.2 := rfl
  have fr : ∀ i, ((i < k + 36 ∨ k + 48 ≤ i) ∧ i ≠ kl ∧ i ≠ kbr ∧ i ≠ kam ∧ (i < k + 48 ∨ k + 48 + 12 ≤ i) ∧ i ≠ kl2 ∧ i ≠ kbr2 ∧ i ≠ kam2 ∧ i < h.2) → h.1 i = h.1 i := fun _ _ => rfl
  obtain ⟨hX0, hk, hkn⟩ := hX
  have hB' := hB
  obtain ⟨hB0, hB1, hB2, hBk, hBn⟩ := hB
  have h0' := hB9.1
  obtain ⟨fs, hE⟩ := hS.cell
  obtain ⟨p1, p2, p3, p4, p5, p6, p7⟩ := hS.spl.lt
  have hPL := hS.spl.1
  have g1 : k + 36 < kl := by have := hPL.2.1; omega
  have g2 : k + 36 < kbr := by have := hPL.2.2.1; omega
  have g3 : k + 36 < kam := by have := hPL.2.2.2.1; omega
  clear hPL
  obtain ⟨fs2, hE2⟩ := hS2.cell
  obtain ⟨q1, q2, q3, q4, q5, q6, q7⟩ := hS2.spl.lt
  have hPL := hS2.spl.1
  have g4 : k + 48 ≤ kl2 := by have := hPL.2.1; omega
  have g5 : k + 48 ≤ kbr2 := by have := hPL.2.2.1; omega
  have g6 : k + 48 ≤ kam2 := by have := hPL.2.2.2.1; omega
  clear hPL
  refine xa_aload_n (pc := 0) dX9_worth_0 rfl ?_
  refine xa_iload_n (pc := 1) dX9_worth_1 rfl ?_
  refine xa_callV (pc := 2) (as := [xa_i 0]) (rest := []) dX9_worth_2 ⟨qX9_isJoint.1, qX9_isJoint.2.1, qX9_isJoint.2.2, by decide, by decide⟩ lkRX9_134 imX9_isJoint seX9_isJoint rfl rfl (by omega) (by omega) hX0 rfl (Nat.le_of_ble_eq_true rfl) (Nat.zero_le _) (Nat.zero_le _) (c_xJoint k kp ld dg pa jo wa sr pu ri 0 (by omega) ⟨hX0, hk, by omega⟩ ⟨hB0, hB1, hB2, by omega, by omega⟩) (fun r h' hq => ?_)
  obtain ⟨rfl, hq⟩ := hq
  have hq := hq.symm
  subst hq
  refine xa_if_eq (pc := 5) (tgt := 15) dX9_worth_5 (by decide) xa_okb (fun c_5 => ?_) (fun c_5 => ?_)
  · have c_5 := xa_b0.mp c_5
    exfalso; omega
  · have c_5 := xa_b1.mp c_5
    refine xa_iload_n (pc := 8) dX9_worth_8 rfl ?_
    refine xa_callS (pc := 9) (as := [xa_i t]) (rest := []) dX9_worth_9 ⟨qX9_isTurn.1, qX9_isTurn.2.1, qX9_isTurn.2.2, by decide, by decide⟩ lkRX9_163 smX9_isTurn rfl rfl (Nat.le_of_ble_eq_true rfl) (Nat.zero_le _) (Nat.zero_le _) (c_isTurn _ ⟨by omega, by omega⟩) (fun r h' hq => ?_)
    obtain ⟨rfl, hq⟩ := hq
    have hq := hq.symm
    subst hq
    refine xa_if_ne (pc := 12) (tgt := 17) dX9_worth_12 (by decide) xa_okb (fun c_12 => ?_) (fun c_12 => ?_)
    · have c_12 := xa_b1.mp c_12
      obtain ⟨tn, rfl⟩ : ∃ z : Nat, t = (z : Int) := ⟨t.toNat, by omega⟩
      refine xa_aload_n (pc := 17) dX9_worth_17 rfl ?_
      refine xa_getfield (pc := 18) dX9_worth_18 flRX9_71 (by omega) (by omega) hX0 rfl ?_
      refine xa_iload_n (pc := 21) dX9_worth_21 rfl ?_
      refine xa_callV (pc := 22) (as := [xa_i ((tn : Nat) : Int)]) (rest := []) dX9_worth_22 ⟨qX3_ticksFrom.1, qX3_ticksFrom.2.1, qX3_ticksFrom.2.2, by decide, by decide⟩ lkRX9_201 imX3_ticksFrom seX3_ticksFrom rfl rfl (by omega) (by omega) hE rfl (Nat.le_of_ble_eq_true rfl) (Nat.le_add_right _ _) (Nat.le_add_right _ _) (c_ticksFrom (k + 36) (k + 3) kl kbr kam nl na (-1) rdy ld dg pa jo wa sr pu ri hB9 (by omega) hS hB' tn (by omega)) (fun r h' hq => ?_)
      obtain ⟨⟨kl', kbr', kam', nl', na', tk', op', ti', hnl', hna', hR, rfl, hop, hx1, hx2, hx3⟩, hqn, hqf⟩ := hq
      have hX0 : h'.1 k = xa_o 9 [xa_r (k + 1), xa_r (k + 3), xa_r (k + 6), xa_r (k + 9), xa_r (k + 11), xa_r (k + 15), xa_i kp, xa_r (k + 24), xa_r (k + 31), xa_r (k + 32), xa_r (k + 36), xa_r (k + 48), xa_r (k + 60)] := (hqf _ (by omega)).trans hX0
      have hB0 : h'.1 (k + 3) = xa_o 0 [xa_r (k + 3 + 1), xa_r (k + 3 + 2), xa_i ((pa : Nat) : Int), xa_i ((jo : Nat) : Int), xa_i wa, xa_i sr, xa_i pu, xa_i ri] := (hqf _ (by omega)).trans hB0
      have hB1 : h'.1 (k + 3 + 1) = xa_a 9 ld := (hqf _ (by omega)).trans hB1
      have hB2 : h'.1 (k + 3 + 2) = xa_a 2 dg := (hqf _ (by omega)).trans hB2
      obtain ⟨fs1, hE⟩ := (show xSA h' (k + 36) (k + 3) _ _ _ _ _ (-1) 1 ld dg pa jo wa sr pu ri from Or.inl ⟨rfl, _, _, _, hR⟩).cell
      have hS2 := hS2.fr (h1 := h') (fun i hi => by have z1 := hSP.out hi; have z2 := own.lt hS2 hi; exact hqf i ⟨z1.1, z1.2.1, z1.2.2.1, z1.2.2.2, z2⟩) (by omega)
      have hE2 : h'.1 (k + 48) = xa_o 3 fs2 := (hqf _ (by have z1 := hSP.out (i := k + 48) (Or.inl ⟨by omega, by omega⟩); exact ⟨z1.1, z1.2.1, z1.2.2.1, z1.2.2.2, by omega⟩)).trans hE2
      have hn : h'.2 = h.2 + (kC rdy na nl (kN pa jo wa sr (-1))).1 := hqn
      have fr : ∀ i, ((i < k + 36 ∨ k + 48 ≤ i) ∧ i ≠ kl ∧ i ≠ kbr ∧ i ≠ kam ∧ (i < k + 48 ∨ k + 48 + 12 ≤ i) ∧ i ≠ kl2 ∧ i ≠ kbr2 ∧ i ≠ kam2 ∧ i < h.2) → h'.1 i = h.1 i := fun i hi => hqf i ⟨hi.1, hi.2.1, hi.2.2.1, hi.2.2.2.1, hi.2.2.2.2.2.2.2.2⟩
      obtain ⟨htb, v0, hv0, htk⟩ := xtk_of hB9 (by omega) hR (t := tn) (by omega) hop
      rw [kJ_m] at htk
      have hSP := hSP.new (n := h.2) (by omega) q5 q6 q7 hx1 hx2 hx3
      refine xa_bud (kC rdy2 na2 nl2 (kN pa jo wa sr 0)).1 (kC rdy2 na2 nl2 (kN pa jo wa sr 0)).2 (by omega) (by omega) ?_
      refine xa_istoren (pc := 25) [some (xa_r k), some (xa_i 0), some (xa_i ((tn : Nat) : Int)), some (xa_i (tk' tn)), none] dX9_worth_25 (by decide) (Nat.le_of_ble_eq_true rfl) rfl rfl ?_
      refine xa_iload_n (pc := 26) dX9_worth_26 rfl ?_
      refine xa_if_ne (pc := 27) (tgt := 37) dX9_worth_27 (by decide) (by decide) (fun c_27 => ?_) (fun c_27 => ?_)
      · skip
        exfalso; omega
      · skip
        refine xa_aload_n (pc := 30) dX9_worth_30 rfl ?_
        refine xa_getfield (pc := 31) dX9_worth_31 flRX9_75 (by omega) (by omega) hX0 rfl ?_
        refine xa_goto (pc := 34) (tgt := 41) dX9_worth_34 (by decide) ?_
        refine xa_iload_n (pc := 41) dX9_worth_41 rfl ?_
        refine xa_callV (pc := 42) (as := [xa_i ((tn : Nat) : Int)]) (rest := []) dX9_worth_42 ⟨qX3_ticksFrom.1, qX3_ticksFrom.2.1, qX3_ticksFrom.2.2, by decide, by decide⟩ lkRX9_201 imX3_ticksFrom seX3_ticksFrom rfl rfl (by omega) (by omega) hE2 rfl (Nat.le_of_ble_eq_true rfl) (Nat.le_refl _) (Nat.le_refl _) (c_ticksFrom (k + 48) (k + 3) kl2 kbr2 kam2 nl2 na2 0 rdy2 ld dg pa jo wa sr pu ri hB9 (by omega) hS2 ⟨hB0, hB1, hB2, by omega, by omega⟩ tn (by omega)) (fun r h' hq => ?_)
        obtain ⟨⟨kl2', kbr2', kam2', nl2', na2', tk2', op2', ti2', hnl2', hna2', hR2, rfl, hop2, hy1, hy2, hy3⟩, hqn, hqf⟩ := hq
        have hRA := xSA.fr (h1 := h') (fun i hi => by have z1 := hSP.symm.out hi; have z2 := own.lt (Or.inl ⟨rfl, _, _, _, hR⟩ : xSA _ (k + 36) (k + 3) _ _ _ _ _ (-1) 1 ld dg pa jo wa sr pu ri) hi; exact hqf i ⟨z1.1, z1.2.1, z1.2.2.1, z1.2.2.2, z2⟩) (by omega) (Or.inl ⟨rfl, _, _, _, hR⟩ : xSA _ (k + 36) (k + 3) _ _ _ _ _ (-1) 1 ld dg pa jo wa sr pu ri)
        obtain ⟨hs1, hs2, hs3, hs4, hs5, hs6, hs7⟩ := hR.spl.lt
        have hSP := (hSP.symm.new (n := _) (by omega) hs5 hs6 hs7 hy1 hy2 hy3).symm
        have fr : ∀ i, ((i < k + 36 ∨ k + 48 ≤ i) ∧ i ≠ kl ∧ i ≠ kbr ∧ i ≠ kam ∧ (i < k + 48 ∨ k + 48 + 12 ≤ i) ∧ i ≠ kl2 ∧ i ≠ kbr2 ∧ i ≠ kam2 ∧ i < h.2) → h'.1 i = h.1 i := fun i hi => (hqf i ⟨hi.2.2.2.2.1, hi.2.2.2.2.2.1, hi.2.2.2.2.2.2.1, hi.2.2.2.2.2.2.2.1, by omega⟩).trans (fr i hi)
        have hn2 : h'.2 = h.2 + ((kC rdy na nl (kN pa jo wa sr (-1))).1 + (kC rdy2 na2 nl2 (kN pa jo wa sr 0)).1) := by omega
        obtain ⟨htb2, v2, hv2, htk2⟩ := xtk_of hB9 (by omega) hR2 (t := tn) (by omega) hop2
        rw [kJ_0] at htk2
        have hh0 : h.2 ≤ h.2 + (kC rdy na nl (kN pa jo wa sr (-1))).1 := Nat.le_add_right _ _
        refine xa_bud 0 0 (by omega) (by omega) ?_
        refine xa_istorew (pc := 45) [some (xa_r k), some (xa_i 0), some (xa_i ((tn : Nat) : Int)), some (xa_i (tk' tn)), some (xa_i (tk2' tn))] dX9_worth_45 (by decide) (Nat.le_of_ble_eq_true rfl) rfl rfl ?_
        refine xa_iload_n (pc := 47) dX9_worth_47 rfl ?_
        refine xa_if_lt (pc := 48) (tgt := 56) dX9_worth_48 (by decide) ⟨by omega, by omega⟩ (fun c_48 => ?_) (fun c_48 => ?_)
        · skip
          refine xa_bipush (pc := 56) dX9_worth_56 rfl ?_
          refine xa_goto (pc := 58) (tgt := 65) dX9_worth_58 (by decide) ?_
          refine xa_ireturn (pc := 65) dX9_worth_65 rfl trivial ?_
          exact ⟨⟨_, rfl, Or.inr ⟨by omega, v0, v2, htk, by simpa using htk2, by split <;> omega⟩⟩, ⟨kl', kbr', kam', kl2', kbr2', kam2', by rw [← hnl', ← hna']; exact hRA, by rw [← hnl2', ← hna2']; exact Or.inl ⟨rfl, _, _, _, hR2⟩, hSP, hx1, hx2, hx3, by omega, by omega, by omega⟩, hn2, fr⟩
        · skip
          refine xa_iload (pc := 51) dX9_worth_51 rfl ?_
          refine xa_if_ge (pc := 53) (tgt := 61) dX9_worth_53 (by decide) ⟨by omega, by omega⟩ (fun c_53 => ?_) (fun c_53 => ?_)
          · skip
            refine xa_iload (pc := 61) dX9_worth_61 rfl ?_
            refine xa_iload_n (pc := 63) dX9_worth_63 rfl ?_
            refine xa_isub (pc := 64) dX9_worth_64 ?_
            refine xa_ireturn (pc := 65) dX9_worth_65 rfl trivial ?_
            exact ⟨⟨_, rfl, Or.inr ⟨by omega, v0, v2, htk, by simpa using htk2, by split <;> omega⟩⟩, ⟨kl', kbr', kam', kl2', kbr2', kam2', by rw [← hnl', ← hna']; exact hRA, by rw [← hnl2', ← hna2']; exact Or.inl ⟨rfl, _, _, _, hR2⟩, hSP, hx1, hx2, hx3, by omega, by omega, by omega⟩, hn2, fr⟩
          · skip
            refine xa_bipush (pc := 56) dX9_worth_56 rfl ?_
            refine xa_goto (pc := 58) (tgt := 65) dX9_worth_58 (by decide) ?_
            refine xa_ireturn (pc := 65) dX9_worth_65 rfl trivial ?_
            exact ⟨⟨_, rfl, Or.inr ⟨by omega, v0, v2, htk, by simpa using htk2, by split <;> omega⟩⟩, ⟨kl', kbr', kam', kl2', kbr2', kam2', by rw [← hnl', ← hna']; exact hRA, by rw [← hnl2', ← hna2']; exact Or.inl ⟨rfl, _, _, _, hR2⟩, hSP, hx1, hx2, hx3, by omega, by omega, by omega⟩, hn2, fr⟩
    · have c_12 := xa_b0.mp c_12
      exfalso; omega
set_option maxHeartbeats 4000000 in
theorem c_xWorth1 {G : xa_G} {h : xa_H} (k : Nat) (kp : Int) (ld dg : Nat → Int) (pa jo : Nat) (wa sr pu ri : Int) (t : Int) (h1 : xa_ok t) (hag : 0 ≤ t ∧ t ≤ 359) (kl kbr kam nl na : Nat) (rdy : Int) (hB9 : vB ld dg pa jo wa sr pu ri) (hX : xX0 h k kp) (hB : xB h (k + 3) ld dg pa jo wa sr pu ri) (hS : xSA h (k + 36) (k + 3) kl kbr kam nl na (-1) rdy ld dg pa jo wa sr pu ri) (kl2 kbr2 kam2 nl2 na2 : Nat) (rdy2 : Int) (hS2 : xSA h (k + 60) (k + 3) kl2 kbr2 kam2 nl2 na2 1 rdy2 ld dg pa jo wa sr pu ri) (hSP : SP (k + 36) kl kbr kam (k + 60) kl2 kbr2 kam2) (hj9 : 1 ≤ jo - 1)  : xa_M G mX9_worth [xa_r k, xa_i 1, xa_i t] h ((kC rdy na nl (kN pa jo wa sr (-1))).1 + (kC rdy2 na2 nl2 (kN pa jo wa sr 1)).1) ((kC rdy na nl (kN pa jo wa sr (-1))).2 + (kC rdy2 na2 nl2 (kN pa jo wa sr 1)).2) (fun r h' => (∃ r0, r = some (xa_i r0) ∧ sq_worth ld dg pa jo wa sr pu ri 1 t r0) ∧ (∃ kl' kbr' kam' kl2' kbr2' kam2' : Nat, xSA h' (k + 36) (k + 3) kl' kbr' kam' (kNl rdy nl (kN pa jo wa sr (-1))) (kNa rdy na (kN pa jo wa sr (-1))) (-1) 1 ld dg pa jo wa sr pu ri ∧ xSA h' (k + 60) (k + 3) kl2' kbr2' kam2' (kNl rdy2 nl2 (kN pa jo wa sr 1)) (kNa rdy2 na2 (kN pa jo wa sr 1)) 1 1 ld dg pa jo wa sr pu ri ∧ SP (k + 36) kl' kbr' kam' (k + 60) kl2' kbr2' kam2' ∧ (kl' = kl ∨ h.2 ≤ kl') ∧ (kbr' = kbr ∨ h.2 ≤ kbr') ∧ (kam' = kam ∨ h.2 ≤ kam') ∧ (kl2' = kl2 ∨ h.2 ≤ kl2') ∧ (kbr2' = kbr2 ∨ h.2 ≤ kbr2') ∧ (kam2' = kam2 ∨ h.2 ≤ kam2')) ∧ h'.2 = h.2 + ((kC rdy na nl (kN pa jo wa sr (-1))).1 + (kC rdy2 na2 nl2 (kN pa jo wa sr 1)).1) ∧ ∀ i, ((i < k + 36 ∨ k + 48 ≤ i) ∧ i ≠ kl ∧ i ≠ kbr ∧ i ≠ kam ∧ (i < k + 60 ∨ k + 60 + 12 ≤ i) ∧ i ≠ kl2 ∧ i ≠ kbr2 ∧ i ≠ kam2 ∧ i < h.2) → h'.1 i = h.1 i) := by
  refine xa_enter (by decide +kernel) (Nat.le_of_ble_eq_true rfl) ?_
  refine xa_locals (ls' := [some (xa_r k), some (xa_i 1), some (xa_i t), none, none]) rfl ?_
  have hn : h.2 = h.2 := rfl
  have fr : ∀ i, ((i < k + 36 ∨ k + 48 ≤ i) ∧ i ≠ kl ∧ i ≠ kbr ∧ i ≠ kam ∧ (i < k + 60 ∨ k + 60 + 12 ≤ i) ∧ i ≠ kl2 ∧ i ≠ kbr2 ∧ i ≠ kam2 ∧ i < h.2) → h.1 i = h.1 i := fun _ _ => rfl
  obtain ⟨hX0, hk, hkn⟩ := hX
  have hB' := hB
  obtain ⟨hB0, hB1, hB2, hBk, hBn⟩ := hB
  have h0' := hB9.1
  obtain ⟨fs, hE⟩ := hS.cell
  obtain ⟨p1, p2, p3, p4, p5, p6, p7⟩ := hS.spl.lt
  have hPL := hS.spl.1
  have g1 : k + 36 < kl := by have := hPL.2.1; omega
  have g2 : k + 36 < kbr := by have := hPL.2.2.1; omega
  have g3 : k + 36 < kam := by have := hPL.2.2.2.1; omega
  clear hPL
  obtain ⟨fs2, hE2⟩ := hS2.cell
  obtain ⟨q1, q2, q3, q4, q5, q6, q7⟩ := hS2.spl.lt
  have hPL := hS2.spl.1
  have g4 : k + 48 ≤ kl2 := by have := hPL.2.1; omega
  have g5 : k + 48 ≤ kbr2 := by have := hPL.2.2.1; omega
  have g6 : k + 48 ≤ kam2 := by have := hPL.2.2.2.1; omega
  clear hPL
  refine xa_aload_n (pc := 0) dX9_worth_0 rfl ?_
  refine xa_iload_n (pc := 1) dX9_worth_1 rfl ?_
  refine xa_callV (pc := 2) (as := [xa_i 1]) (rest := []) dX9_worth_2 ⟨qX9_isJoint.1, qX9_isJoint.2.1, qX9_isJoint.2.2, by decide, by decide⟩ lkRX9_134 imX9_isJoint seX9_isJoint rfl rfl (by omega) (by omega) hX0 rfl (Nat.le_of_ble_eq_true rfl) (Nat.zero_le _) (Nat.zero_le _) (c_xJoint k kp ld dg pa jo wa sr pu ri 1 (by omega) ⟨hX0, hk, by omega⟩ ⟨hB0, hB1, hB2, by omega, by omega⟩) (fun r h' hq => ?_)
  obtain ⟨rfl, hq⟩ := hq
  have hq := hq.symm
  subst hq
  refine xa_if_eq (pc := 5) (tgt := 15) dX9_worth_5 (by decide) xa_okb (fun c_5 => ?_) (fun c_5 => ?_)
  · have c_5 := xa_b0.mp c_5
    exfalso; omega
  · have c_5 := xa_b1.mp c_5
    refine xa_iload_n (pc := 8) dX9_worth_8 rfl ?_
    refine xa_callS (pc := 9) (as := [xa_i t]) (rest := []) dX9_worth_9 ⟨qX9_isTurn.1, qX9_isTurn.2.1, qX9_isTurn.2.2, by decide, by decide⟩ lkRX9_163 smX9_isTurn rfl rfl (Nat.le_of_ble_eq_true rfl) (Nat.zero_le _) (Nat.zero_le _) (c_isTurn _ ⟨by omega, by omega⟩) (fun r h' hq => ?_)
    obtain ⟨rfl, hq⟩ := hq
    have hq := hq.symm
    subst hq
    refine xa_if_ne (pc := 12) (tgt := 17) dX9_worth_12 (by decide) xa_okb (fun c_12 => ?_) (fun c_12 => ?_)
    · have c_12 := xa_b1.mp c_12
      obtain ⟨tn, rfl⟩ : ∃ z : Nat, t = (z : Int) := ⟨t.toNat, by omega⟩
      refine xa_aload_n (pc := 17) dX9_worth_17 rfl ?_
      refine xa_getfield (pc := 18) dX9_worth_18 flRX9_71 (by omega) (by omega) hX0 rfl ?_
      refine xa_iload_n (pc := 21) dX9_worth_21 rfl ?_
      refine xa_callV (pc := 22) (as := [xa_i ((tn : Nat) : Int)]) (rest := []) dX9_worth_22 ⟨qX3_ticksFrom.1, qX3_ticksFrom.2.1, qX3_ticksFrom.2.2, by decide, by decide⟩ lkRX9_201 imX3_ticksFrom seX3_ticksFrom rfl rfl (by omega) (by omega) hE rfl (Nat.le_of_ble_eq_true rfl) (Nat.le_add_right _ _) (Nat.le_add_right _ _) (c_ticksFrom (k + 36) (k + 3) kl kbr kam nl na (-1) rdy ld dg pa jo wa sr pu ri hB9 (by omega) hS hB' tn (by omega)) (fun r h' hq => ?_)
      obtain ⟨⟨kl', kbr', kam', nl', na', tk', op', ti', hnl', hna', hR, rfl, hop, hx1, hx2, hx3⟩, hqn, hqf⟩ := hq
      have hX0 : h'.1 k = xa_o 9 [xa_r (k + 1), xa_r (k + 3), xa_r (k + 6), xa_r (k + 9), xa_r (k + 11), xa_r (k + 15), xa_i kp, xa_r (k + 24), xa_r (k + 31), xa_r (k + 32), xa_r (k + 36), xa_r (k + 48), xa_r (k + 60)] := (hqf _ (by omega)).trans hX0
      have hB0 : h'.1 (k + 3) = xa_o 0 [xa_r (k + 3 + 1), xa_r (k + 3 + 2), xa_i ((pa : Nat) : Int), xa_i ((jo : Nat) : Int), xa_i wa, xa_i sr, xa_i pu, xa_i ri] := (hqf _ (by omega)).trans hB0
      have hB1 : h'.1 (k + 3 + 1) = xa_a 9 ld := (hqf _ (by omega)).trans hB1
      have hB2 : h'.1 (k + 3 + 2) = xa_a 2 dg := (hqf _ (by omega)).trans hB2
      obtain ⟨fs1, hE⟩ := (show xSA h' (k + 36) (k + 3) _ _ _ _ _ (-1) 1 ld dg pa jo wa sr pu ri from Or.inl ⟨rfl, _, _, _, hR⟩).cell
      have hS2 := hS2.fr (h1 := h') (fun i hi => by have z1 := hSP.out hi; have z2 := own.lt hS2 hi; exact hqf i ⟨z1.1, z1.2.1, z1.2.2.1, z1.2.2.2, z2⟩) (by omega)
      have hE2 : h'.1 (k + 60) = xa_o 3 fs2 := (hqf _ (by have z1 := hSP.out (i := k + 60) (Or.inl ⟨by omega, by omega⟩); exact ⟨z1.1, z1.2.1, z1.2.2.1, z1.2.2.2, by omega⟩)).trans hE2
      have hn : h'.2 = h.2 + (kC rdy na nl (kN pa jo wa sr (-1))).1 := hqn
      have fr : ∀ i, ((i < k + 36 ∨ k + 48 ≤ i) ∧ i ≠ kl ∧ i ≠ kbr ∧ i ≠ kam ∧ (i < k + 60 ∨ k + 60 + 12 ≤ i) ∧ i ≠ kl2 ∧ i ≠ kbr2 ∧ i ≠ kam2 ∧ i < h.2) → h'.1 i = h.1 i := fun i hi => hqf i ⟨hi.1, hi.2.1, hi.2.2.1, hi.2.2.2.1, hi.2.2.2.2.2.2.2.2⟩
      obtain ⟨htb, v0, hv0, htk⟩ := xtk_of hB9 (by omega) hR (t := tn) (by omega) hop
      rw [kJ_m] at htk
      have hSP := hSP.new (n := h.2) (by omega) q5 q6 q7 hx1 hx2 hx3
      refine xa_bud (kC rdy2 na2 nl2 (kN pa jo wa sr 1)).1 (kC rdy2 na2 nl2 (kN pa jo wa sr 1)).2 (by omega) (by omega) ?_
      refine xa_istoren (pc := 25) [some (xa_r k), some (xa_i 1), some (xa_i ((tn : Nat) : Int)), some (xa_i (tk' tn)), none] dX9_worth_25 (by decide) (Nat.le_of_ble_eq_true rfl) rfl rfl ?_
      refine xa_iload_n (pc := 26) dX9_worth_26 rfl ?_
      refine xa_if_ne (pc := 27) (tgt := 37) dX9_worth_27 (by decide) (by decide) (fun c_27 => ?_) (fun c_27 => ?_)
      · skip
        refine xa_aload_n (pc := 37) dX9_worth_37 rfl ?_
        refine xa_getfield (pc := 38) dX9_worth_38 flRX9_78 (by omega) (by omega) hX0 rfl ?_
        refine xa_iload_n (pc := 41) dX9_worth_41 rfl ?_
        refine xa_callV (pc := 42) (as := [xa_i ((tn : Nat) : Int)]) (rest := []) dX9_worth_42 ⟨qX3_ticksFrom.1, qX3_ticksFrom.2.1, qX3_ticksFrom.2.2, by decide, by decide⟩ lkRX9_201 imX3_ticksFrom seX3_ticksFrom rfl rfl (by omega) (by omega) hE2 rfl (Nat.le_of_ble_eq_true rfl) (Nat.le_refl _) (Nat.le_refl _) (c_ticksFrom (k + 60) (k + 3) kl2 kbr2 kam2 nl2 na2 1 rdy2 ld dg pa jo wa sr pu ri hB9 (by omega) hS2 ⟨hB0, hB1, hB2, by omega, by omega⟩ tn (by omega)) (fun r h' hq => ?_)
        obtain ⟨⟨kl2', kbr2', kam2', nl2', na2', tk2', op2', ti2', hnl2', hna2', hR2, rfl, hop2, hy1, hy2, hy3⟩, hqn, hqf⟩ := hq
        have hRA := xSA.fr (h1 := h') (fun i hi => by have z1 := hSP.symm.out hi; have z2 := own.lt (Or.inl ⟨rfl, _, _, _, hR⟩ : xSA _ (k + 36) (k + 3) _ _ _ _ _ (-1) 1 ld dg pa jo wa sr pu ri) hi; exact hqf i ⟨z1.1, z1.2.1, z1.2.2.1, z1.2.2.2, z2⟩) (by omega) (Or.inl ⟨rfl, _, _, _, hR⟩ : xSA _ (k + 36) (k + 3) _ _ _ _ _ (-1) 1 ld dg pa jo wa sr pu ri)
        obtain ⟨hs1, hs2, hs3, hs4, hs5, hs6, hs7⟩ := hR.spl.lt
        have hSP := (hSP.symm.new (n := _) (by omega) hs5 hs6 hs7 hy1 hy2 hy3).symm
        have fr : ∀ i, ((i < k + 36 ∨ k + 48 ≤ i) ∧ i ≠ kl ∧ i ≠ kbr ∧ i ≠ kam ∧ (i < k + 60 ∨ k + 60 + 12 ≤ i) ∧ i ≠ kl2 ∧ i ≠ kbr2 ∧ i ≠ kam2 ∧ i < h.2) → h'.1 i = h.1 i := fun i hi => (hqf i ⟨hi.2.2.2.2.1, hi.2.2.2.2.2.1, hi.2.2.2.2.2.2.1, hi.2.2.2.2.2.2.2.1, by omega⟩).trans (fr i hi)
        have hn2 : h'.2 = h.2 + ((kC rdy na nl (kN pa jo wa sr (-1))).1 + (kC rdy2 na2 nl2 (kN pa jo wa sr 1)).1) := by omega
        obtain ⟨htb2, v2, hv2, htk2⟩ := xtk_of hB9 (by omega) hR2 (t := tn) (by omega) hop2
        rw [kJ_1] at htk2
        have hh0 : h.2 ≤ h.2 + (kC rdy na nl (kN pa jo wa sr (-1))).1 := Nat.le_add_right _ _
        refine xa_bud 0 0 (by omega) (by omega) ?_
        refine xa_istorew (pc := 45) [some (xa_r k), some (xa_i 1), some (xa_i ((tn : Nat) : Int)), some (xa_i (tk' tn)), some (xa_i (tk2' tn))] dX9_worth_45 (by decide) (Nat.le_of_ble_eq_true rfl) rfl rfl ?_
        refine xa_iload_n (pc := 47) dX9_worth_47 rfl ?_
        refine xa_if_lt (pc := 48) (tgt := 56) dX9_worth_48 (by decide) ⟨by omega, by omega⟩ (fun c_48 => ?_) (fun c_48 => ?_)
        · skip
          refine xa_bipush (pc := 56) dX9_worth_56 rfl ?_
          refine xa_goto (pc := 58) (tgt := 65) dX9_worth_58 (by decide) ?_
          refine xa_ireturn (pc := 65) dX9_worth_65 rfl trivial ?_
          exact ⟨⟨_, rfl, Or.inr ⟨by omega, v0, v2, htk, by rw [if_neg (by omega), if_neg (by decide)]; exact htk2, by split <;> omega⟩⟩, ⟨kl', kbr', kam', kl2', kbr2', kam2', by rw [← hnl', ← hna']; exact hRA, by rw [← hnl2', ← hna2']; exact Or.inl ⟨rfl, _, _, _, hR2⟩, hSP, hx1, hx2, hx3, by omega, by omega, by omega⟩, hn2, fr⟩
        · skip
          refine xa_iload (pc := 51) dX9_worth_51 rfl ?_
          refine xa_if_ge (pc := 53) (tgt := 61) dX9_worth_53 (by decide) ⟨by omega, by omega⟩ (fun c_53 => ?_) (fun c_53 => ?_)
          · skip
            refine xa_iload (pc := 61) dX9_worth_61 rfl ?_
            refine xa_iload_n (pc := 63) dX9_worth_63 rfl ?_
            refine xa_isub (pc := 64) dX9_worth_64 ?_
            refine xa_ireturn (pc := 65) dX9_worth_65 rfl trivial ?_
            exact ⟨⟨_, rfl, Or.inr ⟨by omega, v0, v2, htk, by rw [if_neg (by omega), if_neg (by decide)]; exact htk2, by split <;> omega⟩⟩, ⟨kl', kbr', kam', kl2', kbr2', kam2', by rw [← hnl', ← hna']; exact hRA, by rw [← hnl2', ← hna2']; exact Or.inl ⟨rfl, _, _, _, hR2⟩, hSP, hx1, hx2, hx3, by omega, by omega, by omega⟩, hn2, fr⟩
          · skip
            refine xa_bipush (pc := 56) dX9_worth_56 rfl ?_
            refine xa_goto (pc := 58) (tgt := 65) dX9_worth_58 (by decide) ?_
            refine xa_ireturn (pc := 65) dX9_worth_65 rfl trivial ?_
            exact ⟨⟨_, rfl, Or.inr ⟨by omega, v0, v2, htk, by rw [if_neg (by omega), if_neg (by decide)]; exact htk2, by split <;> omega⟩⟩, ⟨kl', kbr', kam', kl2', kbr2', kam2', by rw [← hnl', ← hna']; exact hRA, by rw [← hnl2', ← hna2']; exact Or.inl ⟨rfl, _, _, _, hR2⟩, hSP, hx1, hx2, hx3, by omega, by omega, by omega⟩, hn2, fr⟩
      · skip
        exfalso; omega
    · have c_12 := xa_b0.mp c_12
      exfalso; omega
theorem c_xWorthN {G : xa_G} {h : xa_H} (k : Nat) (kp : Int) (ld dg : Nat → Int) (pa jo : Nat) (wa sr pu ri : Int) (j t : Int) (h1 : xa_ok t) (h2 : xa_ok j) (hjo : jo ≤ 2) (hjn : ¬ ((0 ≤ j ∧ j ≤ (jo : Int) - 1) ∧ 0 ≤ t ∧ t ≤ 359)) (hX : xX0 h k kp) (hB : xB h (k + 3) ld dg pa jo wa sr pu ri)  : xa_M G mX9_worth [xa_r k, xa_i j, xa_i t] h 0 0 (fun r h' => r = some (xa_i (-1)) ∧ h' = h) := by
  refine xa_enter (by decide +kernel) (Nat.le_of_ble_eq_true rfl) ?_
  refine xa_locals (ls' := [some (xa_r k), some (xa_i j), some (xa_i t), none, none]) rfl ?_
  obtain ⟨hX0, hk, hkn⟩ := hX
  obtain ⟨hB0, hB1, hB2, hBk, hBn⟩ := hB
  refine xa_aload_n (pc := 0) dX9_worth_0 rfl ?_
  refine xa_iload_n (pc := 1) dX9_worth_1 rfl ?_
  refine xa_callV (pc := 2) (as := [xa_i j]) (rest := []) dX9_worth_2 ⟨qX9_isJoint.1, qX9_isJoint.2.1, qX9_isJoint.2.2, by decide, by decide⟩ lkRX9_134 imX9_isJoint seX9_isJoint rfl rfl (by omega) (by omega) hX0 rfl (Nat.le_of_ble_eq_true rfl) (Nat.zero_le _) (Nat.zero_le _) (c_xJoint k kp ld dg pa jo wa sr pu ri j (by omega) ⟨hX0, hk, by omega⟩ ⟨hB0, hB1, hB2, by omega, by omega⟩) (fun r h' hq => ?_)
  obtain ⟨rfl, hq⟩ := hq
  have hq := hq.symm
  subst hq
  refine xa_if_eq (pc := 5) (tgt := 15) dX9_worth_5 (by decide) xa_okb (fun c_5 => ?_) (fun c_5 => ?_)
  · have c_5 := xa_b0.mp c_5
    refine xa_iconst (pc := 15) dX9_worth_15 ?_
    refine xa_ireturn (pc := 16) dX9_worth_16 rfl trivial ?_
    exact ⟨rfl, rfl⟩
  · have c_5 := xa_b1.mp c_5
    refine xa_iload_n (pc := 8) dX9_worth_8 rfl ?_
    refine xa_callS (pc := 9) (as := [xa_i t]) (rest := []) dX9_worth_9 ⟨qX9_isTurn.1, qX9_isTurn.2.1, qX9_isTurn.2.2, by decide, by decide⟩ lkRX9_163 smX9_isTurn rfl rfl (Nat.le_of_ble_eq_true rfl) (Nat.zero_le _) (Nat.zero_le _) (c_isTurn _ ⟨by omega, by omega⟩) (fun r h' hq => ?_)
    obtain ⟨rfl, hq⟩ := hq
    have hq := hq.symm
    subst hq
    refine xa_if_ne (pc := 12) (tgt := 17) dX9_worth_12 (by decide) xa_okb (fun c_12 => ?_) (fun c_12 => ?_)
    · have c_12 := xa_b1.mp c_12
      exfalso; omega
    · have c_12 := xa_b0.mp c_12
      refine xa_iconst (pc := 15) dX9_worth_15 ?_
      refine xa_ireturn (pc := 16) dX9_worth_16 rfl trivial ?_
      exact ⟨rfl, rfl⟩
