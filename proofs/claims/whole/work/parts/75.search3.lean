/-! Search: the taking of a state -/
/-- where the rows lie that are made anew -/
def PL (k kb kl kbr kam : Nat) : Prop := kb + 3 ≤ k ∧ (k + 12 ≤ kl ∨ kl = k + 3) ∧ (k + 12 ≤ kbr ∨ kbr = k + 7) ∧ (k + 12 ≤ kam ∨ kam = k + 8) ∧ kbr ≠ kam ∧ kl ≠ kbr ∧ kl ≠ kam
section PLs
variable {k kb kl kbr kam : Nat}
theorem PL.l (h : PL k kb kl kbr kam) (c : Nat) (h1 : c < 12) (h2 : c ≠ 3) : k + c ≠ kl := by have := h.2.1; omega
theorem PL.r (h : PL k kb kl kbr kam) (c : Nat) (h1 : c < 12) (h2 : c ≠ 7) : k + c ≠ kbr := by have := h.2.2.1; omega
theorem PL.a (h : PL k kb kl kbr kam) (c : Nat) (h1 : c < 12) (h2 : c ≠ 8) : k + c ≠ kam := by have := h.2.2.2.1; omega
theorem PL.lb (h : PL k kb kl kbr kam) (c : Nat) (h1 : c < 3) : kb + c ≠ kl := by have := h.2.1; have := h.1; omega
theorem PL.rb (h : PL k kb kl kbr kam) (c : Nat) (h1 : c < 3) : kb + c ≠ kbr := by have := h.2.2.1; have := h.1; omega
theorem PL.ab (h : PL k kb kl kbr kam) (c : Nat) (h1 : c < 3) : kb + c ≠ kam := by have := h.2.2.2.1; have := h.1; omega
theorem PL.ra (h : PL k kb kl kbr kam) : kbr ≠ kam := h.2.2.2.2.1
theorem PL.lr (h : PL k kb kl kbr kam) : kl ≠ kbr := h.2.2.2.2.2.1
theorem PL.la (h : PL k kb kl kbr kam) : kl ≠ kam := h.2.2.2.2.2.2
theorem PL.tr (h : PL k kb kl kbr kam) : k + 4 + 8 ≤ kbr ∨ kbr = k + 4 + 3 := by have := h.2.2.1; omega
theorem PL.ta (h : PL k kb kl kbr kam) : k + 4 + 8 ≤ kam ∨ kam = k + 4 + 4 := by have := h.2.2.2.1; omega
theorem PL.l2 (h : PL k kb kl kbr kam) (hk : 2 ≤ k) : 2 ≤ kl := by have := h.2.1; omega
theorem PL.r2 (h : PL k kb kl kbr kam) (hk : 2 ≤ k) : 2 ≤ kbr := by have := h.2.2.1; omega
theorem PL.a2 (h : PL k kb kl kbr kam) (hk : 2 ≤ k) : 2 ≤ kam := by have := h.2.2.2.1; omega
theorem PL.r3 (h : PL k kb kl kbr kam) : kbr < k ∨ k + 3 ≤ kbr := by have := h.2.2.1; omega
theorem PL.a3 (h : PL k kb kl kbr kam) : kam < k ∨ k + 3 ≤ kam := by have := h.2.2.2.1; omega
theorem PL.l9 (h : PL k kb kl kbr kam) : kl < k + 4 + 5 ∨ k + 4 + 8 ≤ kl := by have := h.2.1; omega
/-- a row out of the search's own places -/
theorem PL.rs (h : PL k kb kl kbr kam) {i : Nat} (hi : (i < k ∨ k + 12 ≤ i) ∧ i ≠ kl ∧ i ≠ kbr ∧ i ≠ kam) : (i < k ∨ k + 3 ≤ i) ∧ i ≠ kl := by omega
theorem PL.rt (h : PL k kb kl kbr kam) {i : Nat} (hi : (i < k ∨ k + 12 ≤ i) ∧ i ≠ kl ∧ i ≠ kbr ∧ i ≠ kam) : (i < k + 4 + 5 ∨ k + 4 + 8 ≤ i) ∧ i ≠ kbr ∧ i ≠ kam := by omega
end PLs
def xStb (po sp : Nat → Int) (tj tb : Int) : Prop := (∀ i, 0 ≤ po i ∧ po i ≤ 2) ∧ (∀ i, -2 ≤ sp i ∧ sp i ≤ 12) ∧ (tj = 0 ∨ tj = 1) ∧ (-120 ≤ tb ∧ tb ≤ 120)
theorem eI_f {ld dg : Nat → Int} {pa jo : Nat} {wa sr pu ri sj : Int} {lk tk en : Nat → Int} {la lo ti : Int} {Q P M D : Nat → Nat} {n k mb : Nat} (h : eI ld dg pa jo wa sr pu ri sj lk tk en la lo ti Q P M D n k mb) (hP : P 0 = 0) : 1 ≤ n ∧ k < n ∧ la = ((Q (n - 1) : Nat) : Int) ∧ Q (n - 1) < (360 * kN pa jo wa sr sj).toNat ∧ (0 ≤ ti ∧ ti < 200) ∧ Q (P (n - 1)) < (360 * kN pa jo wa sr sj).toNat ∧ Q (P k) < (360 * kN pa jo wa sr sj).toNat := by
  obtain ⟨h1, h2, h3, h4, h5, h6, h7, h8, -⟩ := h
  have hn1 := h1.1.1
  exact ⟨hn1, h6, h5, h1.2.1 _ (by omega), h8, h1.2.1 _ (qI_P h1 (by omega) (by omega)), h1.2.1 _ (qI_P h1 (by omega) h6)⟩
theorem eI_lo {ld dg : Nat → Int} {pa jo : Nat} {wa sr pu ri sj : Int} {lk tk en : Nat → Int} {la lo ti : Int} {Q P M D : Nat → Nat} {n k mb : Nat} (hB : vB ld dg pa jo wa sr pu ri) (h : eI ld dg pa jo wa sr pu ri sj lk tk en la lo ti Q P M D n k mb) : xa_ok lo := by
  have hN := kN_b (sj := sj) hB
  obtain ⟨h1, h2, h3, h4, h5, h6, h7, h8, e, e1, e2, e3, -⟩ := h
  have := h1.2.1 e e1
  omega
theorem eI_nx {ld dg : Nat → Int} {pa jo : Nat} {wa sr pu ri sj : Int} {lk tk en : Nat → Int} {z : Nat} {lo ti : Int} {Q P M D : Nat → Nat} {n k mb : Nat} (hB : vB ld dg pa jo wa sr pu ri) (h : eI ld dg pa jo wa sr pu ri sj lk tk en ((z : Nat) : Int) lo ti Q P M D n k mb) {x : Nat} (hx : Q k = x) : (if k + 1 < n then Q (k + 1) else 0) < 583200 ∧ (x ≠ z → lk x = ((Q (P k) / 360 : Nat) : Int) * 1048576 + (((if k + 1 < n then Q (k + 1) else 0) : Nat) : Int)) := by
  have hN := kN_b (sj := sj) hB
  obtain ⟨h1, h2, h3, h4, h5, h6, -⟩ := h
  constructor
  · split
    · rename_i q
      have := h1.2.1 (k + 1) q
      omega
    · omega
  · intro hne
    have hke : k + 1 < n := by
      by_cases q : k + 1 < n
      · exact q
      · exfalso
        have e9 : n - 1 = k := by omega
        rw [e9, hx] at h5
        omega
    have e := h2.1 k h6
    rw [hx] at e
    rw [e, if_pos hke, if_pos hke]
theorem lk_b {ld dg : Nat → Int} {pa jo : Nat} {wa sr pu ri sj : Int} {lk tk en : Nat → Int} {la lo ti : Int} {Q P M D : Nat → Nat} {n k mb : Nat} (hB : vB ld dg pa jo wa sr pu ri) (h : eI ld dg pa jo wa sr pu ri sj lk tk en la lo ti Q P M D n k mb) (hP : P 0 = 0) {y : Nat} (hy : y < (360 * kN pa jo wa sr sj).toNat) : -1 ≤ lk y ∧ lk y ≤ 2147483647 := by
  have hN := kN_b (sj := sj) hB
  obtain ⟨h1, h2, -⟩ := h
  have hn1 := h1.1.1
  by_cases q : ∃ b, b < n ∧ Q b = y
  · obtain ⟨b, b1, b2⟩ := q
    have e := h2.1 b b1
    rw [b2] at e
    have p1 := h1.2.1 (P b) (qI_P h1 (by omega) b1)
    rw [e]
    split
    · rename_i z
      have p2 := h1.2.1 (b + 1) z
      omega
    · omega
  · rw [h2.2 y hy (fun i hi e => q ⟨i, hi, e⟩)]
    omega
theorem ans_new {ld dg : Nat → Int} {pa jo : Nat} {wa sr pu ri sj ti : Int} {tk en tk' en' : Nat → Int} (hB : vB ld dg pa jo wa sr pu ri) {c' : xCf} (hc : cs_ok pa jo wa sr sj c') {u : Int} (hu : 0 ≤ u ∧ u < 360) {y : Nat} (hy : y = kx pa jo wa sr sj c' u)
    (h1 : (kF pa jo wa sr sj ≤ ((y : Nat) : Int) / 360 ∧ ((y : Nat) : Int) / 360 ≤ kF pa jo wa sr sj + (if 2 < pa then 27 else 9) - 1) → aR ri (((y : Nat) : Int) % 360) (ti + 1) ((y : Nat) : Int) tk en tk' en' (ri + 1)) (h2 : ¬ (kF pa jo wa sr sj ≤ ((y : Nat) : Int) / 360 ∧ ((y : Nat) : Int) / 360 ≤ kF pa jo wa sr sj + (if 2 < pa then 27 else 9) - 1) → tk' = tk ∧ en' = en) :
    ∀ t : Nat, t < 360 → ((tk t = -1 ∧ kans pa jo wa sr ri sj (t : Int) y) → tk' t = ti + 1 ∧ en' t = (y : Int)) ∧ (¬ (tk t = -1 ∧ kans pa jo wa sr ri sj (t : Int) y) → tk' t = tk t ∧ en' t = en t) := by
  have hri := hB.2.2.2.2.2.2.2
  obtain ⟨k1, k2, k3, k4⟩ := kx_b hB hc hu
  rw [← hy] at k1 k2 k3 k4
  have hs := kE_str hB hc
  have e3 : ((y : Nat) : Int) / 360 = kE pa jo wa sr sj c' := by omega
  have e4 : ((y : Nat) : Int) % 360 = u := by omega
  rw [e3] at h1 h2
  rw [e4] at h1
  intro t ht
  have hk : kans pa jo wa sr ri sj (t : Int) y ↔ cf_str c' ∧ sp_off ((t : Int) + u) 0 ≤ ri := by rw [hy]; exact kans_c hB hc hu
  rw [hk, ← aP_off hri ht, ← hs]
  by_cases q : kF pa jo wa sr sj ≤ kE pa jo wa sr sj c' ∧ kE pa jo wa sr sj c' ≤ kF pa jo wa sr sj + (if 2 < pa then 27 else 9) - 1
  · obtain ⟨r1, r2⟩ := h1 q t ht
    exact ⟨fun z => r1 ⟨z.1, z.2.2⟩, fun z => r2 (fun y => z ⟨y.1, q, y.2⟩)⟩
  · obtain ⟨r1, r2⟩ := h2 q
    exact ⟨fun z => absurd z.2.1 q, fun _ => by rw [r1, r2]; exact ⟨rfl, rfl⟩⟩

set_option maxHeartbeats 4000000 in
theorem c_exp_loop {G : xa_G} {h0 : xa_H} {x kk : Nat} {br am po sp : Nat → Int} {tj tb lo ti : Int} {k kb kl kbr kam nl nb na : Nat} {pl lw : Nat → Int} {sj rdy : Int} {ld dg : Nat → Int} {pa jo : Nat} {wa sr pu ri : Int} (hB9 : vB ld dg pa jo wa sr pu ri) (hsj : -1 ≤ sj ∧ sj < (jo : Int)) (hP : kP jo wa sr sj pl lw) (hPL : PL k kb kl kbr kam) (hkk : kb + 3 ≤ k) (hkb : 2 ≤ kb) (hk : 2 ≤ k) (hna : kN pa jo wa sr sj ≤ (na : Int)) (hnb : nb = na * 11) (hna9 : na ≤ 100000) (hnl : 360 * kN pa jo wa sr sj ≤ (nl : Int)) (hnl9 : nl ≤ 583200)  (hstb : xStb po sp tj tb) (hTI : kTI ld dg pa jo wa sr pu sj br am) (hR : kR ld dg pa jo wa sr pu sj br (x / 360) 19) (hx9 : x < (360 * kN pa jo wa sr sj).toNat) : ∀ (d : Nat) (i mb n : Nat) (Q P M D : Nat → Nat) (lk tk en : Nat → Int) (z : Nat) (g5 g6 g7 : Option xa_V) (h : xa_H), 20 - i < d → (i ≤ 11) → (kc pa jo wa sr sj ((x / 360 : Nat) : Int) mb = i) → (eI ld dg pa jo wa sr pu ri sj lk tk en ((z : Nat) : Int) lo ti Q P M D n kk mb) → (Q kk = x) → (P 0 = 0) → (∀ t, t < 360 → -1 ≤ tk t ∧ tk t ≤ 1000) → (h.2 = h0.2) → (k + 11 < h.2) → (kl < h.2) → (kbr < h.2) → (kam < h.2) → (h.1 k = xa_o 3 [xa_r kb, xa_r (k + 4), xa_r (k + 1), xa_r (k + 2), xa_r kl, xa_i rdy, xa_i 1, xa_i ((x : Nat) : Int), xa_i ((z : Nat) : Int), xa_i lo, xa_i ti, xa_i ((sC tk : Nat) : Int)]) → (h.1 (k + 1) = xa_a 360 tk) → (h.1 (k + 2) = xa_a 360 en) → (h.1 kl = xa_a nl lk) → (h.1 (k + 4) = xa_o 6 [xa_r kb, xa_r (k + 4 + 5), xa_i sj, xa_r (k + 4 + 1), xa_r (k + 4 + 2), xa_i (((kN pa jo wa sr sj).toNat : Nat) : Int), xa_i (kF pa jo wa sr sj), xa_i (kF pa jo wa sr sj + (if 2 < pa then 27 else 9) - 1), xa_r kbr, xa_r kam]) → (h.1 (k + 4 + 1) = xa_a 2 pl) → (h.1 (k + 4 + 2) = xa_a 2 lw) → (h.1 kbr = xa_a nb br) → (h.1 kam = xa_a na am) → (h.1 (k + 4 + 5) = xa_o 4 [xa_r kb, xa_r (k + 4 + 5 + 1), xa_r (k + 4 + 5 + 2), xa_i tj, xa_i tb]) → (h.1 (k + 4 + 5 + 1) = xa_a 3 po) → (h.1 (k + 4 + 5 + 2) = xa_a 2 sp) → (h.1 kb = xa_o 0 [xa_r (kb + 1), xa_r (kb + 2), xa_i ((pa : Nat) : Int), xa_i ((jo : Nat) : Int), xa_i wa, xa_i sr, xa_i pu, xa_i ri]) → (h.1 (kb + 1) = xa_a 9 ld) → (h.1 (kb + 2) = xa_a 2 dg) → (∀ i, ((i < k ∨ k + 12 ≤ i) ∧ i ≠ kl ∧ i ≠ kbr ∧ i ≠ kam) → h.1 i = h0.1 i) → xa_W G mX3_expandFirst (xa_Z G (fun r h' => r = none ∧ (∃ (lk' tk' en' br' am' po' sp' : Nat → Int) (op' fi' la' lo' ti' tj' tb' : Int) (Q P M D : Nat → Nat) (n : Nat), sI ld dg pa jo wa sr pu ri sj lk' tk' en' op' fi' la' lo' ti' ((sC tk' : Nat) : Int) Q P M D n (kk + 1) ∧ P 0 = 0 ∧ kTI ld dg pa jo wa sr pu sj br' am' ∧ xStb po' sp' tj' tb' ∧ h'.1 k = xa_o 3 [xa_r kb, xa_r (k + 4), xa_r (k + 1), xa_r (k + 2), xa_r kl, xa_i rdy, xa_i op', xa_i fi', xa_i la', xa_i lo', xa_i ti', xa_i ((sC tk' : Nat) : Int)] ∧ h'.1 (k + 1) = xa_a 360 tk' ∧ h'.1 (k + 2) = xa_a 360 en' ∧ h'.1 kl = xa_a nl lk' ∧ h'.1 (k + 4) = xa_o 6 [xa_r kb, xa_r (k + 4 + 5), xa_i sj, xa_r (k + 4 + 1), xa_r (k + 4 + 2), xa_i (((kN pa jo wa sr sj).toNat : Nat) : Int), xa_i (kF pa jo wa sr sj), xa_i (kF pa jo wa sr sj + (if 2 < pa then 27 else 9) - 1), xa_r kbr, xa_r kam] ∧ h'.1 (k + 4 + 1) = xa_a 2 pl ∧ h'.1 (k + 4 + 2) = xa_a 2 lw ∧ h'.1 kbr = xa_a nb br' ∧ h'.1 kam = xa_a na am' ∧ h'.1 (k + 4 + 5) = xa_o 4 [xa_r kb, xa_r (k + 4 + 5 + 1), xa_r (k + 4 + 5 + 2), xa_i tj', xa_i tb'] ∧ h'.1 (k + 4 + 5 + 1) = xa_a 3 po' ∧ h'.1 (k + 4 + 5 + 2) = xa_a 2 sp' ∧ h'.1 kb = xa_o 0 [xa_r (kb + 1), xa_r (kb + 2), xa_i ((pa : Nat) : Int), xa_i ((jo : Nat) : Int), xa_i wa, xa_i sr, xa_i pu, xa_i ri] ∧ h'.1 (kb + 1) = xa_a 9 ld ∧ h'.1 (kb + 2) = xa_a 2 dg) ∧ h'.2 = h0.2 ∧ ∀ i, ((i < k ∨ k + 12 ≤ i) ∧ i ≠ kl ∧ i ≠ kbr ∧ i ≠ kam) → h'.1 i = h0.1 i)) 30 [some (xa_r k), some (xa_i ((x / 360 : Nat) : Int)), some (xa_i ((x % 360 : Nat) : Int)), some (xa_i ((kc pa jo wa sr sj ((x / 360 : Nat) : Int) 19 : Nat) : Int)), some (xa_i ((i : Nat) : Int)), g5, g6, g7] [] h 0 0 := by
  intro d
  induction d with
  | zero => intros; exfalso; omega
  | succ d ih =>
    intro i mb n Q P M D lk tk en z g5 g6 g7 h hd hi11 hi hI hQx hP0 htk hn0 hkn hkl2 hkbr2 hkam2 hE0 hE1 hE2 hE3 hT0 hT1 hT2 hT3 hT4 hS0 hS1 hS2 hB0 hB1 hB2 fr0
    have hn : h.2 = h.2 := rfl
    have fr : ∀ i, ((i < k ∨ k + 12 ≤ i) ∧ i ≠ kl ∧ i ≠ kbr ∧ i ≠ kam) → h.1 i = h.1 i := fun _ _ => rfl
    have hN := kN_b (sj := sj) hB9
    have hF := kF_b (sj := sj) hB9
    have hri := hB9.2.2.2.2.2.2.2
    have hk11 := kc_11 (pa := pa) (jo := jo) (wa := wa) (sr := sr) (sj := sj) ((x / 360 : Nat) : Int)
    obtain ⟨hn1, f2, f3, f4, f5, f6, f7⟩ := eI_f hI hP0
    have hzq : z = Q (n - 1) := by omega
    clear f3
    have hl2 := hPL.l2 hk
    have hx6 : 0 ≤ ((x / 360 : Nat) : Int) ∧ ((x / 360 : Nat) : Int) < kN pa jo wa sr sj := by omega
    refine xa_iload (pc := 30) dX3_expandFirst_30 rfl ?_
    refine xa_iload_n (pc := 32) dX3_expandFirst_32 rfl ?_
    refine xa_icmp_ge (pc := 33) (tgt := 140) dX3_expandFirst_33 (by decide) ⟨by omega, by omega⟩ ⟨by omega, by omega⟩ (fun c_33 => ?_) (fun c_33 => ?_)
    · skip
      have hlkx := eI_nx hB9 hI hQx
      have hlo9 := eI_lo hB9 hI
      refine xa_aload_n (pc := 140) dX3_expandFirst_140 rfl ?_
      refine xa_callV (pc := 141) (as := []) (rest := []) dX3_expandFirst_141 ⟨qX3_goOn.1, qX3_goOn.2.1, qX3_goOn.2.2, by decide, by decide⟩ lkRX3_123 imX3_goOn seX3_goOn rfl rfl (by omega) (by omega) hE0 rfl (Nat.le_of_ble_eq_true rfl) (Nat.zero_le _) (Nat.zero_le _) (c_goOn k kb kl nl x (if kk + 1 < n then Q (kk + 1) else 0) z (Q (P kk) / 360) (sC tk) lk rdy lo ti hk (by omega) hPL.2.1 (by omega) (by omega) hnl9 (by omega) hlo9 f5 (ct_le _ 360) (by omega) (by omega) hlkx.2 hE0 hE3) (fun r h' hq => ?_)
      obtain ⟨rfl, ⟨op', fi', lo', ti', hE0, hg1, hg2⟩, hqn, hqf⟩ := hq
      have hE0 : h'.1 k = xa_o 3 [xa_r kb, xa_r (k + 4), xa_r (k + 1), xa_r (k + 2), xa_r kl, xa_i rdy, xa_i op', xa_i fi', xa_i ((z : Nat) : Int), xa_i lo', xa_i ti', xa_i ((sC tk : Nat) : Int)] := hE0
      have hE1 : h'.1 (k + 1) = xa_a 360 tk := (hqf _ (by omega)).trans hE1
      have hE2 : h'.1 (k + 2) = xa_a 360 en := (hqf _ (by omega)).trans hE2
      have hE3 : h'.1 kl = xa_a nl lk := (hqf _ (Ne.symm (hPL.l 0 (by decide) (by decide)))).trans hE3
      have hT0 : h'.1 (k + 4) = xa_o 6 [xa_r kb, xa_r (k + 4 + 5), xa_i sj, xa_r (k + 4 + 1), xa_r (k + 4 + 2), xa_i (((kN pa jo wa sr sj).toNat : Nat) : Int), xa_i (kF pa jo wa sr sj), xa_i (kF pa jo wa sr sj + (if 2 < pa then 27 else 9) - 1), xa_r kbr, xa_r kam] := (hqf _ (by omega)).trans hT0
      have hT1 : h'.1 (k + 4 + 1) = xa_a 2 pl := (hqf _ (by omega)).trans hT1
      have hT2 : h'.1 (k + 4 + 2) = xa_a 2 lw := (hqf _ (by omega)).trans hT2
      have hT3 : h'.1 kbr = xa_a nb br := (hqf _ (Ne.symm (hPL.r 0 (by decide) (by decide)))).trans hT3
      have hT4 : h'.1 kam = xa_a na am := (hqf _ (Ne.symm (hPL.a 0 (by decide) (by decide)))).trans hT4
      have hS0 : h'.1 (k + 4 + 5) = xa_o 4 [xa_r kb, xa_r (k + 4 + 5 + 1), xa_r (k + 4 + 5 + 2), xa_i tj, xa_i tb] := (hqf _ (by omega)).trans hS0
      have hS1 : h'.1 (k + 4 + 5 + 1) = xa_a 3 po := (hqf _ (by omega)).trans hS1
      have hS2 : h'.1 (k + 4 + 5 + 2) = xa_a 2 sp := (hqf _ (by omega)).trans hS2
      have hB0 : h'.1 kb = xa_o 0 [xa_r (kb + 1), xa_r (kb + 2), xa_i ((pa : Nat) : Int), xa_i ((jo : Nat) : Int), xa_i wa, xa_i sr, xa_i pu, xa_i ri] := (hqf _ (by omega)).trans hB0
      have hB1 : h'.1 (kb + 1) = xa_a 9 ld := (hqf _ (by omega)).trans hB1
      have hB2 : h'.1 (kb + 2) = xa_a 2 dg := (hqf _ (by omega)).trans hB2
      have hn : h'.2 = h.2 := hqn.trans hn
      have fr : ∀ i, ((i < k ∨ k + 12 ≤ i) ∧ i ≠ kl ∧ i ≠ kbr ∧ i ≠ kam) → h'.1 i = h.1 i := fun i hi => (hqf i (by omega)).trans (fr i hi)
      refine xa_return (pc := 144) dX3_expandFirst_144 rfl ?_
      have hfin := eI_end (op' := op') (fi' := fi') (lo' := lo') (ti' := ti') (z := (if kk + 1 < n then Q (kk + 1) else 0)) hI (by rw [hQx]; exact kc_last (by omega)) (fun q => if_pos q) (by rw [hQx]; exact hg1) (by rw [hQx]; exact hg2)
      exact ⟨rfl, ⟨lk, tk, en, br, am, po, sp, op', fi', _, lo', ti', tj, tb, Q, P, M, D, n, hfin, hP0, hTI, hstb, hE0, hE1, hE2, hE3, hT0, hT1, hT2, hT3, hT4, hS0, hS1, hS2, hB0, hB1, hB2⟩, by omega, fun i hi => (fr i hi).trans (fr0 i hi)⟩
    · skip
      obtain ⟨m, c', hm1, hm2, hm3, hm4, hm5⟩ := kc_next hi (by omega)
      have hkw := kw_lt (ld := ld) (dg := dg) (pu := pu) hB9 hx6 hm3
      have hc1 := kmv_ok hB9 hx6 hm3
      have hke := kE_b hB9 hc1
      have hkx := kx_b hB9 hc1 (u := ((((x % 360 : Nat) : Int) + cf_turn ld dg pa pu c' ((m : Nat) : Int)) % 360)) (by omega)
      have hI1 := eI_skip hI hm1 (by rw [hQx]; exact hm5)
      refine xa_aload_n (pc := 36) dX3_expandFirst_36 rfl ?_
      refine xa_getfield (pc := 37) dX3_expandFirst_37 flRX3_30 (by omega) (by omega) hE0 rfl ?_
      refine xa_iload_n (pc := 40) dX3_expandFirst_40 rfl ?_
      refine xa_iload (pc := 41) dX3_expandFirst_41 rfl ?_
      refine xa_callV (pc := 43) (as := [xa_i ((x / 360 : Nat) : Int), xa_i ((i : Nat) : Int)]) (rest := []) dX3_expandFirst_43 ⟨qX6_branch.1, qX6_branch.2.1, qX6_branch.2.2, by decide, by decide⟩ lkRX3_114 imX6_branch seX6_branch rfl rfl (by omega) (by omega) hT0 rfl (Nat.le_of_ble_eq_true rfl) (Nat.zero_le _) (Nat.zero_le _) (c_branch _ _ _ _ _ _ _ _ _ _ _ _ _ _ (by omega) (by omega) (hPL.r2 hk) (by omega) (x / 360) i (by omega) (by omega) (by omega) hT0 hT1 hT2 hT3 hT4) (fun r h' hq => ?_)
      obtain ⟨hq1, hq⟩ := hq
      have hq := hq.symm
      subst hq
      rw [if_pos (by omega), ← hm4, hR _ _ (by omega) hm3] at hq1
      subst hq1
      refine xa_istorew (pc := 46) [some (xa_r k), some (xa_i ((x / 360 : Nat) : Int)), some (xa_i ((x % 360 : Nat) : Int)), some (xa_i ((kc pa jo wa sr sj ((x / 360 : Nat) : Int) 19 : Nat) : Int)), some (xa_i ((i : Nat) : Int)), some (xa_i ((kw ld dg pa jo wa sr pu sj ((x / 360 : Nat) : Int) m : Nat) : Int)), g6, g7] dX3_expandFirst_46 (by decide) (Nat.le_of_ble_eq_true rfl) rfl rfl ?_
      refine xa_iload_n (pc := 48) dX3_expandFirst_48 rfl ?_
      refine xa_iload (pc := 49) dX3_expandFirst_49 rfl ?_
      refine xa_callS (pc := 51) (as := [xa_i ((kw ld dg pa jo wa sr pu sj ((x / 360 : Nat) : Int) m : Nat) : Int)]) (rest := [xa_i ((x % 360 : Nat) : Int)]) dX3_expandFirst_51 ⟨qX6_angleOf.1, qX6_angleOf.2.1, qX6_angleOf.2.2, by decide, by decide⟩ lkRX3_64 smX6_angleOf rfl rfl (Nat.le_of_ble_eq_true rfl) (Nat.zero_le _) (Nat.zero_le _) (c_angleOf (kw ld dg pa jo wa sr pu sj ((x / 360 : Nat) : Int) m) (by omega)) (fun r h' hq => ?_)
      obtain ⟨rfl, hq⟩ := hq
      have hq := hq.symm
      subst hq
      refine xa_top (y := (((cf_turn ld dg pa pu c' ((m : Nat) : Int) % 360).toNat : Nat) : Int)) (by rw [hkw.2.2.2]) ?_
      refine xa_iadd (pc := 54) dX3_expandFirst_54 ?_
      refine xa_istorew (pc := 55) [some (xa_r k), some (xa_i ((x / 360 : Nat) : Int)), some (xa_i ((x % 360 : Nat) : Int)), some (xa_i ((kc pa jo wa sr sj ((x / 360 : Nat) : Int) 19 : Nat) : Int)), some (xa_i ((i : Nat) : Int)), some (xa_i ((kw ld dg pa jo wa sr pu sj ((x / 360 : Nat) : Int) m : Nat) : Int)), some (xa_i (((x % 360 : Nat) : Int) + (((cf_turn ld dg pa pu c' ((m : Nat) : Int) % 360).toNat : Nat) : Int))), g7] dX3_expandFirst_55 (by decide) (Nat.le_of_ble_eq_true rfl) rfl rfl ?_
      refine xa_iload (pc := 57) dX3_expandFirst_57 rfl ?_
      refine xa_callS (pc := 59) (as := [xa_i ((kw ld dg pa jo wa sr pu sj ((x / 360 : Nat) : Int) m : Nat) : Int)]) (rest := []) dX3_expandFirst_59 ⟨qX6_shapeOf.1, qX6_shapeOf.2.1, qX6_shapeOf.2.2, by decide, by decide⟩ lkRX3_117 smX6_shapeOf rfl rfl (Nat.le_of_ble_eq_true rfl) (Nat.zero_le _) (Nat.zero_le _) (c_shapeOf (kw ld dg pa jo wa sr pu sj ((x / 360 : Nat) : Int) m) (by omega)) (fun r h' hq => ?_)
      obtain ⟨rfl, hq⟩ := hq
      have hq := hq.symm
      subst hq
      have K86 : xa_W G mX3_expandFirst (xa_Z G (fun r h' => r = none ∧ (∃ (lk' tk' en' br' am' po' sp' : Nat → Int) (op' fi' la' lo' ti' tj' tb' : Int) (Q P M D : Nat → Nat) (n : Nat), sI ld dg pa jo wa sr pu ri sj lk' tk' en' op' fi' la' lo' ti' ((sC tk' : Nat) : Int) Q P M D n (kk + 1) ∧ P 0 = 0 ∧ kTI ld dg pa jo wa sr pu sj br' am' ∧ xStb po' sp' tj' tb' ∧ h'.1 k = xa_o 3 [xa_r kb, xa_r (k + 4), xa_r (k + 1), xa_r (k + 2), xa_r kl, xa_i rdy, xa_i op', xa_i fi', xa_i la', xa_i lo', xa_i ti', xa_i ((sC tk' : Nat) : Int)] ∧ h'.1 (k + 1) = xa_a 360 tk' ∧ h'.1 (k + 2) = xa_a 360 en' ∧ h'.1 kl = xa_a nl lk' ∧ h'.1 (k + 4) = xa_o 6 [xa_r kb, xa_r (k + 4 + 5), xa_i sj, xa_r (k + 4 + 1), xa_r (k + 4 + 2), xa_i (((kN pa jo wa sr sj).toNat : Nat) : Int), xa_i (kF pa jo wa sr sj), xa_i (kF pa jo wa sr sj + (if 2 < pa then 27 else 9) - 1), xa_r kbr, xa_r kam] ∧ h'.1 (k + 4 + 1) = xa_a 2 pl ∧ h'.1 (k + 4 + 2) = xa_a 2 lw ∧ h'.1 kbr = xa_a nb br' ∧ h'.1 kam = xa_a na am' ∧ h'.1 (k + 4 + 5) = xa_o 4 [xa_r kb, xa_r (k + 4 + 5 + 1), xa_r (k + 4 + 5 + 2), xa_i tj', xa_i tb'] ∧ h'.1 (k + 4 + 5 + 1) = xa_a 3 po' ∧ h'.1 (k + 4 + 5 + 2) = xa_a 2 sp' ∧ h'.1 kb = xa_o 0 [xa_r (kb + 1), xa_r (kb + 2), xa_i ((pa : Nat) : Int), xa_i ((jo : Nat) : Int), xa_i wa, xa_i sr, xa_i pu, xa_i ri] ∧ h'.1 (kb + 1) = xa_a 9 ld ∧ h'.1 (kb + 2) = xa_a 2 dg) ∧ h'.2 = h0.2 ∧ ∀ i, ((i < k ∨ k + 12 ≤ i) ∧ i ≠ kl ∧ i ≠ kbr ∧ i ≠ kam) → h'.1 i = h0.1 i)) 86 [some (xa_r k), some (xa_i ((x / 360 : Nat) : Int)), some (xa_i ((x % 360 : Nat) : Int)), some (xa_i ((kc pa jo wa sr sj ((x / 360 : Nat) : Int) 19 : Nat) : Int)), some (xa_i ((i : Nat) : Int)), some (xa_i ((kw ld dg pa jo wa sr pu sj ((x / 360 : Nat) : Int) m : Nat) : Int)), some (xa_i (((x % 360 : Nat) : Int) + (((cf_turn ld dg pa pu c' ((m : Nat) : Int) % 360).toNat : Nat) : Int))), g7] [xa_i ((((kx pa jo wa sr sj c' ((((x % 360 : Nat) : Int) + cf_turn ld dg pa pu c' ((m : Nat) : Int)) % 360)) : Nat) : Int))] h 0 0 := by
        refine xa_istorew (pc := 86) [some (xa_r k), some (xa_i ((x / 360 : Nat) : Int)), some (xa_i ((x % 360 : Nat) : Int)), some (xa_i ((kc pa jo wa sr sj ((x / 360 : Nat) : Int) 19 : Nat) : Int)), some (xa_i ((i : Nat) : Int)), some (xa_i ((kw ld dg pa jo wa sr pu sj ((x / 360 : Nat) : Int) m : Nat) : Int)), some (xa_i (((x % 360 : Nat) : Int) + (((cf_turn ld dg pa pu c' ((m : Nat) : Int) % 360).toNat : Nat) : Int))), some (xa_i (((kx pa jo wa sr sj c' ((((x % 360 : Nat) : Int) + cf_turn ld dg pa pu c' ((m : Nat) : Int)) % 360)) : Nat) : Int))] dX3_expandFirst_86 (by decide) (Nat.le_of_ble_eq_true rfl) rfl rfl ?_
        refine xa_iload (pc := 88) dX3_expandFirst_88 rfl ?_
        refine xa_if_lt (pc := 90) (tgt := 134) dX3_expandFirst_90 (by decide) ⟨by omega, by omega⟩ (fun c_90 => ?_) (fun c_90 => ?_)
        · skip
          exfalso; omega
        · skip
          refine xa_iload (pc := 93) dX3_expandFirst_93 rfl ?_
          refine xa_aload_n (pc := 95) dX3_expandFirst_95 rfl ?_
          refine xa_getfield (pc := 96) dX3_expandFirst_96 flRX3_18 (by omega) (by omega) hE0 rfl ?_
          refine xa_alen (pc := 99) dX3_expandFirst_99 (by omega) hE3 ?_
          refine xa_icmp_ge (pc := 100) (tgt := 134) dX3_expandFirst_100 (by decide) ⟨by omega, by omega⟩ ⟨by omega, by omega⟩ (fun c_100 => ?_) (fun c_100 => ?_)
          · skip
            exfalso; omega
          · skip
            refine xa_aload_n (pc := 103) dX3_expandFirst_103 rfl ?_
            refine xa_getfield (pc := 104) dX3_expandFirst_104 flRX3_18 (by omega) (by omega) hE0 rfl ?_
            refine xa_iload (pc := 107) dX3_expandFirst_107 rfl ?_
            refine xa_ialdw (pc := 109) (kx pa jo wa sr sj c' ((((x % 360 : Nat) : Int) + cf_turn ld dg pa pu c' ((m : Nat) : Int)) % 360)) dX3_expandFirst_109 (by omega) hE3 (by omega) (by omega) (Int.toNat_natCast _) ?_
            have hlb := lk_b hB9 hI1 hP0 hkx.1
            refine xa_iconst (pc := 110) dX3_expandFirst_110 ?_
            refine xa_icmp_ne (pc := 111) (tgt := 134) dX3_expandFirst_111 (by decide) ⟨by omega, by omega⟩ (by decide) (fun c_111 => ?_) (fun c_111 => ?_)
            · skip
              refine xa_iincw (pc := 134) (y := ((i + 1 : Nat) : Int)) [some (xa_r k), some (xa_i ((x / 360 : Nat) : Int)), some (xa_i ((x % 360 : Nat) : Int)), some (xa_i ((kc pa jo wa sr sj ((x / 360 : Nat) : Int) 19 : Nat) : Int)), some (xa_i ((i + 1 : Nat) : Int)), some (xa_i ((kw ld dg pa jo wa sr pu sj ((x / 360 : Nat) : Int) m : Nat) : Int)), some (xa_i (((x % 360 : Nat) : Int) + (((cf_turn ld dg pa pu c' ((m : Nat) : Int) % 360).toNat : Nat) : Int))), some (xa_i (((kx pa jo wa sr sj c' ((((x % 360 : Nat) : Int) + cf_turn ld dg pa pu c' ((m : Nat) : Int)) % 360)) : Nat) : Int))] dX3_expandFirst_134 (by decide) rfl rfl (by omega) rfl ?_
              refine xa_goto (pc := 137) (tgt := 30) dX3_expandFirst_137 (by decide) ?_
              exact ih (i + 1) (m + 1) n _ _ _ _ _ _ _ _ _ _ _ _ (by omega) (by omega) (by rw [kc_y hm3]; omega) (eI_old hI1 (by rw [hQx]; exact hm3) (by rw [hQx]) hkx.1 c_111) hQx hP0 htk (by omega) (by omega) (by omega) (by omega) (by omega) hE0 hE1 hE2 hE3 hT0 hT1 hT2 hT3 hT4 hS0 hS1 hS2 hB0 hB1 hB2 (fun i hi => (fr i hi).trans (fr0 i hi))
            · skip
              refine xa_aload_n (pc := 114) dX3_expandFirst_114 rfl ?_
              refine xa_getfield (pc := 115) dX3_expandFirst_115 flRX3_18 (by omega) (by omega) hE0 rfl ?_
              refine xa_iload (pc := 118) dX3_expandFirst_118 rfl ?_
              refine xa_iload_n (pc := 120) dX3_expandFirst_120 rfl ?_
              refine xa_bipush (pc := 121) dX3_expandFirst_121 rfl ?_
              refine xa_ishl (pc := 123) dX3_expandFirst_123 ?_
              refine xa_ldc (pc := 124) (n := 1048575) dX3_expandFirst_124 ctRX3_104 rfl ?_
              refine xa_ior (pc := 126) dX3_expandFirst_126 ?_
              refine xa_top (y := ((x / 360 : Nat) : Int) * 1048576 + 1048575) (lk_first (by omega)) ?_
              refine xa_iastw (pc := 127) (kx pa jo wa sr sj c' ((((x % 360 : Nat) : Int) + cf_turn ld dg pa pu c' ((m : Nat) : Int)) % 360)) dX3_expandFirst_127 (by omega) (by omega) hE3 (by omega) (by omega) (Int.toNat_natCast _) (fun h1 nh1 ch1 oh1 => ?_)
              have hE3 : h1.1 kl = xa_a nl (xa_upf lk (kx pa jo wa sr sj c' ((((x % 360 : Nat) : Int) + cf_turn ld dg pa pu c' ((m : Nat) : Int)) % 360)) (((x / 360 : Nat) : Int) * 1048576 + 1048575)) := ch1
              have hE0 : h1.1 k = xa_o 3 [xa_r kb, xa_r (k + 4), xa_r (k + 1), xa_r (k + 2), xa_r kl, xa_i rdy, xa_i 1, xa_i ((x : Nat) : Int), xa_i ((z : Nat) : Int), xa_i lo, xa_i ti, xa_i ((sC tk : Nat) : Int)] := (oh1 _ (hPL.l 0 (by decide) (by decide))).trans hE0
              have hE1 : h1.1 (k + 1) = xa_a 360 tk := (oh1 _ (hPL.l 1 (by decide) (by decide))).trans hE1
              have hE2 : h1.1 (k + 2) = xa_a 360 en := (oh1 _ (hPL.l 2 (by decide) (by decide))).trans hE2
              have hT0 : h1.1 (k + 4) = xa_o 6 [xa_r kb, xa_r (k + 4 + 5), xa_i sj, xa_r (k + 4 + 1), xa_r (k + 4 + 2), xa_i (((kN pa jo wa sr sj).toNat : Nat) : Int), xa_i (kF pa jo wa sr sj), xa_i (kF pa jo wa sr sj + (if 2 < pa then 27 else 9) - 1), xa_r kbr, xa_r kam] := (oh1 _ (hPL.l 4 (by decide) (by decide))).trans hT0
              have hT1 : h1.1 (k + 4 + 1) = xa_a 2 pl := (oh1 _ (hPL.l 5 (by decide) (by decide))).trans hT1
              have hT2 : h1.1 (k + 4 + 2) = xa_a 2 lw := (oh1 _ (hPL.l 6 (by decide) (by decide))).trans hT2
              have hT3 : h1.1 kbr = xa_a nb br := (oh1 _ hPL.lr.symm).trans hT3
              have hT4 : h1.1 kam = xa_a na am := (oh1 _ hPL.la.symm).trans hT4
              have hS0 : h1.1 (k + 4 + 5) = xa_o 4 [xa_r kb, xa_r (k + 4 + 5 + 1), xa_r (k + 4 + 5 + 2), xa_i tj, xa_i tb] := (oh1 _ (hPL.l 9 (by decide) (by decide))).trans hS0
              have hS1 : h1.1 (k + 4 + 5 + 1) = xa_a 3 po := (oh1 _ (hPL.l 10 (by decide) (by decide))).trans hS1
              have hS2 : h1.1 (k + 4 + 5 + 2) = xa_a 2 sp := (oh1 _ (hPL.l 11 (by decide) (by decide))).trans hS2
              have hB0 : h1.1 kb = xa_o 0 [xa_r (kb + 1), xa_r (kb + 2), xa_i ((pa : Nat) : Int), xa_i ((jo : Nat) : Int), xa_i wa, xa_i sr, xa_i pu, xa_i ri] := (oh1 _ (hPL.lb 0 (by decide))).trans hB0
              have hB1 : h1.1 (kb + 1) = xa_a 9 ld := (oh1 _ (hPL.lb 1 (by decide))).trans hB1
              have hB2 : h1.1 (kb + 2) = xa_a 2 dg := (oh1 _ (hPL.lb 2 (by decide))).trans hB2
              have hn : h1.2 = h.2 := nh1.trans hn
              have fr : ∀ i, ((i < k ∨ k + 12 ≤ i) ∧ i ≠ kl ∧ i ≠ kbr ∧ i ≠ kam) → h1.1 i = h.1 i := fun i hi => (oh1 i (by omega)).trans (fr i hi)
              refine xa_aload_n (pc := 128) dX3_expandFirst_128 rfl ?_
              refine xa_iload (pc := 129) dX3_expandFirst_129 rfl ?_
              refine xa_callV (pc := 131) (as := [xa_i (((kx pa jo wa sr sj c' ((((x % 360 : Nat) : Int) + cf_turn ld dg pa pu c' ((m : Nat) : Int)) % 360)) : Nat) : Int)]) (rest := []) dX3_expandFirst_131 ⟨qX3_enqueue.1, qX3_enqueue.2.1, qX3_enqueue.2.2, by decide, by decide⟩ lkRX3_120 imX3_enqueue seX3_enqueue rfl rfl (by omega) (by omega) hE0 rfl (Nat.le_of_ble_eq_true rfl) (Nat.zero_le _) (Nat.zero_le _) (c_enqueue k kb kl kbr kam nl nb na (kN pa jo wa sr sj).toNat tk en (xa_upf lk (kx pa jo wa sr sj c' ((((x % 360 : Nat) : Int) + cf_turn ld dg pa pu c' ((m : Nat) : Int)) % 360)) (((x / 360 : Nat) : Int) * 1048576 + 1048575)) pl lw br am rdy 1 ((x : Nat) : Int) lo ti sj (kF pa jo wa sr sj) (kF pa jo wa sr sj + (if 2 < pa then 27 else 9) - 1) (kx pa jo wa sr sj c' ((((x % 360 : Nat) : Int) + cf_turn ld dg pa pu c' ((m : Nat) : Int)) % 360)) z _ _ wa sr pu ri hk (by omega) hPL.2.1 (by omega) hPL.2.2.1 (by omega) hPL.2.2.2.1 (by omega) ⟨hPL.ra, hPL.lr, hPL.la⟩ hkb hkk hri f5 (by omega) (by split <;> omega) (by omega) (by omega) hnl9 htk hE0 hE1 hE2 hE3 hT0 hT1 hT2 hT3 hT4 hB0) (fun r h' hq => ?_)
              obtain ⟨rfl, ⟨tk', en', hE0, hE1, hE2, hE3, htk', hst1, hst2⟩, hqn, hqf⟩ := hq
              have hE0 : h'.1 k = xa_o 3 [xa_r kb, xa_r (k + 4), xa_r (k + 1), xa_r (k + 2), xa_r kl, xa_i rdy, xa_i 1, xa_i ((x : Nat) : Int), xa_i (((kx pa jo wa sr sj c' ((((x % 360 : Nat) : Int) + cf_turn ld dg pa pu c' ((m : Nat) : Int)) % 360)) : Nat) : Int), xa_i lo, xa_i ti, xa_i ((sC tk' : Nat) : Int)] := hE0
              have hE1 : h'.1 (k + 1) = xa_a 360 tk' := hE1
              have hE2 : h'.1 (k + 2) = xa_a 360 en' := hE2
              have hE3 : h'.1 kl = xa_a nl (xa_upf (xa_upf lk (kx pa jo wa sr sj c' ((((x % 360 : Nat) : Int) + cf_turn ld dg pa pu c' ((m : Nat) : Int)) % 360)) (((x / 360 : Nat) : Int) * 1048576 + 1048575)) z (xa_or (xa_and ((xa_upf lk (kx pa jo wa sr sj c' ((((x % 360 : Nat) : Int) + cf_turn ld dg pa pu c' ((m : Nat) : Int)) % 360)) (((x / 360 : Nat) : Int) * 1048576 + 1048575)) z) (-1048576)) (((kx pa jo wa sr sj c' ((((x % 360 : Nat) : Int) + cf_turn ld dg pa pu c' ((m : Nat) : Int)) % 360)) : Nat) : Int))) := hE3
              have hT0 : h'.1 (k + 4) = xa_o 6 [xa_r kb, xa_r (k + 4 + 5), xa_i sj, xa_r (k + 4 + 1), xa_r (k + 4 + 2), xa_i (((kN pa jo wa sr sj).toNat : Nat) : Int), xa_i (kF pa jo wa sr sj), xa_i (kF pa jo wa sr sj + (if 2 < pa then 27 else 9) - 1), xa_r kbr, xa_r kam] := (hqf _ ⟨by omega, (hPL.l 4 (by decide) (by decide))⟩).trans hT0
              have hT1 : h'.1 (k + 4 + 1) = xa_a 2 pl := (hqf _ ⟨by omega, (hPL.l 5 (by decide) (by decide))⟩).trans hT1
              have hT2 : h'.1 (k + 4 + 2) = xa_a 2 lw := (hqf _ ⟨by omega, (hPL.l 6 (by decide) (by decide))⟩).trans hT2
              have hT3 : h'.1 kbr = xa_a nb br := (hqf _ ⟨hPL.r3, hPL.lr.symm⟩).trans hT3
              have hT4 : h'.1 kam = xa_a na am := (hqf _ ⟨hPL.a3, hPL.la.symm⟩).trans hT4
              have hS0 : h'.1 (k + 4 + 5) = xa_o 4 [xa_r kb, xa_r (k + 4 + 5 + 1), xa_r (k + 4 + 5 + 2), xa_i tj, xa_i tb] := (hqf _ ⟨by omega, (hPL.l 9 (by decide) (by decide))⟩).trans hS0
              have hS1 : h'.1 (k + 4 + 5 + 1) = xa_a 3 po := (hqf _ ⟨by omega, (hPL.l 10 (by decide) (by decide))⟩).trans hS1
              have hS2 : h'.1 (k + 4 + 5 + 2) = xa_a 2 sp := (hqf _ ⟨by omega, (hPL.l 11 (by decide) (by decide))⟩).trans hS2
              have hB0 : h'.1 kb = xa_o 0 [xa_r (kb + 1), xa_r (kb + 2), xa_i ((pa : Nat) : Int), xa_i ((jo : Nat) : Int), xa_i wa, xa_i sr, xa_i pu, xa_i ri] := (hqf _ ⟨by omega, (hPL.lb 0 (by decide))⟩).trans hB0
              have hB1 : h'.1 (kb + 1) = xa_a 9 ld := (hqf _ ⟨by omega, (hPL.lb 1 (by decide))⟩).trans hB1
              have hB2 : h'.1 (kb + 2) = xa_a 2 dg := (hqf _ ⟨by omega, (hPL.lb 2 (by decide))⟩).trans hB2
              have hn : h'.2 = h.2 := hqn.trans hn
              have fr : ∀ i, ((i < k ∨ k + 12 ≤ i) ∧ i ≠ kl ∧ i ≠ kbr ∧ i ≠ kam) → h'.1 i = h.1 i := fun i hi => (hqf i (by omega)).trans (fr i hi)
              refine xa_iincw (pc := 134) (y := ((i + 1 : Nat) : Int)) [some (xa_r k), some (xa_i ((x / 360 : Nat) : Int)), some (xa_i ((x % 360 : Nat) : Int)), some (xa_i ((kc pa jo wa sr sj ((x / 360 : Nat) : Int) 19 : Nat) : Int)), some (xa_i ((i + 1 : Nat) : Int)), some (xa_i ((kw ld dg pa jo wa sr pu sj ((x / 360 : Nat) : Int) m : Nat) : Int)), some (xa_i (((x % 360 : Nat) : Int) + (((cf_turn ld dg pa pu c' ((m : Nat) : Int) % 360).toNat : Nat) : Int))), some (xa_i (((kx pa jo wa sr sj c' ((((x % 360 : Nat) : Int) + cf_turn ld dg pa pu c' ((m : Nat) : Int)) % 360)) : Nat) : Int))] dX3_expandFirst_134 (by decide) rfl rfl (by omega) rfl ?_
              refine xa_goto (pc := 137) (tgt := 30) dX3_expandFirst_137 (by decide) ?_
              have hne := eI_fresh hI1 c_111
              obtain ⟨w1, hI2⟩ := eI_new hI1 (by omega) (by rw [hQx]; exact hm3) (by rw [hQx]) hkx.1 c_111 (ans_new hB9 hc1 (by omega) rfl hst1 hst2)
              have hzy : z ≠ (kx pa jo wa sr sj c' ((((x % 360 : Nat) : Int) + cf_turn ld dg pa pu c' ((m : Nat) : Int)) % 360)) := fun q => hne (n - 1) (by omega) (by rw [← hzq]; exact q)
              rw [← hzq] at w1 hI2
              rw [hQx] at hI2
              have hwd : xa_or (xa_and ((xa_upf lk (kx pa jo wa sr sj c' ((((x % 360 : Nat) : Int) + cf_turn ld dg pa pu c' ((m : Nat) : Int)) % 360)) (((x / 360 : Nat) : Int) * 1048576 + 1048575)) z) (-1048576)) (((kx pa jo wa sr sj c' ((((x % 360 : Nat) : Int) + cf_turn ld dg pa pu c' ((m : Nat) : Int)) % 360)) : Nat) : Int) = ((Q (P (n - 1)) / 360 : Nat) : Int) * 1048576 + (((kx pa jo wa sr sj c' ((((x % 360 : Nat) : Int) + cf_turn ld dg pa pu c' ((m : Nat) : Int)) % 360)) : Nat) : Int) := by
                rw [xa_upf_ne _ _ hzy, w1]
                exact lk_word (by omega) (by omega)
              rw [hwd] at hE3
              exact ih (i + 1) (m + 1) (n + 1) _ _ _ _ _ _ _ _ _ _ _ _ (by omega) (by omega) (by rw [kc_y hm3]; omega) hI2 (by rw [qup_ne _ _ (by omega)]; exact hQx) (by rw [qup_ne _ _ (by omega)]; exact hP0) htk' (by omega) (by omega) (by omega) (by omega) (by omega) hE0 hE1 hE2 hE3 hT0 hT1 hT2 hT3 hT4 hS0 hS1 hS2 hB0 hB1 hB2 (fun i hi => (fr i hi).trans (fr0 i hi))
      refine xa_top (y := (((kE pa jo wa sr sj c').toNat : Nat) : Int)) (by rw [hkw.2.2.1]) ?_
      refine xa_sipush (pc := 62) dX3_expandFirst_62 rfl ?_
      refine xa_imul (pc := 65) dX3_expandFirst_65 ?_
      refine xa_iload (pc := 66) dX3_expandFirst_66 rfl ?_
      refine xa_sipush (pc := 68) dX3_expandFirst_68 rfl ?_
      refine xa_icmp_ge (pc := 71) (tgt := 79) dX3_expandFirst_71 (by decide) ⟨by omega, by omega⟩ (by decide) (fun c_71 => ?_) (fun c_71 => ?_)
      · skip
        refine xa_iload (pc := 79) dX3_expandFirst_79 rfl ?_
        refine xa_sipush (pc := 81) dX3_expandFirst_81 rfl ?_
        refine xa_isub (pc := 84) dX3_expandFirst_84 ?_
        refine xa_iadd (pc := 85) dX3_expandFirst_85 ?_
        refine xa_top (y := (((kx pa jo wa sr sj c' ((((x % 360 : Nat) : Int) + cf_turn ld dg pa pu c' ((m : Nat) : Int)) % 360)) : Nat) : Int)) (by omega) ?_
        exact K86
      · skip
        refine xa_iload (pc := 74) dX3_expandFirst_74 rfl ?_
        refine xa_goto (pc := 76) (tgt := 85) dX3_expandFirst_76 (by decide) ?_
        refine xa_iadd (pc := 85) dX3_expandFirst_85 ?_
        refine xa_top (y := (((kx pa jo wa sr sj c' ((((x % 360 : Nat) : Int) + cf_turn ld dg pa pu c' ((m : Nat) : Int)) % 360)) : Nat) : Int)) (by omega) ?_
        exact K86
theorem c_expandFirst {G : xa_G} {h : xa_H} (br am po sp lk tk en : Nat → Int) (tj tb op fi la lo ti an : Int) (Q P M D : Nat → Nat) (n kk : Nat) (k kb kl kbr kam nl nb na : Nat) (pl lw : Nat → Int) (sj rdy : Int) (ld dg : Nat → Int) (pa jo : Nat) (wa sr pu ri : Int) (hB9 : vB ld dg pa jo wa sr pu ri) (hsj : -1 ≤ sj ∧ sj < (jo : Int)) (hP : kP jo wa sr sj pl lw) (hPL : PL k kb kl kbr kam) (hkk : kb + 3 ≤ k) (hkb : 2 ≤ kb) (hk : 2 ≤ k) (hna : kN pa jo wa sr sj ≤ (na : Int)) (hnb : nb = na * 11) (hna9 : na ≤ 100000) (hnl : 360 * kN pa jo wa sr sj ≤ (nl : Int)) (hnl9 : nl ≤ 583200)  (hkn : k + 11 < h.2) (hkl2 : kl < h.2) (hkbr2 : kbr < h.2) (hkam2 : kam < h.2) (hstb : xStb po sp tj tb) (hTI : kTI ld dg pa jo wa sr pu sj br am) (hI : sI ld dg pa jo wa sr pu ri sj lk tk en op fi la lo ti an Q P M D n kk) (hP0 : P 0 = 0) (hop : op = 1) (hE0 : h.1 k = xa_o 3 [xa_r kb, xa_r (k + 4), xa_r (k + 1), xa_r (k + 2), xa_r kl, xa_i rdy, xa_i op, xa_i fi, xa_i la, xa_i lo, xa_i ti, xa_i an]) (hE1 : h.1 (k + 1) = xa_a 360 tk) (hE2 : h.1 (k + 2) = xa_a 360 en) (hE3 : h.1 kl = xa_a nl lk) (hT0 : h.1 (k + 4) = xa_o 6 [xa_r kb, xa_r (k + 4 + 5), xa_i sj, xa_r (k + 4 + 1), xa_r (k + 4 + 2), xa_i (((kN pa jo wa sr sj).toNat : Nat) : Int), xa_i (kF pa jo wa sr sj), xa_i (kF pa jo wa sr sj + (if 2 < pa then 27 else 9) - 1), xa_r kbr, xa_r kam]) (hT1 : h.1 (k + 4 + 1) = xa_a 2 pl) (hT2 : h.1 (k + 4 + 2) = xa_a 2 lw) (hT3 : h.1 kbr = xa_a nb br) (hT4 : h.1 kam = xa_a na am) (hS0 : h.1 (k + 4 + 5) = xa_o 4 [xa_r kb, xa_r (k + 4 + 5 + 1), xa_r (k + 4 + 5 + 2), xa_i tj, xa_i tb]) (hS1 : h.1 (k + 4 + 5 + 1) = xa_a 3 po) (hS2 : h.1 (k + 4 + 5 + 2) = xa_a 2 sp) (hB0 : h.1 kb = xa_o 0 [xa_r (kb + 1), xa_r (kb + 2), xa_i ((pa : Nat) : Int), xa_i ((jo : Nat) : Int), xa_i wa, xa_i sr, xa_i pu, xa_i ri]) (hB1 : h.1 (kb + 1) = xa_a 9 ld) (hB2 : h.1 (kb + 2) = xa_a 2 dg) : xa_M G mX3_expandFirst [xa_r k] h 0 0 (fun r h' => r = none ∧ (∃ (lk' tk' en' br' am' po' sp' : Nat → Int) (op' fi' la' lo' ti' tj' tb' : Int) (Q P M D : Nat → Nat) (n : Nat), sI ld dg pa jo wa sr pu ri sj lk' tk' en' op' fi' la' lo' ti' ((sC tk' : Nat) : Int) Q P M D n (kk + 1) ∧ P 0 = 0 ∧ kTI ld dg pa jo wa sr pu sj br' am' ∧ xStb po' sp' tj' tb' ∧ h'.1 k = xa_o 3 [xa_r kb, xa_r (k + 4), xa_r (k + 1), xa_r (k + 2), xa_r kl, xa_i rdy, xa_i op', xa_i fi', xa_i la', xa_i lo', xa_i ti', xa_i ((sC tk' : Nat) : Int)] ∧ h'.1 (k + 1) = xa_a 360 tk' ∧ h'.1 (k + 2) = xa_a 360 en' ∧ h'.1 kl = xa_a nl lk' ∧ h'.1 (k + 4) = xa_o 6 [xa_r kb, xa_r (k + 4 + 5), xa_i sj, xa_r (k + 4 + 1), xa_r (k + 4 + 2), xa_i (((kN pa jo wa sr sj).toNat : Nat) : Int), xa_i (kF pa jo wa sr sj), xa_i (kF pa jo wa sr sj + (if 2 < pa then 27 else 9) - 1), xa_r kbr, xa_r kam] ∧ h'.1 (k + 4 + 1) = xa_a 2 pl ∧ h'.1 (k + 4 + 2) = xa_a 2 lw ∧ h'.1 kbr = xa_a nb br' ∧ h'.1 kam = xa_a na am' ∧ h'.1 (k + 4 + 5) = xa_o 4 [xa_r kb, xa_r (k + 4 + 5 + 1), xa_r (k + 4 + 5 + 2), xa_i tj', xa_i tb'] ∧ h'.1 (k + 4 + 5 + 1) = xa_a 3 po' ∧ h'.1 (k + 4 + 5 + 2) = xa_a 2 sp' ∧ h'.1 kb = xa_o 0 [xa_r (kb + 1), xa_r (kb + 2), xa_i ((pa : Nat) : Int), xa_i ((jo : Nat) : Int), xa_i wa, xa_i sr, xa_i pu, xa_i ri] ∧ h'.1 (kb + 1) = xa_a 9 ld ∧ h'.1 (kb + 2) = xa_a 2 dg) ∧ h'.2 = h.2 ∧ ∀ i, ((i < k ∨ k + 12 ≤ i) ∧ i ≠ kl ∧ i ≠ kbr ∧ i ≠ kam) → h'.1 i = h.1 i) := by
  obtain ⟨hI0, hfx, hax⟩ := eI_of hI hop
  have hN := kN_b (sj := sj) hB9
  have h0 := hB9.1
  have hx9 := hI0.1.2.1 kk hI0.2.2.2.2.2.1
  have htk : ∀ t, t < 360 → -1 ≤ tk t ∧ tk t ≤ 1000 := fun t ht => by have := sI_b hI ht; omega
  have hn1 := hI0.1.1.1
  obtain ⟨z, hz⟩ : ∃ z : Nat, la = (z : Int) := ⟨Q (n - 1), hI0.2.2.2.2.1⟩
  subst hz
  subst hop
  obtain ⟨x, hx⟩ : ∃ x : Nat, x = Q kk := ⟨_, rfl⟩
  rw [← hx] at hfx hx9
  subst hfx
  subst hax
  refine xa_enter (by decide +kernel) (Nat.le_of_ble_eq_true rfl) ?_
  refine xa_locals (ls' := [some (xa_r k), none, none, none, none, none, none, none]) rfl ?_
  have hn : h.2 = h.2 := rfl
  have fr : ∀ i, ((i < k ∨ k + 12 ≤ i) ∧ i ≠ kl ∧ i ≠ kbr ∧ i ≠ kam) → h.1 i = h.1 i := fun _ _ => rfl
  refine xa_aload_n (pc := 0) dX3_expandFirst_0 rfl ?_
  refine xa_getfield (pc := 1) dX3_expandFirst_1 flRX3_95 (by omega) (by omega) hE0 rfl ?_
  refine xa_sipush (pc := 4) dX3_expandFirst_4 rfl ?_
  refine xa_idivn (pc := 7) dX3_expandFirst_7 ⟨by omega, by omega⟩ (by decide) (by omega) (by omega) ?_
  refine xa_top (y := ((x / 360 : Nat) : Int)) (by omega) ?_
  refine xa_istoren (pc := 8) [some (xa_r k), some (xa_i ((x / 360 : Nat) : Int)), none, none, none, none, none, none] dX3_expandFirst_8 (by decide) (Nat.le_of_ble_eq_true rfl) rfl rfl ?_
  refine xa_aload_n (pc := 9) dX3_expandFirst_9 rfl ?_
  refine xa_getfield (pc := 10) dX3_expandFirst_10 flRX3_95 (by omega) (by omega) hE0 rfl ?_
  refine xa_sipush (pc := 13) dX3_expandFirst_13 rfl ?_
  refine xa_iremn (pc := 16) dX3_expandFirst_16 ⟨by omega, by omega⟩ (by decide) (by omega) (by omega) ?_
  refine xa_top (y := ((x % 360 : Nat) : Int)) (by omega) ?_
  refine xa_istoren (pc := 17) [some (xa_r k), some (xa_i ((x / 360 : Nat) : Int)), some (xa_i ((x % 360 : Nat) : Int)), none, none, none, none, none] dX3_expandFirst_17 (by decide) (Nat.le_of_ble_eq_true rfl) rfl rfl ?_
  refine xa_aload_n (pc := 18) dX3_expandFirst_18 rfl ?_
  refine xa_getfield (pc := 19) dX3_expandFirst_19 flRX3_30 (by omega) (by omega) hE0 rfl ?_
  refine xa_iload_n (pc := 22) dX3_expandFirst_22 rfl ?_
  refine xa_callV (pc := 23) (as := [xa_i ((x / 360 : Nat) : Int)]) (rest := []) dX3_expandFirst_23 ⟨qX6_branchesOf.1, qX6_branchesOf.2.1, qX6_branchesOf.2.2, by decide, by decide⟩ lkRX3_111 imX6_branchesOf seX6_branchesOf rfl rfl (by omega) (by omega) hT0 rfl (Nat.le_of_ble_eq_true rfl) (Nat.zero_le _) (Nat.zero_le _) (c_branchesOf (x / 360) br am po sp tj tb _ _ _ _ _ _ _ pl lw _ _ _ ld dg pa jo wa sr pu ri hB9 (by omega) hP (by omega) hna hnb hna9 (by omega) hTI hstb.1 hstb.2.1 hstb.2.2.1 hstb.2.2.2 ⟨hT0, hT1, hT2, hT3, hT4, ⟨by omega, by omega⟩, ⟨hPL.tr, by omega⟩, ⟨hPL.ta, by omega⟩, hPL.ra⟩ ⟨hS0, hS1, hS2, by omega, by omega⟩ ⟨hB0, hB1, hB2, by omega, by omega⟩) (fun r h' hq => ?_)
  obtain ⟨rfl, ⟨br', am', po', sp', tj', tb', hTI', hR, ⟨-, -, -, hT3, hT4, -, -, -, -⟩, ⟨hS0, hS1, hS2, -, -⟩, hbd⟩, hqn, hqf⟩ := hq
  have hS0 : h'.1 (k + 4 + 5) = xa_o 4 [xa_r kb, xa_r (k + 4 + 5 + 1), xa_r (k + 4 + 5 + 2), xa_i tj', xa_i tb'] := hS0
  have hS1 : h'.1 (k + 4 + 5 + 1) = xa_a 3 po' := hS1
  have hS2 : h'.1 (k + 4 + 5 + 2) = xa_a 2 sp' := hS2
  have hT3 : h'.1 kbr = xa_a nb br' := hT3
  have hT4 : h'.1 kam = xa_a na am' := hT4
  have hE0 : h'.1 k = xa_o 3 [xa_r kb, xa_r (k + 4), xa_r (k + 1), xa_r (k + 2), xa_r kl, xa_i rdy, xa_i 1, xa_i ((x : Nat) : Int), xa_i ((z : Nat) : Int), xa_i lo, xa_i ti, xa_i ((sC tk : Nat) : Int)] := (hqf _ ⟨by omega, (hPL.r 0 (by decide) (by decide)), (hPL.a 0 (by decide) (by decide))⟩).trans hE0
  have hE1 : h'.1 (k + 1) = xa_a 360 tk := (hqf _ ⟨by omega, (hPL.r 1 (by decide) (by decide)), (hPL.a 1 (by decide) (by decide))⟩).trans hE1
  have hE2 : h'.1 (k + 2) = xa_a 360 en := (hqf _ ⟨by omega, (hPL.r 2 (by decide) (by decide)), (hPL.a 2 (by decide) (by decide))⟩).trans hE2
  have hE3 : h'.1 kl = xa_a nl lk := (hqf _ ⟨hPL.l9, hPL.lr, hPL.la⟩).trans hE3
  have hT0 : h'.1 (k + 4) = xa_o 6 [xa_r kb, xa_r (k + 4 + 5), xa_i sj, xa_r (k + 4 + 1), xa_r (k + 4 + 2), xa_i (((kN pa jo wa sr sj).toNat : Nat) : Int), xa_i (kF pa jo wa sr sj), xa_i (kF pa jo wa sr sj + (if 2 < pa then 27 else 9) - 1), xa_r kbr, xa_r kam] := (hqf _ ⟨by omega, (hPL.r 4 (by decide) (by decide)), (hPL.a 4 (by decide) (by decide))⟩).trans hT0
  have hT1 : h'.1 (k + 4 + 1) = xa_a 2 pl := (hqf _ ⟨by omega, (hPL.r 5 (by decide) (by decide)), (hPL.a 5 (by decide) (by decide))⟩).trans hT1
  have hT2 : h'.1 (k + 4 + 2) = xa_a 2 lw := (hqf _ ⟨by omega, (hPL.r 6 (by decide) (by decide)), (hPL.a 6 (by decide) (by decide))⟩).trans hT2
  have hB0 : h'.1 kb = xa_o 0 [xa_r (kb + 1), xa_r (kb + 2), xa_i ((pa : Nat) : Int), xa_i ((jo : Nat) : Int), xa_i wa, xa_i sr, xa_i pu, xa_i ri] := (hqf _ ⟨by omega, (hPL.rb 0 (by decide)), (hPL.ab 0 (by decide))⟩).trans hB0
  have hB1 : h'.1 (kb + 1) = xa_a 9 ld := (hqf _ ⟨by omega, (hPL.rb 1 (by decide)), (hPL.ab 1 (by decide))⟩).trans hB1
  have hB2 : h'.1 (kb + 2) = xa_a 2 dg := (hqf _ ⟨by omega, (hPL.rb 2 (by decide)), (hPL.ab 2 (by decide))⟩).trans hB2
  have hn : h'.2 = h.2 := hqn.trans hn
  have fr : ∀ i, ((i < k ∨ k + 12 ≤ i) ∧ i ≠ kl ∧ i ≠ kbr ∧ i ≠ kam) → h'.1 i = h.1 i := fun i hi => (hqf i (by omega)).trans (fr i hi)
  refine xa_istoren (pc := 26) [some (xa_r k), some (xa_i ((x / 360 : Nat) : Int)), some (xa_i ((x % 360 : Nat) : Int)), some (xa_i ((kc pa jo wa sr sj ((x / 360 : Nat) : Int) 19 : Nat) : Int)), none, none, none, none] dX3_expandFirst_26 (by decide) (Nat.le_of_ble_eq_true rfl) rfl rfl ?_
  refine xa_iconst (pc := 27) dX3_expandFirst_27 ?_
  refine xa_istorew (pc := 28) [some (xa_r k), some (xa_i ((x / 360 : Nat) : Int)), some (xa_i ((x % 360 : Nat) : Int)), some (xa_i ((kc pa jo wa sr sj ((x / 360 : Nat) : Int) 19 : Nat) : Int)), some (xa_i 0), none, none, none] dX3_expandFirst_28 (by decide) (Nat.le_of_ble_eq_true rfl) rfl rfl ?_
  exact c_exp_loop hB9 hsj hP hPL hkk hkb hk hna hnb hna9 hnl hnl9 hbd hTI' hR hx9 21 0 0 n Q P M D lk tk en z _ _ _ _ (by omega) (by omega) rfl hI0 hx.symm hP0 htk (by omega) (by omega) (by omega) (by omega) (by omega) hE0 hE1 hE2 hE3 hT0 hT1 hT2 hT3 hT4 hS0 hS1 hS2 hB0 hB1 hB2 fr
