/-! Search: the moves, and the calls from outside -/
def kC (rdy : Int) (na nl : Nat) (K : Int) : Nat × Nat := if rdy = 1 then (0, 0) else ((kA na K).1 + (kL nl (360 * K)).1, (kA na K).2 + (kL nl (360 * K)).2)
def kNl (rdy : Int) (nl : Nat) (K : Int) : Nat := if rdy = 1 then nl else if nl < kRm (360 * K) then kRm (360 * K) else nl
def kNa (rdy : Int) (na : Nat) (K : Int) : Nat := if rdy = 1 then na else if (na : Int) < K then K.toNat else na
/-- any state: ready or not -/
def xSA (h : xa_H) (k kb kl kbr kam nl na : Nat) (sj rdy : Int) (ld dg : Nat → Int) (pa jo : Nat) (wa sr pu ri : Int) : Prop := (rdy = 1 ∧ ∃ (tk : Nat → Int) (op ti : Int), xSR h k kb kl kbr kam nl na sj ld dg pa jo wa sr pu ri tk op ti) ∨ (rdy = 0 ∧ xSN h k kb kl kbr kam nl na sj)
theorem lk_par {ld dg : Nat → Int} {pa jo : Nat} {wa sr pu ri sj : Int} {lk tk en : Nat → Int} {op fi la lo ti an : Int} {Q P M D : Nat → Nat} {n k : Nat} (hB : vB ld dg pa jo wa sr pu ri) (h : sI ld dg pa jo wa sr pu ri sj lk tk en op fi la lo ti an Q P M D n k) {b : Nat} (hb : b < n) : ∃ y : Nat, y < 1048576 ∧ lk (Q b) = ((Q (P b) / 360 : Nat) : Int) * 1048576 + ((y : Nat) : Int) := by
  have hN := kN_b (sj := sj) hB
  have e := h.2.1.1 b hb
  by_cases q : b + 1 < n
  · rw [if_pos q] at e
    have := h.1.2.1 (b + 1) q
    exact ⟨Q (b + 1), by omega, e⟩
  · rw [if_neg q] at e
    exact ⟨1048575, by omega, e⟩

set_option maxHeartbeats 4000000 in
theorem c_move_loop {G : xa_G} {h0 : xa_H} {t i b n kk : Nat} {Q P M D : Nat → Nat} {lk tk en : Nat → Int} {op fi la lo ti an : Int} {k kb kl kbr kam nl nb na : Nat} {pl lw : Nat → Int} {sj : Int} {ld dg : Nat → Int} {pa jo : Nat} {wa sr pu ri : Int} (hB9 : vB ld dg pa jo wa sr pu ri) (hsj : -1 ≤ sj ∧ sj < (jo : Int)) (hP : kP jo wa sr sj pl lw) (hPL : PL k kb kl kbr kam) (hkk : kb + 3 ≤ k) (hkb : 2 ≤ kb) (hk : 2 ≤ k) (hna : kN pa jo wa sr sj ≤ (na : Int)) (hnb : nb = na * 11) (hna9 : na ≤ 100000) (hnl : 360 * kN pa jo wa sr sj ≤ (nl : Int)) (hnl9 : nl ≤ 583200) (hI : sI ld dg pa jo wa sr pu ri sj lk tk en op fi la lo ti an Q P M D n kk) (hb : b < n) (hi : i < D b) : ∀ (d : Nat) (j : Nat) (mvv : Int) (br am po sp : Nat → Int) (tj tb : Int) (g6 g7 : Option xa_V) (h : xa_H), D b - j < d → (j ≤ D b - i) → (∀ j1, j = j1 + 1 → mvv = ((M (anc P j1 b) : Nat) : Int)) → (kTI ld dg pa jo wa sr pu sj br am) → (xStb po sp tj tb) → (h.2 = h0.2) → (k + 11 < h.2) → (kl < h.2) → (kbr < h.2) → (kam < h.2) → (h.1 k = xa_o 3 [xa_r kb, xa_r (k + 4), xa_r (k + 1), xa_r (k + 2), xa_r kl, xa_i 1, xa_i op, xa_i fi, xa_i la, xa_i lo, xa_i ti, xa_i an]) → (h.1 (k + 1) = xa_a 360 tk) → (h.1 (k + 2) = xa_a 360 en) → (h.1 kl = xa_a nl lk) → (h.1 (k + 4) = xa_o 6 [xa_r kb, xa_r (k + 4 + 5), xa_i sj, xa_r (k + 4 + 1), xa_r (k + 4 + 2), xa_i (((kN pa jo wa sr sj).toNat : Nat) : Int), xa_i (kF pa jo wa sr sj), xa_i (kF pa jo wa sr sj + (if 2 < pa then 27 else 9) - 1), xa_r kbr, xa_r kam]) → (h.1 (k + 4 + 1) = xa_a 2 pl) → (h.1 (k + 4 + 2) = xa_a 2 lw) → (h.1 kbr = xa_a nb br) → (h.1 kam = xa_a na am) → (h.1 (k + 4 + 5) = xa_o 4 [xa_r kb, xa_r (k + 4 + 5 + 1), xa_r (k + 4 + 5 + 2), xa_i tj, xa_i tb]) → (h.1 (k + 4 + 5 + 1) = xa_a 3 po) → (h.1 (k + 4 + 5 + 2) = xa_a 2 sp) → (h.1 kb = xa_o 0 [xa_r (kb + 1), xa_r (kb + 2), xa_i ((pa : Nat) : Int), xa_i ((jo : Nat) : Int), xa_i wa, xa_i sr, xa_i pu, xa_i ri]) → (h.1 (kb + 1) = xa_a 9 ld) → (h.1 (kb + 2) = xa_a 2 dg) → (∀ i, ((i < k ∨ k + 12 ≤ i) ∧ i ≠ kl ∧ i ≠ kbr ∧ i ≠ kam) → h.1 i = h0.1 i) → xa_W G mX3_moveFrom (xa_Z G (fun r h' => r = some (xa_i ((M (anc P (D b - 1 - i) b) : Nat) : Int)) ∧ (∃ (br' am' po' sp' : Nat → Int) (tj' tb' : Int), kTI ld dg pa jo wa sr pu sj br' am' ∧ xStb po' sp' tj' tb' ∧ h'.1 k = xa_o 3 [xa_r kb, xa_r (k + 4), xa_r (k + 1), xa_r (k + 2), xa_r kl, xa_i 1, xa_i op, xa_i fi, xa_i la, xa_i lo, xa_i ti, xa_i an] ∧ h'.1 (k + 1) = xa_a 360 tk ∧ h'.1 (k + 2) = xa_a 360 en ∧ h'.1 kl = xa_a nl lk ∧ h'.1 (k + 4) = xa_o 6 [xa_r kb, xa_r (k + 4 + 5), xa_i sj, xa_r (k + 4 + 1), xa_r (k + 4 + 2), xa_i (((kN pa jo wa sr sj).toNat : Nat) : Int), xa_i (kF pa jo wa sr sj), xa_i (kF pa jo wa sr sj + (if 2 < pa then 27 else 9) - 1), xa_r kbr, xa_r kam] ∧ h'.1 (k + 4 + 1) = xa_a 2 pl ∧ h'.1 (k + 4 + 2) = xa_a 2 lw ∧ h'.1 kbr = xa_a nb br' ∧ h'.1 kam = xa_a na am' ∧ h'.1 (k + 4 + 5) = xa_o 4 [xa_r kb, xa_r (k + 4 + 5 + 1), xa_r (k + 4 + 5 + 2), xa_i tj', xa_i tb'] ∧ h'.1 (k + 4 + 5 + 1) = xa_a 3 po' ∧ h'.1 (k + 4 + 5 + 2) = xa_a 2 sp' ∧ h'.1 kb = xa_o 0 [xa_r (kb + 1), xa_r (kb + 2), xa_i ((pa : Nat) : Int), xa_i ((jo : Nat) : Int), xa_i wa, xa_i sr, xa_i pu, xa_i ri] ∧ h'.1 (kb + 1) = xa_a 9 ld ∧ h'.1 (kb + 2) = xa_a 2 dg) ∧ h'.2 = h0.2 ∧ ∀ i, ((i < k ∨ k + 12 ≤ i) ∧ i ≠ kl ∧ i ≠ kbr ∧ i ≠ kam) → h'.1 i = h0.1 i)) 43 [some (xa_r k), some (xa_i ((t : Nat) : Int)), some (xa_i ((i : Nat) : Int)), some (xa_i mvv), some (xa_i (((Q (anc P j b)) : Nat) : Int)), some (xa_i (((D b : Nat) : Int) - ((j : Nat) : Int))), g6, g7] [] h 0 0 := by
  intro d
  induction d with
  | zero => intros; exfalso; omega
  | succ d ih =>
    intro j mvv br am po sp tj tb g6 g7 h hd hj hmv hTI hstb hn0 hkn hkl2 hkbr2 hkam2 hE0 hE1 hE2 hE3 hT0 hT1 hT2 hT3 hT4 hS0 hS1 hS2 hB0 hB1 hB2 fr0
    have hn : h.2 = h.2 := rfl
    have fr : ∀ i, ((i < k ∨ k + 12 ≤ i) ∧ i ≠ kl ∧ i ≠ kbr ∧ i ≠ kam) → h.1 i = h.1 i := fun _ _ => rfl
    have hN := kN_b (sj := sj) hB9
    have h0 := hB9.1
    have hDb := hI.2.2.2.1 b hb
    have haj := anc_D hI.1 hb j (by omega)
    have hxj := hI.1.2.1 _ haj.1
    refine xa_iload (pc := 43) dX3_moveFrom_43 rfl ?_
    refine xa_iload_n (pc := 45) dX3_moveFrom_45 rfl ?_
    refine xa_icmp_le (pc := 46) (tgt := 132) dX3_moveFrom_46 (by decide) ⟨by omega, by omega⟩ ⟨by omega, by omega⟩ (fun c_46 => ?_) (fun c_46 => ?_)
    · skip
      refine xa_iload_n (pc := 132) dX3_moveFrom_132 rfl ?_
      refine xa_ireturn (pc := 133) dX3_moveFrom_133 rfl trivial ?_
      have hje : j = D b - i := by omega
      have e9 := hmv (D b - 1 - i) (by omega)
      exact ⟨by rw [e9], ⟨br, am, po, sp, tj, tb, hTI, hstb, hE0, hE1, hE2, hE3, hT0, hT1, hT2, hT3, hT4, hS0, hS1, hS2, hB0, hB1, hB2⟩, by omega, fun i hi => (fr i hi).trans (fr0 i hi)⟩
    · skip
      refine xa_iload (pc := 49) dX3_moveFrom_49 rfl ?_
      refine xa_if_lt (pc := 51) (tgt := 132) dX3_moveFrom_51 (by decide) ⟨by omega, by omega⟩ (fun c_51 => ?_) (fun c_51 => ?_)
      · skip
        exfalso; omega
      · skip
        refine xa_iload (pc := 54) dX3_moveFrom_54 rfl ?_
        refine xa_aload_n (pc := 56) dX3_moveFrom_56 rfl ?_
        refine xa_getfield (pc := 57) dX3_moveFrom_57 flRX3_18 (by omega) (by omega) hE0 rfl ?_
        refine xa_alen (pc := 60) dX3_moveFrom_60 (by omega) hE3 ?_
        refine xa_icmp_ge (pc := 61) (tgt := 132) dX3_moveFrom_61 (by decide) ⟨by omega, by omega⟩ ⟨by omega, by omega⟩ (fun c_61 => ?_) (fun c_61 => ?_)
        · skip
          exfalso; omega
        · skip
          have hj1 : j < D b := by omega
          have haj1 := anc_D hI.1 hb (j + 1) (by omega)
          have hxj1 := hI.1.2.1 _ haj1.1
          have hst := qI_step hI.1 hb hj1
          obtain ⟨c', hs1, hs2, hs3, hs4⟩ := sI_par hB9 hxj1 hst
          obtain ⟨yy, hy1, hy2⟩ := lk_par hB9 hI haj.1
          have hkw := kw_lt (ld := ld) (dg := dg) (pu := pu) hB9 (n := (((Q (anc P (j + 1) b)) / 360 : Nat) : Int)) (by omega) hs1
          have hpar : Q (P (anc P j b)) = Q (anc P (j + 1) b) := rfl
          rw [hpar] at hy2
          refine xa_aload_n (pc := 64) dX3_moveFrom_64 rfl ?_
          refine xa_getfield (pc := 65) dX3_moveFrom_65 flRX3_18 (by omega) (by omega) hE0 rfl ?_
          refine xa_iload (pc := 68) dX3_moveFrom_68 rfl ?_
          refine xa_ialdw (pc := 70) (Q (anc P j b)) dX3_moveFrom_70 (by omega) hE3 (by omega) (by omega) (Int.toNat_natCast _) ?_
          refine xa_bipush (pc := 71) dX3_moveFrom_71 rfl ?_
          refine xa_ishr (pc := 73) dX3_moveFrom_73 ?_
          refine xa_top (y := (((Q (anc P (j + 1) b)) / 360 : Nat) : Int)) (by rw [hy2]; exact lk_top (by omega) hy1) ?_
          refine xa_istorew (pc := 74) [some (xa_r k), some (xa_i ((t : Nat) : Int)), some (xa_i ((i : Nat) : Int)), some (xa_i mvv), some (xa_i (((Q (anc P j b)) : Nat) : Int)), some (xa_i (((D b : Nat) : Int) - ((j : Nat) : Int))), some (xa_i (((Q (anc P (j + 1) b)) / 360 : Nat) : Int)), g7] dX3_moveFrom_74 (by decide) (Nat.le_of_ble_eq_true rfl) rfl rfl ?_
          refine xa_aload_n (pc := 76) dX3_moveFrom_76 rfl ?_
          refine xa_getfield (pc := 77) dX3_moveFrom_77 flRX3_30 (by omega) (by omega) hE0 rfl ?_
          refine xa_iload (pc := 80) dX3_moveFrom_80 rfl ?_
          refine xa_iload (pc := 82) dX3_moveFrom_82 rfl ?_
          refine xa_sipush (pc := 84) dX3_moveFrom_84 rfl ?_
          refine xa_idivn (pc := 87) dX3_moveFrom_87 ⟨by omega, by omega⟩ (by decide) (by omega) (by omega) ?_
          refine xa_callV (pc := 88) (as := [xa_i (((Q (anc P (j + 1) b)) / 360 : Nat) : Int), xa_i ((((Q (anc P j b)) : Nat) : Int) / 360)]) (rest := []) dX3_moveFrom_88 ⟨qX6_branchBetween.1, qX6_branchBetween.2.1, qX6_branchBetween.2.2, by decide, by decide⟩ lkRX3_56 imX6_branchBetween seX6_branchBetween rfl rfl (by omega) (by omega) hT0 rfl (Nat.le_of_ble_eq_true rfl) (Nat.zero_le _) (Nat.zero_le _) (c_branchBetween ((Q (anc P (j + 1) b)) / 360) (M (anc P j b)) _ c' br am po sp tj tb _ _ _ _ _ _ _ pl lw _ _ _ ld dg pa jo wa sr pu ri hB9 (by omega) hP (by omega) hna hnb hna9 (by omega) hs1 (by omega) hTI hstb.1 hstb.2.1 hstb.2.2.1 hstb.2.2.2 ⟨hT0, hT1, hT2, hT3, hT4, ⟨by omega, by omega⟩, ⟨hPL.tr, by omega⟩, ⟨hPL.ta, by omega⟩, hPL.ra⟩ ⟨hS0, hS1, hS2, by omega, by omega⟩ ⟨hB0, hB1, hB2, by omega, by omega⟩) (fun r h' hq => ?_)
          obtain ⟨rfl, ⟨br', am', po', sp', tj', tb', hTI', hR, ⟨-, -, -, hT3, hT4, -, -, -, -⟩, ⟨hS0, hS1, hS2, -, -⟩, hbd⟩, hqn, hqf⟩ := hq
          have hS0 : h'.1 (k + 4 + 5) = xa_o 4 [xa_r kb, xa_r (k + 4 + 5 + 1), xa_r (k + 4 + 5 + 2), xa_i tj', xa_i tb'] := hS0
          have hS1 : h'.1 (k + 4 + 5 + 1) = xa_a 3 po' := hS1
          have hS2 : h'.1 (k + 4 + 5 + 2) = xa_a 2 sp' := hS2
          have hT3 : h'.1 kbr = xa_a nb br' := hT3
          have hT4 : h'.1 kam = xa_a na am' := hT4
          have hE0 : h'.1 k = xa_o 3 [xa_r kb, xa_r (k + 4), xa_r (k + 1), xa_r (k + 2), xa_r kl, xa_i 1, xa_i op, xa_i fi, xa_i la, xa_i lo, xa_i ti, xa_i an] := (hqf _ ⟨by omega, (hPL.r 0 (by decide) (by decide)), (hPL.a 0 (by decide) (by decide))⟩).trans hE0
          have hE1 : h'.1 (k + 1) = xa_a 360 tk := (hqf _ ⟨by omega, (hPL.r 1 (by decide) (by decide)), (hPL.a 1 (by decide) (by decide))⟩).trans hE1
          have hE2 : h'.1 (k + 2) = xa_a 360 en := (hqf _ ⟨by omega, (hPL.r 2 (by decide) (by decide)), (hPL.a 2 (by decide) (by decide))⟩).trans hE2
          have hE3 : h'.1 kl = xa_a nl lk := (hqf _ ⟨hPL.l9, hPL.lr, hPL.la⟩).trans hE3
          have hT0 : h'.1 (k + 4) = xa_o 6 [xa_r kb, xa_r (k + 4 + 5), xa_i sj, xa_r (k + 4 + 1), xa_r (k + 4 + 2), xa_i (((kN pa jo wa sr sj).toNat : Nat) : Int), xa_i (kF pa jo wa sr sj), xa_i (kF pa jo wa sr sj + (if 2 < pa then 27 else 9) - 1), xa_r kbr, xa_r kam] := (hqf _ ⟨by omega, (hPL.r 4 (by decide) (by decide)), (hPL.a 4 (by decide) (by decide))⟩).trans hT0
          have hT1 : h'.1 (k + 4 + 1) = xa_a 2 pl := (hqf _ ⟨by omega, (hPL.r 5 (by decide) (by decide)), (hPL.a 5 (by decide) (by decide))⟩).trans hT1
          have hT2 : h'.1 (k + 4 + 2) = xa_a 2 lw := (hqf _ ⟨by omega, (hPL.r 6 (by decide) (by decide)), (hPL.a 6 (by decide) (by decide))⟩).trans hT2
          have hB0 : h'.1 kb = xa_o 0 [xa_r (kb + 1), xa_r (kb + 2), xa_i ((pa : Nat) : Int), xa_i ((jo : Nat) : Int), xa_i wa, xa_i sr, xa_i pu, xa_i ri] := (hqf _ ⟨by omega, (hPL.rb 0 (by decide)), (hPL.ab 0 (by decide))⟩).trans hB0
          have hB1 : h'.1 (kb + 1) = xa_a 9 ld := (hqf _ ⟨by omega, (hPL.rb 1 (by decide)), (hPL.ab 1 (by decide))⟩).trans hB1
          have hB2 : h'.1 (kb + 2) = xa_a 2 dg := (hqf _ ⟨by omega, (hPL.rb 2 (by decide)), (hPL.ab 2 (by decide))⟩).trans hB2
          have hn : h'.2 = h.2 := hqn.trans hn
          have fr : ∀ i, ((i < k ∨ k + 12 ≤ i) ∧ i ≠ kl ∧ i ≠ kbr ∧ i ≠ kam) → h'.1 i = h.1 i := fun i hi => (hqf i (by omega)).trans (fr i hi)
          refine xa_istorew (pc := 91) [some (xa_r k), some (xa_i ((t : Nat) : Int)), some (xa_i ((i : Nat) : Int)), some (xa_i mvv), some (xa_i (((Q (anc P j b)) : Nat) : Int)), some (xa_i (((D b : Nat) : Int) - ((j : Nat) : Int))), some (xa_i (((Q (anc P (j + 1) b)) / 360 : Nat) : Int)), some (xa_i ((kw ld dg pa jo wa sr pu sj (((Q (anc P (j + 1) b)) / 360 : Nat) : Int) (M (anc P j b)) : Nat) : Int))] dX3_moveFrom_91 (by decide) (Nat.le_of_ble_eq_true rfl) rfl rfl ?_
          refine xa_iload (pc := 93) dX3_moveFrom_93 rfl ?_
          refine xa_callS (pc := 95) (as := [xa_i ((kw ld dg pa jo wa sr pu sj (((Q (anc P (j + 1) b)) / 360 : Nat) : Int) (M (anc P j b)) : Nat) : Int)]) (rest := []) dX3_moveFrom_95 ⟨qX6_moveOf.1, qX6_moveOf.2.1, qX6_moveOf.2.2, by decide, by decide⟩ lkRX3_60 smX6_moveOf rfl rfl (Nat.le_of_ble_eq_true rfl) (Nat.zero_le _) (Nat.zero_le _) (c_moveOf (kw ld dg pa jo wa sr pu sj (((Q (anc P (j + 1) b)) / 360 : Nat) : Int) (M (anc P j b))) (by omega)) (fun r h' hq => ?_)
          obtain ⟨rfl, hq⟩ := hq
          have hq := hq.symm
          subst hq
          refine xa_istoren (pc := 98) [some (xa_r k), some (xa_i ((t : Nat) : Int)), some (xa_i ((i : Nat) : Int)), some (xa_i ((kw ld dg pa jo wa sr pu sj (((Q (anc P (j + 1) b)) / 360 : Nat) : Int) (M (anc P j b)) % 32 : Nat) : Int)), some (xa_i (((Q (anc P j b)) : Nat) : Int)), some (xa_i (((D b : Nat) : Int) - ((j : Nat) : Int))), some (xa_i (((Q (anc P (j + 1) b)) / 360 : Nat) : Int)), some (xa_i ((kw ld dg pa jo wa sr pu sj (((Q (anc P (j + 1) b)) / 360 : Nat) : Int) (M (anc P j b)) : Nat) : Int))] dX3_moveFrom_98 (by decide) (Nat.le_of_ble_eq_true rfl) rfl rfl ?_
          refine xa_iload (pc := 99) dX3_moveFrom_99 rfl ?_
          refine xa_sipush (pc := 101) dX3_moveFrom_101 rfl ?_
          refine xa_imul (pc := 104) dX3_moveFrom_104 ?_
          refine xa_iload (pc := 105) dX3_moveFrom_105 rfl ?_
          refine xa_sipush (pc := 107) dX3_moveFrom_107 rfl ?_
          refine xa_iremn (pc := 110) dX3_moveFrom_110 ⟨by omega, by omega⟩ (by decide) (by omega) (by omega) ?_
          refine xa_iload (pc := 111) dX3_moveFrom_111 rfl ?_
          refine xa_callS (pc := 113) (as := [xa_i ((kw ld dg pa jo wa sr pu sj (((Q (anc P (j + 1) b)) / 360 : Nat) : Int) (M (anc P j b)) : Nat) : Int)]) (rest := [xa_i ((((Q (anc P j b)) : Nat) : Int) % 360), xa_i ((((Q (anc P (j + 1) b)) / 360 : Nat) : Int) * 360)]) dX3_moveFrom_113 ⟨qX6_angleOf.1, qX6_angleOf.2.1, qX6_angleOf.2.2, by decide, by decide⟩ lkRX3_64 smX6_angleOf rfl rfl (Nat.le_of_ble_eq_true rfl) (Nat.zero_le _) (Nat.zero_le _) (c_angleOf (kw ld dg pa jo wa sr pu sj (((Q (anc P (j + 1) b)) / 360 : Nat) : Int) (M (anc P j b))) (by omega)) (fun r h' hq => ?_)
          obtain ⟨rfl, hq⟩ := hq
          have hq := hq.symm
          subst hq
          refine xa_isub (pc := 116) dX3_moveFrom_116 ?_
          refine xa_sipush (pc := 117) dX3_moveFrom_117 rfl ?_
          refine xa_callS (pc := 120) (as := [xa_i (((((Q (anc P j b)) : Nat) : Int) % 360) - ((kw ld dg pa jo wa sr pu sj (((Q (anc P (j + 1) b)) / 360 : Nat) : Int) (M (anc P j b)) / 65536 : Nat) : Int)), xa_i 360]) (rest := [xa_i ((((Q (anc P (j + 1) b)) / 360 : Nat) : Int) * 360)]) dX3_moveFrom_120 ⟨qJ9_floorMod_7cf53.1, qJ9_floorMod_7cf53.2.1, qJ9_floorMod_7cf53.2.2, by decide, by decide⟩ lkRX3_67 smJ9_floorMod_7cf53 rfl rfl (Nat.le_of_ble_eq_true rfl) (Nat.zero_le _) (Nat.zero_le _) (c_floorMod _ _ ⟨by omega, by omega⟩ (by decide) (by omega)) (fun r h' hq => ?_)
          obtain ⟨rfl, hq⟩ := hq
          have hq := hq.symm
          subst hq
          refine xa_iadd (pc := 123) dX3_moveFrom_123 ?_
          refine xa_top (y := (((Q (anc P (j + 1) b)) : Nat) : Int)) (by rw [hkw.2.2.2]; omega) ?_
          refine xa_istorew (pc := 124) [some (xa_r k), some (xa_i ((t : Nat) : Int)), some (xa_i ((i : Nat) : Int)), some (xa_i ((kw ld dg pa jo wa sr pu sj (((Q (anc P (j + 1) b)) / 360 : Nat) : Int) (M (anc P j b)) % 32 : Nat) : Int)), some (xa_i (((Q (anc P (j + 1) b)) : Nat) : Int)), some (xa_i (((D b : Nat) : Int) - ((j : Nat) : Int))), some (xa_i (((Q (anc P (j + 1) b)) / 360 : Nat) : Int)), some (xa_i ((kw ld dg pa jo wa sr pu sj (((Q (anc P (j + 1) b)) / 360 : Nat) : Int) (M (anc P j b)) : Nat) : Int))] dX3_moveFrom_124 (by decide) (Nat.le_of_ble_eq_true rfl) rfl rfl ?_
          refine xa_iincw (pc := 126) (y := ((D b : Nat) : Int) - ((j + 1 : Nat) : Int)) [some (xa_r k), some (xa_i ((t : Nat) : Int)), some (xa_i ((i : Nat) : Int)), some (xa_i ((kw ld dg pa jo wa sr pu sj (((Q (anc P (j + 1) b)) / 360 : Nat) : Int) (M (anc P j b)) % 32 : Nat) : Int)), some (xa_i (((Q (anc P (j + 1) b)) : Nat) : Int)), some (xa_i (((D b : Nat) : Int) - ((j + 1 : Nat) : Int))), some (xa_i (((Q (anc P (j + 1) b)) / 360 : Nat) : Int)), some (xa_i ((kw ld dg pa jo wa sr pu sj (((Q (anc P (j + 1) b)) / 360 : Nat) : Int) (M (anc P j b)) : Nat) : Int))] dX3_moveFrom_126 (by decide) rfl rfl (by omega) rfl ?_
          refine xa_goto (pc := 129) (tgt := 43) dX3_moveFrom_129 (by decide) ?_
          exact ih (j + 1) _ br' am' po' sp' tj' tb' _ _ _ (by omega) (by omega) (fun j1 hj1 => by
            have e : j1 = j := by omega
            subst e
            rw [hkw.2.1]) hTI' hbd (by omega) (by omega) (by omega) (by omega) (by omega) hE0 hE1 hE2 hE3 hT0 hT1 hT2 hT3 hT4 hS0 hS1 hS2 hB0 hB1 hB2 (fun i hi => (fr i hi).trans (fr0 i hi))
theorem c_moveFrom0 {G : xa_G} {h : xa_H} (t i b n kk : Nat) (Q P M D : Nat → Nat) (lk tk en br am po sp : Nat → Int) (op fi la lo ti an tj tb : Int) (k kb kl kbr kam nl nb na : Nat) (pl lw : Nat → Int) (sj : Int) (ld dg : Nat → Int) (pa jo : Nat) (wa sr pu ri : Int) (hB9 : vB ld dg pa jo wa sr pu ri) (hsj : -1 ≤ sj ∧ sj < (jo : Int)) (hP : kP jo wa sr sj pl lw) (hPL : PL k kb kl kbr kam) (hkk : kb + 3 ≤ k) (hkb : 2 ≤ kb) (hk : 2 ≤ k) (hna : kN pa jo wa sr sj ≤ (na : Int)) (hnb : nb = na * 11) (hna9 : na ≤ 100000) (hnl : 360 * kN pa jo wa sr sj ≤ (nl : Int)) (hnl9 : nl ≤ 583200) (hkn : k + 11 < h.2) (hkl2 : kl < h.2) (hkbr2 : kbr < h.2) (hkam2 : kam < h.2) (hI : sI ld dg pa jo wa sr pu ri sj lk tk en op fi la lo ti an Q P M D n kk) (hb : b < n) (hi : i < D b) (ht : t < 360) (htk : tk t = ((D b : Nat) : Int)) (hen : en t = ((Q b : Nat) : Int)) (hTI : kTI ld dg pa jo wa sr pu sj br am) (hstb : xStb po sp tj tb) (hE0 : h.1 k = xa_o 3 [xa_r kb, xa_r (k + 4), xa_r (k + 1), xa_r (k + 2), xa_r kl, xa_i 1, xa_i op, xa_i fi, xa_i la, xa_i lo, xa_i ti, xa_i an]) (hE1 : h.1 (k + 1) = xa_a 360 tk) (hE2 : h.1 (k + 2) = xa_a 360 en) (hE3 : h.1 kl = xa_a nl lk) (hT0 : h.1 (k + 4) = xa_o 6 [xa_r kb, xa_r (k + 4 + 5), xa_i sj, xa_r (k + 4 + 1), xa_r (k + 4 + 2), xa_i (((kN pa jo wa sr sj).toNat : Nat) : Int), xa_i (kF pa jo wa sr sj), xa_i (kF pa jo wa sr sj + (if 2 < pa then 27 else 9) - 1), xa_r kbr, xa_r kam]) (hT1 : h.1 (k + 4 + 1) = xa_a 2 pl) (hT2 : h.1 (k + 4 + 2) = xa_a 2 lw) (hT3 : h.1 kbr = xa_a nb br) (hT4 : h.1 kam = xa_a na am) (hS0 : h.1 (k + 4 + 5) = xa_o 4 [xa_r kb, xa_r (k + 4 + 5 + 1), xa_r (k + 4 + 5 + 2), xa_i tj, xa_i tb]) (hS1 : h.1 (k + 4 + 5 + 1) = xa_a 3 po) (hS2 : h.1 (k + 4 + 5 + 2) = xa_a 2 sp) (hB0 : h.1 kb = xa_o 0 [xa_r (kb + 1), xa_r (kb + 2), xa_i ((pa : Nat) : Int), xa_i ((jo : Nat) : Int), xa_i wa, xa_i sr, xa_i pu, xa_i ri]) (hB1 : h.1 (kb + 1) = xa_a 9 ld) (hB2 : h.1 (kb + 2) = xa_a 2 dg) : xa_M G mX3_moveFrom [xa_r k, xa_i ((t : Nat) : Int), xa_i ((i : Nat) : Int)] h 0 0 (fun r h' => r = some (xa_i ((M (anc P (D b - 1 - i) b) : Nat) : Int)) ∧ (∃ (br' am' po' sp' : Nat → Int) (tj' tb' : Int), kTI ld dg pa jo wa sr pu sj br' am' ∧ xStb po' sp' tj' tb' ∧ h'.1 k = xa_o 3 [xa_r kb, xa_r (k + 4), xa_r (k + 1), xa_r (k + 2), xa_r kl, xa_i 1, xa_i op, xa_i fi, xa_i la, xa_i lo, xa_i ti, xa_i an] ∧ h'.1 (k + 1) = xa_a 360 tk ∧ h'.1 (k + 2) = xa_a 360 en ∧ h'.1 kl = xa_a nl lk ∧ h'.1 (k + 4) = xa_o 6 [xa_r kb, xa_r (k + 4 + 5), xa_i sj, xa_r (k + 4 + 1), xa_r (k + 4 + 2), xa_i (((kN pa jo wa sr sj).toNat : Nat) : Int), xa_i (kF pa jo wa sr sj), xa_i (kF pa jo wa sr sj + (if 2 < pa then 27 else 9) - 1), xa_r kbr, xa_r kam] ∧ h'.1 (k + 4 + 1) = xa_a 2 pl ∧ h'.1 (k + 4 + 2) = xa_a 2 lw ∧ h'.1 kbr = xa_a nb br' ∧ h'.1 kam = xa_a na am' ∧ h'.1 (k + 4 + 5) = xa_o 4 [xa_r kb, xa_r (k + 4 + 5 + 1), xa_r (k + 4 + 5 + 2), xa_i tj', xa_i tb'] ∧ h'.1 (k + 4 + 5 + 1) = xa_a 3 po' ∧ h'.1 (k + 4 + 5 + 2) = xa_a 2 sp' ∧ h'.1 kb = xa_o 0 [xa_r (kb + 1), xa_r (kb + 2), xa_i ((pa : Nat) : Int), xa_i ((jo : Nat) : Int), xa_i wa, xa_i sr, xa_i pu, xa_i ri] ∧ h'.1 (kb + 1) = xa_a 9 ld ∧ h'.1 (kb + 2) = xa_a 2 dg) ∧ h'.2 = h.2 ∧ ∀ i, ((i < k ∨ k + 12 ≤ i) ∧ i ≠ kl ∧ i ≠ kbr ∧ i ≠ kam) → h'.1 i = h.1 i) := by
  refine xa_enter (by decide +kernel) (Nat.le_of_ble_eq_true rfl) ?_
  refine xa_locals (ls' := [some (xa_r k), some (xa_i ((t : Nat) : Int)), some (xa_i ((i : Nat) : Int)), none, none, none, none, none]) rfl ?_
  have hn : h.2 = h.2 := rfl
  have fr : ∀ i, ((i < k ∨ k + 12 ≤ i) ∧ i ≠ kl ∧ i ≠ kbr ∧ i ≠ kam) → h.1 i = h.1 i := fun _ _ => rfl
  have hN := kN_b (sj := sj) hB9
  refine xa_bipush (pc := 0) dX3_moveFrom_0 rfl ?_
  refine xa_istoren (pc := 2) [some (xa_r k), some (xa_i ((t : Nat) : Int)), some (xa_i ((i : Nat) : Int)), some (xa_i (-4)), none, none, none, none] dX3_moveFrom_2 (by decide) (Nat.le_of_ble_eq_true rfl) rfl rfl ?_
  refine xa_iload_n (pc := 3) dX3_moveFrom_3 rfl ?_
  refine xa_if_lt (pc := 4) (tgt := 25) dX3_moveFrom_4 (by decide) ⟨by omega, by omega⟩ (fun c_4 => ?_) (fun c_4 => ?_)
  · skip
    exfalso; omega
  · skip
    refine xa_iload_n (pc := 7) dX3_moveFrom_7 rfl ?_
    refine xa_aload_n (pc := 8) dX3_moveFrom_8 rfl ?_
    refine xa_getfield (pc := 9) dX3_moveFrom_9 flRX3_11 (by omega) (by omega) hE0 rfl ?_
    refine xa_alen (pc := 12) dX3_moveFrom_12 (by omega) hE1 ?_
    refine xa_top (y := 360) rfl ?_
    refine xa_icmp_ge (pc := 13) (tgt := 25) dX3_moveFrom_13 (by decide) ⟨by omega, by omega⟩ (by decide) (fun c_13 => ?_) (fun c_13 => ?_)
    · skip
      exfalso; omega
    · skip
      refine xa_iload_n (pc := 16) dX3_moveFrom_16 rfl ?_
      refine xa_aload_n (pc := 17) dX3_moveFrom_17 rfl ?_
      refine xa_getfield (pc := 18) dX3_moveFrom_18 flRX3_15 (by omega) (by omega) hE0 rfl ?_
      refine xa_alen (pc := 21) dX3_moveFrom_21 (by omega) hE2 ?_
      refine xa_top (y := 360) rfl ?_
      refine xa_icmp_lt (pc := 22) (tgt := 27) dX3_moveFrom_22 (by decide) ⟨by omega, by omega⟩ (by decide) (fun c_22 => ?_) (fun c_22 => ?_)
      · skip
        refine xa_aload_n (pc := 27) dX3_moveFrom_27 rfl ?_
        refine xa_getfield (pc := 28) dX3_moveFrom_28 flRX3_15 (by omega) (by omega) hE0 rfl ?_
        refine xa_iload_n (pc := 31) dX3_moveFrom_31 rfl ?_
        refine xa_ialdw (pc := 32) t dX3_moveFrom_32 (by omega) hE2 (by omega) (by omega) (Int.toNat_natCast _) ?_
        refine xa_istorew (pc := 33) [some (xa_r k), some (xa_i ((t : Nat) : Int)), some (xa_i ((i : Nat) : Int)), some (xa_i (-4)), some (xa_i (en t)), none, none, none] dX3_moveFrom_33 (by decide) (Nat.le_of_ble_eq_true rfl) rfl rfl ?_
        refine xa_aload_n (pc := 35) dX3_moveFrom_35 rfl ?_
        refine xa_getfield (pc := 36) dX3_moveFrom_36 flRX3_11 (by omega) (by omega) hE0 rfl ?_
        refine xa_iload_n (pc := 39) dX3_moveFrom_39 rfl ?_
        refine xa_ialdw (pc := 40) t dX3_moveFrom_40 (by omega) hE1 (by omega) (by omega) (Int.toNat_natCast _) ?_
        refine xa_istorew (pc := 41) [some (xa_r k), some (xa_i ((t : Nat) : Int)), some (xa_i ((i : Nat) : Int)), some (xa_i (-4)), some (xa_i (en t)), some (xa_i (tk t)), none, none] dX3_moveFrom_41 (by decide) (Nat.le_of_ble_eq_true rfl) rfl rfl ?_
        refine xa_locals (ls' := [some (xa_r k), some (xa_i ((t : Nat) : Int)), some (xa_i ((i : Nat) : Int)), some (xa_i (-4)), some (xa_i ((Q (anc P 0 b) : Nat) : Int)), some (xa_i (((D b : Nat) : Int) - ((0 : Nat) : Int))), none, none]) (by rw [hen, htk]; show _ = [_, _, _, _, some (xa_i ((Q b : Nat) : Int)), some (xa_i (((D b : Nat) : Int) - 0)), _, _]; rw [Int.sub_zero]) ?_
        exact c_move_loop (t := t) hB9 hsj hP hPL hkk hkb hk hna hnb hna9 hnl hnl9 hI hb hi (D b + 1) 0 (-4) br am po sp tj tb _ _ h (by omega) (by omega) (fun j1 hj1 => by omega) hTI hstb rfl (by omega) (by omega) (by omega) (by omega) hE0 hE1 hE2 hE3 hT0 hT1 hT2 hT3 hT4 hS0 hS1 hS2 hB0 hB1 hB2 (fun _ _ => rfl)
      · skip
        exfalso; omega
theorem c_prepare1 {G : xa_G} {h : xa_H} (k kb kl : Nat) (op fi la lo ti an : Int) (hk : 2 ≤ k) (hkn : k + 11 < h.2) (hE0 : h.1 k = xa_o 3 [xa_r kb, xa_r (k + 4), xa_r (k + 1), xa_r (k + 2), xa_r kl, xa_i 1, xa_i op, xa_i fi, xa_i la, xa_i lo, xa_i ti, xa_i an]) : xa_M G mX3_prepare [xa_r k] h 0 0 (fun r h' => r = none ∧ h' = h) := by
  refine xa_enter (by decide +kernel) (Nat.le_of_ble_eq_true rfl) ?_
  refine xa_locals (ls' := [some (xa_r k), none]) rfl ?_
  refine xa_aload_n (pc := 0) dX3_prepare_0 rfl ?_
  refine xa_getfield (pc := 1) dX3_prepare_1 flRX3_34 (by omega) (by omega) hE0 rfl ?_
  refine xa_if_eq (pc := 4) (tgt := 8) dX3_prepare_4 (by decide) (by decide) (fun c_4 => ?_) (fun c_4 => ?_)
  · skip
    exfalso; omega
  · skip
    refine xa_return (pc := 7) dX3_prepare_7 rfl ?_
    exact ⟨rfl, rfl⟩
