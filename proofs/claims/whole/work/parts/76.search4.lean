/-! Search: made ready -/
theorem PL.m1 {k kb kl kbr kam kbr' kam' hh : Nat} (h : PL k kb kl kbr kam) (h1 : k + 12 ≤ hh) (h2 : kl < hh) (h3 : kbr' = kbr ∨ hh ≤ kbr') (h4 : kam' = kam ∨ hh ≤ kam') (h5 : kbr' ≠ kam') : PL k kb kl kbr' kam' := by
  unfold PL at h ⊢
  omega
theorem PL.m2 {k kb kl kbr kam kl' hh : Nat} (h : PL k kb kl kbr kam) (h1 : k + 12 ≤ hh) (h2 : kbr < hh) (h3 : kam < hh) (h4 : kl' = kl ∨ hh ≤ kl') : PL k kb kl' kbr kam := by
  unfold PL at h ⊢
  omega
theorem c_makeRoom {G : xa_G} {h : xa_H} (k kb kl nl : Nat) (lk : Nat → Int) (rdy op fi la lo ti an : Int) (hk : 2 ≤ k) (hkn : k + 11 < h.2) (hkl : k + 12 ≤ kl ∨ kl = k + 3) (hkl2 : kl < h.2) (st : Int) (hst : 0 ≤ st ∧ st ≤ 583200) (hnl : nl ≤ 583200) (hE0 : h.1 k = xa_o 3 [xa_r kb, xa_r (k + 4), xa_r (k + 1), xa_r (k + 2), xa_r kl, xa_i rdy, xa_i op, xa_i fi, xa_i la, xa_i lo, xa_i ti, xa_i an]) (hE3 : h.1 kl = xa_a nl lk) : xa_M G mX3_makeRoom [xa_r k, xa_i st] h (kL nl st).1 (kL nl st).2 (fun r h' => r = none ∧ (∃ (kl' nl' : Nat) (lk' : Nat → Int), h'.1 k = xa_o 3 [xa_r kb, xa_r (k + 4), xa_r (k + 1), xa_r (k + 2), xa_r kl', xa_i rdy, xa_i op, xa_i fi, xa_i la, xa_i lo, xa_i ti, xa_i an] ∧ h'.1 kl' = xa_a nl' lk' ∧ nl' = (if nl < kRm st then kRm st else nl) ∧ (kl' = kl ∨ h.2 ≤ kl') ∧ kl' < h'.2 ∧ st ≤ (nl' : Int) ∧ nl' ≤ 583200 ∧ kl' ≠ k) ∧ h'.2 = h.2 + (kL nl st).1 ∧ ∀ i, (i ≠ k ∧ i < h.2) → h'.1 i = h.1 i) := by
  have hR := kRm_b hst.2
  by_cases q : nl < kRm st
  · have e : kL nl st = (1, kRm st) := if_pos q
    rw [e]
    refine xa_mono (c_makeRooma k kb kl nl (fun _ => 0) (fun _ => 0) lk rdy op fi la lo ti an hk hkn hkl hkl2 st hst hnl q h.2 rfl hE0 hE3) ?_
    rintro r h' ⟨q1, q2, q3, q4, q5⟩
    exact ⟨q1, ⟨h.2, kRm st, fun _ => 0, q2, q3, (if_pos q).symm, Or.inr (Nat.le_refl _), by omega, hR.1, hR.2, by omega⟩, q4, q5⟩
  · have e : kL nl st = (0, 0) := if_neg q
    rw [e]
    refine xa_mono (c_makeRoomn k kb kl nl (fun _ => 0) (fun _ => 0) lk rdy op fi la lo ti an hk hkn hkl hkl2 st hst hnl (by omega) hE0 hE3) ?_
    rintro r h' ⟨q1, q2⟩
    subst q2
    exact ⟨q1, ⟨kl, nl, lk, hE0, hE3, (if_neg q).symm, Or.inl rfl, hkl2, by omega, hnl, by omega⟩, rfl, fun _ _ => rfl⟩
theorem sI_0 {ld dg : Nat → Int} {pa jo : Nat} {wa sr pu ri sj : Int} {lk tk en tk' en' : Nat → Int} {nl : Nat} (hB : vB ld dg pa jo wa sr pu ri) (hnl : 360 * kN pa jo wa sr sj ≤ (nl : Int)) {x : Nat} (hx : x = kx pa jo wa sr sj (cf_rest pa) 0) (hR : aR ri 0 0 ((x : Nat) : Int) (xa_fl tk 360 (-1)) en tk' en' (ri + 1)) {v : Int} (hv : v = kE pa jo wa sr sj (cf_rest pa) * 1048576 + 1048575) :
    sI ld dg pa jo wa sr pu ri sj (xa_upf (xa_fl lk nl (-1)) x v) tk' en' 1 ((x : Nat) : Int) ((x : Nat) : Int) ((x : Nat) : Int) 0 ((sC tk' : Nat) : Int) (fun _ => x) (fun _ => 0) (fun _ => 0) (fun _ => 0) 1 0 := by
  have hri := hB.2.2.2.2.2.2.2
  obtain ⟨k1, k2, k3, k4⟩ := kx_b hB (cs_rest (sj := sj) hB) (u := 0) (by omega)
  rw [← hx] at k1 k2 k3 k4
  have hN := kN_b (sj := sj) hB
  refine ⟨?_, ⟨fun i hi => ?_, fun y hy hn => ?_⟩, fun t ht => ?_, fun c _ => Nat.zero_le _, rfl, rfl, fun c _ q => absurd q (show ¬ (((0 : Nat) : Int) < 0) by decide), by omega, Or.inl ⟨rfl, by omega, rfl, rfl, by omega, 0, by omega, by omega, rfl, rfl, fun i i1 i2 => by omega⟩⟩
  · rw [hx] at k1 ⊢
    exact qI_0 k1
  · rw [if_neg (by omega), xa_upf_at, hv, k3]
  · rw [xa_upf_ne _ _ (fun z => hn 0 (by omega) z.symm), xa_fl_lt _ _ (by omega)]
  · have hk : kans pa jo wa sr ri sj (t : Int) x ↔ cf_str (cf_rest pa) ∧ sp_off ((t : Int) + 0) 0 ≤ ri := by rw [hx]; exact kans_c hB (cs_rest hB) (by omega)
    have hs : cf_str (cf_rest pa) := ⟨rfl, rfl⟩
    obtain ⟨r1, r2⟩ := hR t ht
    have e0 := xa_fl_lt tk (-1) ht
    by_cases q : aP ri 0 (ri + 1) t
    · obtain ⟨z1, z2⟩ := r1 ⟨e0, q⟩
      exact Or.inr ⟨0, by omega, hk.mpr ⟨hs, (aP_off hri ht).mp q⟩, fun b' hb' => absurd hb' (Nat.not_lt_zero _), z1, z2⟩
    · obtain ⟨z1, z2⟩ := r2 (fun z => q z.2)
      exact Or.inl ⟨z1.trans e0, fun b _ z => q ((aP_off hri ht).mpr (hk.mp z).2)⟩

theorem PL.l4 {k kb kl kbr kam : Nat} (h : PL k kb kl kbr kam) : kl < k + 4 ∨ k + 4 + 8 ≤ kl := by have := h.2.1; omega
theorem PL.l3 {k kb kl kbr kam : Nat} (h : PL k kb kl kbr kam) : kl < k ∨ k + 3 ≤ kl := by have := h.2.1; omega
theorem PL.r9 {k kb kl kbr kam : Nat} (h : PL k kb kl kbr kam) : kbr < k + 4 + 5 ∨ k + 4 + 8 ≤ kbr := by have := h.2.2.1; omega
theorem PL.a9 {k kb kl kbr kam : Nat} (h : PL k kb kl kbr kam) : kam < k + 4 + 5 ∨ k + 4 + 8 ≤ kam := by have := h.2.2.2.1; omega
def xSC (h : xa_H) (k kb kl kbr kam nl nb na ns : Nat) (pl lw br am po sp lk tk en : Nat → Int) (sj tj tb rdy op fi la lo ti an fs lst : Int) : Prop := h.1 k = xa_o 3 [xa_r kb, xa_r (k + 4), xa_r (k + 1), xa_r (k + 2), xa_r kl, xa_i rdy, xa_i op, xa_i fi, xa_i la, xa_i lo, xa_i ti, xa_i an] ∧ h.1 (k + 1) = xa_a 360 tk ∧ h.1 (k + 2) = xa_a 360 en ∧ h.1 kl = xa_a nl lk ∧ h.1 (k + 4) = xa_o 6 [xa_r kb, xa_r (k + 4 + 5), xa_i sj, xa_r (k + 4 + 1), xa_r (k + 4 + 2), xa_i ((ns : Nat) : Int), xa_i fs, xa_i lst, xa_r kbr, xa_r kam] ∧ h.1 (k + 4 + 1) = xa_a 2 pl ∧ h.1 (k + 4 + 2) = xa_a 2 lw ∧ h.1 kbr = xa_a nb br ∧ h.1 kam = xa_a na am ∧ h.1 (k + 4 + 5) = xa_o 4 [xa_r kb, xa_r (k + 4 + 5 + 1), xa_r (k + 4 + 5 + 2), xa_i tj, xa_i tb] ∧ h.1 (k + 4 + 5 + 1) = xa_a 3 po ∧ h.1 (k + 4 + 5 + 2) = xa_a 2 sp
def xSpl (h : xa_H) (k kb kl kbr kam nl nb na : Nat) : Prop := PL k kb kl kbr kam ∧ (2 ≤ kb ∧ 2 ≤ k ∧ k + 11 < h.2) ∧ (kl < h.2 ∧ kbr < h.2 ∧ kam < h.2) ∧ nb = na * 11 ∧ na ≤ 100000 ∧ nl ≤ 583200
/-- ready for this body, its ticks shown -/
def xSR (h : xa_H) (k kb kl kbr kam nl na : Nat) (sj : Int) (ld dg : Nat → Int) (pa jo : Nat) (wa sr pu ri : Int) (tk : Nat → Int) (op ti : Int) : Prop :=
  xSpl h k kb kl kbr kam nl (na * 11) na ∧ kN pa jo wa sr sj ≤ (na : Int) ∧ 360 * kN pa jo wa sr sj ≤ (nl : Int) ∧ ∃ (pl lw br am po sp lk en : Nat → Int) (tj tb fi la lo : Int) (Q P M D : Nat → Nat) (n kk : Nat), kP jo wa sr sj pl lw ∧ kTI ld dg pa jo wa sr pu sj br am ∧ xStb po sp tj tb ∧ P 0 = 0 ∧ sI ld dg pa jo wa sr pu ri sj lk tk en op fi la lo ti ((sC tk : Nat) : Int) Q P M D n kk ∧ xSC h k kb kl kbr kam nl (na * 11) na (kN pa jo wa sr sj).toNat pl lw br am po sp lk tk en sj tj tb 1 op fi la lo ti ((sC tk : Nat) : Int) (kF pa jo wa sr sj) (kF pa jo wa sr sj + (if 2 < pa then 27 else 9) - 1)
/-- not ready -/
def xSN (h : xa_H) (k kb kl kbr kam nl na : Nat) (sj : Int) : Prop :=
  xSpl h k kb kl kbr kam nl (na * 11) na ∧ ∃ (ns : Nat) (pl lw br am po sp lk tk en : Nat → Int) (tj tb op fi la lo ti an fs lst : Int), (∀ i, 0 ≤ pl i ∧ pl i ≤ 12) ∧ xStb po sp tj tb ∧ xSC h k kb kl kbr kam nl (na * 11) na ns pl lw br am po sp lk tk en sj tj tb 0 op fi la lo ti an fs lst
set_option maxHeartbeats 4000000 in
theorem c_prepare0 {G : xa_G} {h : xa_H} (k kb kl kbr kam nl nb na ns : Nat) (pl lw br am po sp lk tk en : Nat → Int) (sj tj tb op fi la lo ti an fs lst : Int) (ld dg : Nat → Int) (pa jo : Nat) (wa sr pu ri : Int) (hB9 : vB ld dg pa jo wa sr pu ri) (hsj : -1 ≤ sj ∧ sj < (jo : Int)) (hPL : PL k kb kl kbr kam) (hkk : kb + 3 ≤ k) (hkb : 2 ≤ kb) (hk : 2 ≤ k) (hnb : nb = na * 11) (hna9 : na ≤ 100000) (hnl9 : nl ≤ 583200) (hkn : k + 11 < h.2) (hkl2 : kl < h.2) (hkbr2 : kbr < h.2) (hkam2 : kam < h.2) (hpl0 : ∀ i, 0 ≤ pl i ∧ pl i ≤ 12) (hstb : xStb po sp tj tb) (hE0 : h.1 k = xa_o 3 [xa_r kb, xa_r (k + 4), xa_r (k + 1), xa_r (k + 2), xa_r kl, xa_i 0, xa_i op, xa_i fi, xa_i la, xa_i lo, xa_i ti, xa_i an]) (hE1 : h.1 (k + 1) = xa_a 360 tk) (hE2 : h.1 (k + 2) = xa_a 360 en) (hE3 : h.1 kl = xa_a nl lk) (hT0 : h.1 (k + 4) = xa_o 6 [xa_r kb, xa_r (k + 4 + 5), xa_i sj, xa_r (k + 4 + 1), xa_r (k + 4 + 2), xa_i ((ns : Nat) : Int), xa_i fs, xa_i lst, xa_r kbr, xa_r kam]) (hT1 : h.1 (k + 4 + 1) = xa_a 2 pl) (hT2 : h.1 (k + 4 + 2) = xa_a 2 lw) (hT3 : h.1 kbr = xa_a nb br) (hT4 : h.1 kam = xa_a na am) (hS0 : h.1 (k + 4 + 5) = xa_o 4 [xa_r kb, xa_r (k + 4 + 5 + 1), xa_r (k + 4 + 5 + 2), xa_i tj, xa_i tb]) (hS1 : h.1 (k + 4 + 5 + 1) = xa_a 3 po) (hS2 : h.1 (k + 4 + 5 + 2) = xa_a 2 sp) (hB0 : h.1 kb = xa_o 0 [xa_r (kb + 1), xa_r (kb + 2), xa_i ((pa : Nat) : Int), xa_i ((jo : Nat) : Int), xa_i wa, xa_i sr, xa_i pu, xa_i ri]) (hB1 : h.1 (kb + 1) = xa_a 9 ld) (hB2 : h.1 (kb + 2) = xa_a 2 dg) : xa_M G mX3_prepare [xa_r k] h ((kA na (kN pa jo wa sr sj)).1 + (kL nl (360 * (kN pa jo wa sr sj))).1) ((kA na (kN pa jo wa sr sj)).2 + (kL nl (360 * (kN pa jo wa sr sj))).2) (fun r h' => r = none ∧ (∃ (kl' kbr' kam' nl' na' : Nat) (tk' : Nat → Int) (op' ti' : Int), nl' = (if nl < kRm (360 * (kN pa jo wa sr sj)) then kRm (360 * (kN pa jo wa sr sj)) else nl) ∧ na' = (if (na : Int) < (kN pa jo wa sr sj) then (kN pa jo wa sr sj).toNat else na) ∧ xSR h' k kb kl' kbr' kam' nl' na' sj ld dg pa jo wa sr pu ri tk' op' ti' ∧ (kl' = kl ∨ h.2 ≤ kl') ∧ (kbr' = kbr ∨ h.2 ≤ kbr') ∧ (kam' = kam ∨ h.2 ≤ kam')) ∧ h'.2 = h.2 + ((kA na (kN pa jo wa sr sj)).1 + (kL nl (360 * (kN pa jo wa sr sj))).1) ∧ ∀ i, ((i < k ∨ k + 12 ≤ i) ∧ i ≠ kl ∧ i ≠ kbr ∧ i ≠ kam ∧ i < h.2) → h'.1 i = h.1 i) := by
  refine xa_enter (by decide +kernel) (Nat.le_of_ble_eq_true rfl) ?_
  refine xa_locals (ls' := [some (xa_r k), none]) rfl ?_
  have hn : h.2 = h.2 := rfl
  have fr : ∀ i, ((i < k ∨ k + 12 ≤ i) ∧ i ≠ kl ∧ i ≠ kbr ∧ i ≠ kam ∧ i < h.2) → h.1 i = h.1 i := fun _ _ => rfl
  have hN := kN_b (sj := sj) hB9
  have hF := kF_b (sj := sj) hB9
  have hri := hB9.2.2.2.2.2.2.2
  have h0 := hB9.1
  refine xa_aload_n (pc := 0) dX3_prepare_0 rfl ?_
  refine xa_getfield (pc := 1) dX3_prepare_1 flRX3_34 (by omega) (by omega) hE0 rfl ?_
  refine xa_if_eq (pc := 4) (tgt := 8) dX3_prepare_4 (by decide) (by decide) (fun c_4 => ?_) (fun c_4 => ?_)
  · skip
    refine xa_aload_n (pc := 8) dX3_prepare_8 rfl ?_
    refine xa_iconst (pc := 9) dX3_prepare_9 ?_
    refine xa_putw (pc := 10) [xa_r kb, xa_r (k + 4), xa_r (k + 1), xa_r (k + 2), xa_r kl, xa_i 1, xa_i op, xa_i fi, xa_i la, xa_i lo, xa_i ti, xa_i an] dX3_prepare_10 flRX3_34 plX3_5 (by omega) (by omega) hE0 (Or.inr rfl) rfl (fun h1 nh1 ch1 oh1 => ?_)
    have hE0 : h1.1 k = xa_o 3 [xa_r kb, xa_r (k + 4), xa_r (k + 1), xa_r (k + 2), xa_r kl, xa_i 1, xa_i op, xa_i fi, xa_i la, xa_i lo, xa_i ti, xa_i an] := ch1
    have hE1 : h1.1 (k + 1) = xa_a 360 tk := (oh1 _ (by omega)).trans hE1
    have hE2 : h1.1 (k + 2) = xa_a 360 en := (oh1 _ (by omega)).trans hE2
    have hE3 : h1.1 kl = xa_a nl lk := (oh1 _ (Ne.symm (hPL.l 0 (by decide) (by decide)))).trans hE3
    have hT0 : h1.1 (k + 4) = xa_o 6 [xa_r kb, xa_r (k + 4 + 5), xa_i sj, xa_r (k + 4 + 1), xa_r (k + 4 + 2), xa_i ((ns : Nat) : Int), xa_i fs, xa_i lst, xa_r kbr, xa_r kam] := (oh1 _ (by omega)).trans hT0
    have hT1 : h1.1 (k + 4 + 1) = xa_a 2 pl := (oh1 _ (by omega)).trans hT1
    have hT2 : h1.1 (k + 4 + 2) = xa_a 2 lw := (oh1 _ (by omega)).trans hT2
    have hT3 : h1.1 kbr = xa_a nb br := (oh1 _ (Ne.symm (hPL.r 0 (by decide) (by decide)))).trans hT3
    have hT4 : h1.1 kam = xa_a na am := (oh1 _ (Ne.symm (hPL.a 0 (by decide) (by decide)))).trans hT4
    have hS0 : h1.1 (k + 4 + 5) = xa_o 4 [xa_r kb, xa_r (k + 4 + 5 + 1), xa_r (k + 4 + 5 + 2), xa_i tj, xa_i tb] := (oh1 _ (by omega)).trans hS0
    have hS1 : h1.1 (k + 4 + 5 + 1) = xa_a 3 po := (oh1 _ (by omega)).trans hS1
    have hS2 : h1.1 (k + 4 + 5 + 2) = xa_a 2 sp := (oh1 _ (by omega)).trans hS2
    have hB0 : h1.1 kb = xa_o 0 [xa_r (kb + 1), xa_r (kb + 2), xa_i ((pa : Nat) : Int), xa_i ((jo : Nat) : Int), xa_i wa, xa_i sr, xa_i pu, xa_i ri] := (oh1 _ (by omega)).trans hB0
    have hB1 : h1.1 (kb + 1) = xa_a 9 ld := (oh1 _ (by omega)).trans hB1
    have hB2 : h1.1 (kb + 2) = xa_a 2 dg := (oh1 _ (by omega)).trans hB2
    have hn : h1.2 = h.2 := nh1.trans hn
    have fr : ∀ i, ((i < k ∨ k + 12 ≤ i) ∧ i ≠ kl ∧ i ≠ kbr ∧ i ≠ kam ∧ i < h.2) → h1.1 i = h.1 i := fun i hi => (oh1 i (by omega)).trans (fr i hi)
    refine xa_aload_n (pc := 13) dX3_prepare_13 rfl ?_
    refine xa_iconst (pc := 14) dX3_prepare_14 ?_
    refine xa_putw (pc := 15) [xa_r kb, xa_r (k + 4), xa_r (k + 1), xa_r (k + 2), xa_r kl, xa_i 1, xa_i 1, xa_i fi, xa_i la, xa_i lo, xa_i ti, xa_i an] dX3_prepare_15 flRX3_42 plX3_6 (by omega) (by omega) hE0 (Or.inr rfl) rfl (fun h2 nh2 ch2 oh2 => ?_)
    have hE0 : h2.1 k = xa_o 3 [xa_r kb, xa_r (k + 4), xa_r (k + 1), xa_r (k + 2), xa_r kl, xa_i 1, xa_i 1, xa_i fi, xa_i la, xa_i lo, xa_i ti, xa_i an] := ch2
    have hE1 : h2.1 (k + 1) = xa_a 360 tk := (oh2 _ (by omega)).trans hE1
    have hE2 : h2.1 (k + 2) = xa_a 360 en := (oh2 _ (by omega)).trans hE2
    have hE3 : h2.1 kl = xa_a nl lk := (oh2 _ (Ne.symm (hPL.l 0 (by decide) (by decide)))).trans hE3
    have hT0 : h2.1 (k + 4) = xa_o 6 [xa_r kb, xa_r (k + 4 + 5), xa_i sj, xa_r (k + 4 + 1), xa_r (k + 4 + 2), xa_i ((ns : Nat) : Int), xa_i fs, xa_i lst, xa_r kbr, xa_r kam] := (oh2 _ (by omega)).trans hT0
    have hT1 : h2.1 (k + 4 + 1) = xa_a 2 pl := (oh2 _ (by omega)).trans hT1
    have hT2 : h2.1 (k + 4 + 2) = xa_a 2 lw := (oh2 _ (by omega)).trans hT2
    have hT3 : h2.1 kbr = xa_a nb br := (oh2 _ (Ne.symm (hPL.r 0 (by decide) (by decide)))).trans hT3
    have hT4 : h2.1 kam = xa_a na am := (oh2 _ (Ne.symm (hPL.a 0 (by decide) (by decide)))).trans hT4
    have hS0 : h2.1 (k + 4 + 5) = xa_o 4 [xa_r kb, xa_r (k + 4 + 5 + 1), xa_r (k + 4 + 5 + 2), xa_i tj, xa_i tb] := (oh2 _ (by omega)).trans hS0
    have hS1 : h2.1 (k + 4 + 5 + 1) = xa_a 3 po := (oh2 _ (by omega)).trans hS1
    have hS2 : h2.1 (k + 4 + 5 + 2) = xa_a 2 sp := (oh2 _ (by omega)).trans hS2
    have hB0 : h2.1 kb = xa_o 0 [xa_r (kb + 1), xa_r (kb + 2), xa_i ((pa : Nat) : Int), xa_i ((jo : Nat) : Int), xa_i wa, xa_i sr, xa_i pu, xa_i ri] := (oh2 _ (by omega)).trans hB0
    have hB1 : h2.1 (kb + 1) = xa_a 9 ld := (oh2 _ (by omega)).trans hB1
    have hB2 : h2.1 (kb + 2) = xa_a 2 dg := (oh2 _ (by omega)).trans hB2
    have hn : h2.2 = h.2 := nh2.trans hn
    have fr : ∀ i, ((i < k ∨ k + 12 ≤ i) ∧ i ≠ kl ∧ i ≠ kbr ∧ i ≠ kam ∧ i < h.2) → h2.1 i = h.1 i := fun i hi => (oh2 i (by omega)).trans (fr i hi)
    refine xa_aload_n (pc := 18) dX3_prepare_18 rfl ?_
    refine xa_getfield (pc := 19) dX3_prepare_19 flRX3_30 (by omega) (by omega) hE0 rfl ?_
    refine xa_callV (pc := 22) (as := []) (rest := []) dX3_prepare_22 ⟨qX6_numberShapes.1, qX6_numberShapes.2.1, qX6_numberShapes.2.2, by decide, by decide⟩ lkRX3_72 imX6_numberShapes seX6_numberShapes rfl rfl (by omega) (by omega) hT0 rfl (Nat.le_of_ble_eq_true rfl) (Nat.le_add_right _ _) (Nat.le_add_right _ _) (c_numberShapes (ns := ns) (fs := fs) (lst := lst) (pl := pl) (lw := lw) (br := br) (am := am) (po := po) (sp := sp) (tj := tj) (tb := tb) (nb := nb) (na := na) hB9 (by omega) hpl0 (by omega) hnb hna9 ⟨hT0, hT1, hT2, hT3, hT4, ⟨by omega, by omega⟩, ⟨hPL.tr, by omega⟩, ⟨hPL.ta, by omega⟩, hPL.ra⟩ ⟨hS0, hS1, hS2, by omega, by omega⟩ ⟨hB0, hB1, hB2, by omega, by omega⟩) (fun r h' hq => ?_)
    obtain ⟨rfl, ⟨kbr', kam', nb', na', pl', lw', br', am', hP', hz', hnb', hna', hnae, ⟨hT0, hT1, hT2, hT3, hT4, hTk, hTbr, hTam, hTq⟩, hkbrx, hkamx⟩, ⟨hS0, hS1, hS2, -, -⟩, hqn, hqf⟩ := hq
    have hT0 : h'.1 (k + 4) = xa_o 6 [xa_r kb, xa_r (k + 4 + 5), xa_i sj, xa_r (k + 4 + 1), xa_r (k + 4 + 2), xa_i (((kN pa jo wa sr sj).toNat : Nat) : Int), xa_i (kF pa jo wa sr sj), xa_i (kF pa jo wa sr sj + (if 2 < pa then 27 else 9) - 1), xa_r kbr', xa_r kam'] := hT0
    have hT1 : h'.1 (k + 4 + 1) = xa_a 2 pl' := hT1
    have hT2 : h'.1 (k + 4 + 2) = xa_a 2 lw' := hT2
    have hT3 : h'.1 kbr' = xa_a nb' br' := hT3
    have hT4 : h'.1 kam' = xa_a na' am' := hT4
    have hS0 : h'.1 (k + 4 + 5) = xa_o 4 [xa_r kb, xa_r (k + 4 + 5 + 1), xa_r (k + 4 + 5 + 2), xa_i tj, xa_i 0] := hS0
    have hS1 : h'.1 (k + 4 + 5 + 1) = xa_a 3 (nP pa po) := hS1
    have hS2 : h'.1 (k + 4 + 5 + 2) = xa_a 2 (xa_fl sp 2 0) := hS2
    have hE0 : h'.1 k = xa_o 3 [xa_r kb, xa_r (k + 4), xa_r (k + 1), xa_r (k + 2), xa_r kl, xa_i 1, xa_i 1, xa_i fi, xa_i la, xa_i lo, xa_i ti, xa_i an] := (hqf _ ⟨by omega, (hPL.r 0 (by decide) (by decide)), (hPL.a 0 (by decide) (by decide)), by omega⟩).trans hE0
    have hE1 : h'.1 (k + 1) = xa_a 360 tk := (hqf _ ⟨by omega, (hPL.r 1 (by decide) (by decide)), (hPL.a 1 (by decide) (by decide)), by omega⟩).trans hE1
    have hE2 : h'.1 (k + 2) = xa_a 360 en := (hqf _ ⟨by omega, (hPL.r 2 (by decide) (by decide)), (hPL.a 2 (by decide) (by decide)), by omega⟩).trans hE2
    have hE3 : h'.1 kl = xa_a nl lk := (hqf _ ⟨hPL.l4, hPL.lr, hPL.la, by omega⟩).trans hE3
    have hB0 : h'.1 kb = xa_o 0 [xa_r (kb + 1), xa_r (kb + 2), xa_i ((pa : Nat) : Int), xa_i ((jo : Nat) : Int), xa_i wa, xa_i sr, xa_i pu, xa_i ri] := (hqf _ ⟨by omega, (hPL.rb 0 (by decide)), (hPL.ab 0 (by decide)), by omega⟩).trans hB0
    have hB1 : h'.1 (kb + 1) = xa_a 9 ld := (hqf _ ⟨by omega, (hPL.rb 1 (by decide)), (hPL.ab 1 (by decide)), by omega⟩).trans hB1
    have hB2 : h'.1 (kb + 2) = xa_a 2 dg := (hqf _ ⟨by omega, (hPL.rb 2 (by decide)), (hPL.ab 2 (by decide)), by omega⟩).trans hB2
    have hn : h'.2 = h.2 + (kA na (kN pa jo wa sr sj)).1 := by omega
    have fr : ∀ i, ((i < k ∨ k + 12 ≤ i) ∧ i ≠ kl ∧ i ≠ kbr ∧ i ≠ kam ∧ i < h.2) → h'.1 i = h.1 i := fun i hi => (hqf i ⟨by omega, by omega, by omega, by omega⟩).trans (fr i hi)
    have hkbrx : kbr' = kbr ∨ h.2 ≤ kbr' := by omega
    have hkamx : kam' = kam ∨ h.2 ≤ kam' := by omega
    have hPL1 : PL k kb kl kbr' kam' := PL.m1 hPL (hh := h.2) (by omega) (by omega) hkbrx hkamx hTq
    have hkbr3 : kbr' < h'.2 := hTbr.2
    have hkam3 : kam' < h'.2 := hTam.2
    have hna2 : na' ≤ 100000 := by rw [hnae]; split <;> omega
    clear hTk hTbr hTam hTq
    refine xa_aload_n (pc := 25) dX3_prepare_25 rfl ?_
    refine xa_aload_n (pc := 26) dX3_prepare_26 rfl ?_
    refine xa_getfield (pc := 27) dX3_prepare_27 flRX3_30 (by omega) (by omega) hE0 rfl ?_
    refine xa_getfield (pc := 30) dX3_prepare_30 flRX3_75 (by omega) (by omega) hT0 rfl ?_
    refine xa_sipush (pc := 33) dX3_prepare_33 rfl ?_
    refine xa_imul (pc := 36) dX3_prepare_36 ?_
    refine xa_top (y := 360 * (kN pa jo wa sr sj)) (by omega) ?_
    refine xa_callV (pc := 37) (as := [xa_i (360 * (kN pa jo wa sr sj))]) (rest := []) dX3_prepare_37 ⟨qX3_makeRoom.1, qX3_makeRoom.2.1, qX3_makeRoom.2.2, by decide, by decide⟩ lkRX3_78 imX3_makeRoom seX3_makeRoom rfl rfl (by omega) (by omega) hE0 rfl (Nat.le_of_ble_eq_true rfl) (by omega) (by omega) (c_makeRoom k kb kl nl lk 1 1 fi la lo ti an hk (by omega) hPL.2.1 (by omega) (360 * (kN pa jo wa sr sj)) (by omega) hnl9 hE0 hE3) (fun r h' hq => ?_)
    obtain ⟨rfl, ⟨kl', nl', lk', hE0, hE3, hnle, hklx, hkl3, hnl1, hnl2, hklk⟩, hqn, hqf⟩ := hq
    have hE0 : h'.1 k = xa_o 3 [xa_r kb, xa_r (k + 4), xa_r (k + 1), xa_r (k + 2), xa_r kl', xa_i 1, xa_i 1, xa_i fi, xa_i la, xa_i lo, xa_i ti, xa_i an] := hE0
    have hE3 : h'.1 kl' = xa_a nl' lk' := hE3
    have hE1 : h'.1 (k + 1) = xa_a 360 tk := (hqf _ ⟨(by omega), by omega⟩).trans hE1
    have hE2 : h'.1 (k + 2) = xa_a 360 en := (hqf _ ⟨(by omega), by omega⟩).trans hE2
    have hT0 : h'.1 (k + 4) = xa_o 6 [xa_r kb, xa_r (k + 4 + 5), xa_i sj, xa_r (k + 4 + 1), xa_r (k + 4 + 2), xa_i (((kN pa jo wa sr sj).toNat : Nat) : Int), xa_i (kF pa jo wa sr sj), xa_i (kF pa jo wa sr sj + (if 2 < pa then 27 else 9) - 1), xa_r kbr', xa_r kam'] := (hqf _ ⟨(by omega), by omega⟩).trans hT0
    have hT1 : h'.1 (k + 4 + 1) = xa_a 2 pl' := (hqf _ ⟨(by omega), by omega⟩).trans hT1
    have hT2 : h'.1 (k + 4 + 2) = xa_a 2 lw' := (hqf _ ⟨(by omega), by omega⟩).trans hT2
    have hS0 : h'.1 (k + 4 + 5) = xa_o 4 [xa_r kb, xa_r (k + 4 + 5 + 1), xa_r (k + 4 + 5 + 2), xa_i tj, xa_i 0] := (hqf _ ⟨(by omega), by omega⟩).trans hS0
    have hS1 : h'.1 (k + 4 + 5 + 1) = xa_a 3 (nP pa po) := (hqf _ ⟨(by omega), by omega⟩).trans hS1
    have hS2 : h'.1 (k + 4 + 5 + 2) = xa_a 2 (xa_fl sp 2 0) := (hqf _ ⟨(by omega), by omega⟩).trans hS2
    have hB0 : h'.1 kb = xa_o 0 [xa_r (kb + 1), xa_r (kb + 2), xa_i ((pa : Nat) : Int), xa_i ((jo : Nat) : Int), xa_i wa, xa_i sr, xa_i pu, xa_i ri] := (hqf _ ⟨(by omega), by omega⟩).trans hB0
    have hB1 : h'.1 (kb + 1) = xa_a 9 ld := (hqf _ ⟨(by omega), by omega⟩).trans hB1
    have hB2 : h'.1 (kb + 2) = xa_a 2 dg := (hqf _ ⟨(by omega), by omega⟩).trans hB2
    have hT3 : h'.1 kbr' = xa_a nb' br' := (hqf _ ⟨(Ne.symm (hPL1.r 0 (by decide) (by decide))), by omega⟩).trans hT3
    have hT4 : h'.1 kam' = xa_a na' am' := (hqf _ ⟨(Ne.symm (hPL1.a 0 (by decide) (by decide))), by omega⟩).trans hT4
    have hklx : kl' = kl ∨ h.2 ≤ kl' := by omega
    have hPL2 : PL k kb kl' kbr' kam' := PL.m2 hPL1 (hh := h'.2 - (kL nl (360 * (kN pa jo wa sr sj))).1) (by omega) (by omega) (by omega) (by omega)
    have hkl9 := hPL2.l2 hk
    have hn : h'.2 = h.2 + (kA na (kN pa jo wa sr sj)).1 + (kL nl (360 * (kN pa jo wa sr sj))).1 := by omega
    have fr : ∀ i, ((i < k ∨ k + 12 ≤ i) ∧ i ≠ kl ∧ i ≠ kbr ∧ i ≠ kam ∧ i < h.2) → h'.1 i = h.1 i := fun i hi => (hqf i ⟨by omega, by omega⟩).trans (fr i hi)
    refine xa_aload_n (pc := 40) dX3_prepare_40 rfl ?_
    refine xa_getfield (pc := 41) dX3_prepare_41 flRX3_18 (by omega) (by omega) hE0 rfl ?_
    refine xa_iconst (pc := 44) dX3_prepare_44 ?_
    refine xa_callS (pc := 45) (as := [xa_r kl', xa_i (-1)]) (rest := []) dX3_prepare_45 ⟨qJ7_fill_53178.1, qJ7_fill_53178.2.1, qJ7_fill_53178.2.2, by decide, by decide⟩ lkRX3_82 smJ7_fill_53178 rfl rfl (Nat.le_of_ble_eq_true rfl) (Nat.zero_le _) (Nat.zero_le _) (c_fill _ _ _ _ (hPL2.l2 hk) (by omega) (by omega) hE3) (fun r h' hq => ?_)
    obtain ⟨rfl, hqn, hqA, hqf⟩ := hq
    have hE3 : h'.1 kl' = xa_a nl' (xa_fl lk' nl' (-1)) := hqA
    have hE0 : h'.1 k = xa_o 3 [xa_r kb, xa_r (k + 4), xa_r (k + 1), xa_r (k + 2), xa_r kl', xa_i 1, xa_i 1, xa_i fi, xa_i la, xa_i lo, xa_i ti, xa_i an] := (hqf _ (hPL2.l 0 (by decide) (by decide))).trans hE0
    have hE1 : h'.1 (k + 1) = xa_a 360 tk := (hqf _ (hPL2.l 1 (by decide) (by decide))).trans hE1
    have hE2 : h'.1 (k + 2) = xa_a 360 en := (hqf _ (hPL2.l 2 (by decide) (by decide))).trans hE2
    have hT0 : h'.1 (k + 4) = xa_o 6 [xa_r kb, xa_r (k + 4 + 5), xa_i sj, xa_r (k + 4 + 1), xa_r (k + 4 + 2), xa_i (((kN pa jo wa sr sj).toNat : Nat) : Int), xa_i (kF pa jo wa sr sj), xa_i (kF pa jo wa sr sj + (if 2 < pa then 27 else 9) - 1), xa_r kbr', xa_r kam'] := (hqf _ (hPL2.l 4 (by decide) (by decide))).trans hT0
    have hT1 : h'.1 (k + 4 + 1) = xa_a 2 pl' := (hqf _ (hPL2.l 5 (by decide) (by decide))).trans hT1
    have hT2 : h'.1 (k + 4 + 2) = xa_a 2 lw' := (hqf _ (hPL2.l 6 (by decide) (by decide))).trans hT2
    have hS0 : h'.1 (k + 4 + 5) = xa_o 4 [xa_r kb, xa_r (k + 4 + 5 + 1), xa_r (k + 4 + 5 + 2), xa_i tj, xa_i 0] := (hqf _ (hPL2.l 9 (by decide) (by decide))).trans hS0
    have hS1 : h'.1 (k + 4 + 5 + 1) = xa_a 3 (nP pa po) := (hqf _ (hPL2.l 10 (by decide) (by decide))).trans hS1
    have hS2 : h'.1 (k + 4 + 5 + 2) = xa_a 2 (xa_fl sp 2 0) := (hqf _ (hPL2.l 11 (by decide) (by decide))).trans hS2
    have hB0 : h'.1 kb = xa_o 0 [xa_r (kb + 1), xa_r (kb + 2), xa_i ((pa : Nat) : Int), xa_i ((jo : Nat) : Int), xa_i wa, xa_i sr, xa_i pu, xa_i ri] := (hqf _ (hPL2.lb 0 (by decide))).trans hB0
    have hB1 : h'.1 (kb + 1) = xa_a 9 ld := (hqf _ (hPL2.lb 1 (by decide))).trans hB1
    have hB2 : h'.1 (kb + 2) = xa_a 2 dg := (hqf _ (hPL2.lb 2 (by decide))).trans hB2
    have hT3 : h'.1 kbr' = xa_a nb' br' := (hqf _ hPL2.lr.symm).trans hT3
    have hT4 : h'.1 kam' = xa_a na' am' := (hqf _ hPL2.la.symm).trans hT4
    have hn : h'.2 = h.2 + (kA na (kN pa jo wa sr sj)).1 + (kL nl (360 * (kN pa jo wa sr sj))).1 := hqn.trans hn
    have fr : ∀ i, ((i < k ∨ k + 12 ≤ i) ∧ i ≠ kl ∧ i ≠ kbr ∧ i ≠ kam ∧ i < h.2) → h'.1 i = h.1 i := fun i hi => (hqf i (by omega)).trans (fr i hi)
    refine xa_aload_n (pc := 48) dX3_prepare_48 rfl ?_
    refine xa_getfield (pc := 49) dX3_prepare_49 flRX3_11 (by omega) (by omega) hE0 rfl ?_
    refine xa_iconst (pc := 52) dX3_prepare_52 ?_
    refine xa_callS (pc := 53) (as := [xa_r (k + 1), xa_i (-1)]) (rest := []) dX3_prepare_53 ⟨qJ7_fill_53178.1, qJ7_fill_53178.2.1, qJ7_fill_53178.2.2, by decide, by decide⟩ lkRX3_82 smJ7_fill_53178 rfl rfl (Nat.le_of_ble_eq_true rfl) (Nat.zero_le _) (Nat.zero_le _) (c_fill _ _ _ _ (by omega) (by omega) (by omega) hE1) (fun r h' hq => ?_)
    obtain ⟨rfl, hqn, hqA, hqf⟩ := hq
    have hE1 : h'.1 (k + 1) = xa_a 360 (xa_fl tk 360 (-1)) := hqA
    have hE0 : h'.1 k = xa_o 3 [xa_r kb, xa_r (k + 4), xa_r (k + 1), xa_r (k + 2), xa_r kl', xa_i 1, xa_i 1, xa_i fi, xa_i la, xa_i lo, xa_i ti, xa_i an] := (hqf _ (by omega)).trans hE0
    have hE2 : h'.1 (k + 2) = xa_a 360 en := (hqf _ (by omega)).trans hE2
    have hT0 : h'.1 (k + 4) = xa_o 6 [xa_r kb, xa_r (k + 4 + 5), xa_i sj, xa_r (k + 4 + 1), xa_r (k + 4 + 2), xa_i (((kN pa jo wa sr sj).toNat : Nat) : Int), xa_i (kF pa jo wa sr sj), xa_i (kF pa jo wa sr sj + (if 2 < pa then 27 else 9) - 1), xa_r kbr', xa_r kam'] := (hqf _ (by omega)).trans hT0
    have hT1 : h'.1 (k + 4 + 1) = xa_a 2 pl' := (hqf _ (by omega)).trans hT1
    have hT2 : h'.1 (k + 4 + 2) = xa_a 2 lw' := (hqf _ (by omega)).trans hT2
    have hS0 : h'.1 (k + 4 + 5) = xa_o 4 [xa_r kb, xa_r (k + 4 + 5 + 1), xa_r (k + 4 + 5 + 2), xa_i tj, xa_i 0] := (hqf _ (by omega)).trans hS0
    have hS1 : h'.1 (k + 4 + 5 + 1) = xa_a 3 (nP pa po) := (hqf _ (by omega)).trans hS1
    have hS2 : h'.1 (k + 4 + 5 + 2) = xa_a 2 (xa_fl sp 2 0) := (hqf _ (by omega)).trans hS2
    have hB0 : h'.1 kb = xa_o 0 [xa_r (kb + 1), xa_r (kb + 2), xa_i ((pa : Nat) : Int), xa_i ((jo : Nat) : Int), xa_i wa, xa_i sr, xa_i pu, xa_i ri] := (hqf _ (by omega)).trans hB0
    have hB1 : h'.1 (kb + 1) = xa_a 9 ld := (hqf _ (by omega)).trans hB1
    have hB2 : h'.1 (kb + 2) = xa_a 2 dg := (hqf _ (by omega)).trans hB2
    have hT3 : h'.1 kbr' = xa_a nb' br' := (hqf _ (Ne.symm (hPL2.r 1 (by decide) (by decide)))).trans hT3
    have hT4 : h'.1 kam' = xa_a na' am' := (hqf _ (Ne.symm (hPL2.a 1 (by decide) (by decide)))).trans hT4
    have hE3 : h'.1 kl' = xa_a nl' (xa_fl lk' nl' (-1)) := (hqf _ (Ne.symm (hPL2.l 1 (by decide) (by decide)))).trans hE3
    have hn : h'.2 = h.2 + (kA na (kN pa jo wa sr sj)).1 + (kL nl (360 * (kN pa jo wa sr sj))).1 := hqn.trans hn
    have fr : ∀ i, ((i < k ∨ k + 12 ≤ i) ∧ i ≠ kl ∧ i ≠ kbr ∧ i ≠ kam ∧ i < h.2) → h'.1 i = h.1 i := fun i hi => (hqf i (by omega)).trans (fr i hi)
    refine xa_aload_n (pc := 56) dX3_prepare_56 rfl ?_
    refine xa_iconst (pc := 57) dX3_prepare_57 ?_
    refine xa_putw (pc := 58) [xa_r kb, xa_r (k + 4), xa_r (k + 1), xa_r (k + 2), xa_r kl', xa_i 1, xa_i 1, xa_i fi, xa_i la, xa_i lo, xa_i 0, xa_i an] dX3_prepare_58 flRX3_48 plX3_10 (by omega) (by omega) hE0 trivial rfl (fun h3 nh3 ch3 oh3 => ?_)
    have hE0 : h3.1 k = xa_o 3 [xa_r kb, xa_r (k + 4), xa_r (k + 1), xa_r (k + 2), xa_r kl', xa_i 1, xa_i 1, xa_i fi, xa_i la, xa_i lo, xa_i 0, xa_i an] := ch3
    have hE1 : h3.1 (k + 1) = xa_a 360 (xa_fl tk 360 (-1)) := (oh3 _ (by omega)).trans hE1
    have hE2 : h3.1 (k + 2) = xa_a 360 en := (oh3 _ (by omega)).trans hE2
    have hT0 : h3.1 (k + 4) = xa_o 6 [xa_r kb, xa_r (k + 4 + 5), xa_i sj, xa_r (k + 4 + 1), xa_r (k + 4 + 2), xa_i (((kN pa jo wa sr sj).toNat : Nat) : Int), xa_i (kF pa jo wa sr sj), xa_i (kF pa jo wa sr sj + (if 2 < pa then 27 else 9) - 1), xa_r kbr', xa_r kam'] := (oh3 _ (by omega)).trans hT0
    have hT1 : h3.1 (k + 4 + 1) = xa_a 2 pl' := (oh3 _ (by omega)).trans hT1
    have hT2 : h3.1 (k + 4 + 2) = xa_a 2 lw' := (oh3 _ (by omega)).trans hT2
    have hS0 : h3.1 (k + 4 + 5) = xa_o 4 [xa_r kb, xa_r (k + 4 + 5 + 1), xa_r (k + 4 + 5 + 2), xa_i tj, xa_i 0] := (oh3 _ (by omega)).trans hS0
    have hS1 : h3.1 (k + 4 + 5 + 1) = xa_a 3 (nP pa po) := (oh3 _ (by omega)).trans hS1
    have hS2 : h3.1 (k + 4 + 5 + 2) = xa_a 2 (xa_fl sp 2 0) := (oh3 _ (by omega)).trans hS2
    have hB0 : h3.1 kb = xa_o 0 [xa_r (kb + 1), xa_r (kb + 2), xa_i ((pa : Nat) : Int), xa_i ((jo : Nat) : Int), xa_i wa, xa_i sr, xa_i pu, xa_i ri] := (oh3 _ (by omega)).trans hB0
    have hB1 : h3.1 (kb + 1) = xa_a 9 ld := (oh3 _ (by omega)).trans hB1
    have hB2 : h3.1 (kb + 2) = xa_a 2 dg := (oh3 _ (by omega)).trans hB2
    have hT3 : h3.1 kbr' = xa_a nb' br' := (oh3 _ (Ne.symm (hPL2.r 0 (by decide) (by decide)))).trans hT3
    have hT4 : h3.1 kam' = xa_a na' am' := (oh3 _ (Ne.symm (hPL2.a 0 (by decide) (by decide)))).trans hT4
    have hE3 : h3.1 kl' = xa_a nl' (xa_fl lk' nl' (-1)) := (oh3 _ (Ne.symm (hPL2.l 0 (by decide) (by decide)))).trans hE3
    have hn : h3.2 = h.2 + (kA na (kN pa jo wa sr sj)).1 + (kL nl (360 * (kN pa jo wa sr sj))).1 := nh3.trans hn
    have fr : ∀ i, ((i < k ∨ k + 12 ≤ i) ∧ i ≠ kl ∧ i ≠ kbr ∧ i ≠ kam ∧ i < h.2) → h3.1 i = h.1 i := fun i hi => (oh3 i (by omega)).trans (fr i hi)
    refine xa_aload_n (pc := 61) dX3_prepare_61 rfl ?_
    refine xa_iconst (pc := 62) dX3_prepare_62 ?_
    refine xa_putw (pc := 63) [xa_r kb, xa_r (k + 4), xa_r (k + 1), xa_r (k + 2), xa_r kl', xa_i 1, xa_i 1, xa_i fi, xa_i la, xa_i lo, xa_i 0, xa_i 0] dX3_prepare_63 flRX3_88 plX3_11 (by omega) (by omega) hE0 trivial rfl (fun h4 nh4 ch4 oh4 => ?_)
    have hE0 : h4.1 k = xa_o 3 [xa_r kb, xa_r (k + 4), xa_r (k + 1), xa_r (k + 2), xa_r kl', xa_i 1, xa_i 1, xa_i fi, xa_i la, xa_i lo, xa_i 0, xa_i 0] := ch4
    have hE1 : h4.1 (k + 1) = xa_a 360 (xa_fl tk 360 (-1)) := (oh4 _ (by omega)).trans hE1
    have hE2 : h4.1 (k + 2) = xa_a 360 en := (oh4 _ (by omega)).trans hE2
    have hT0 : h4.1 (k + 4) = xa_o 6 [xa_r kb, xa_r (k + 4 + 5), xa_i sj, xa_r (k + 4 + 1), xa_r (k + 4 + 2), xa_i (((kN pa jo wa sr sj).toNat : Nat) : Int), xa_i (kF pa jo wa sr sj), xa_i (kF pa jo wa sr sj + (if 2 < pa then 27 else 9) - 1), xa_r kbr', xa_r kam'] := (oh4 _ (by omega)).trans hT0
    have hT1 : h4.1 (k + 4 + 1) = xa_a 2 pl' := (oh4 _ (by omega)).trans hT1
    have hT2 : h4.1 (k + 4 + 2) = xa_a 2 lw' := (oh4 _ (by omega)).trans hT2
    have hS0 : h4.1 (k + 4 + 5) = xa_o 4 [xa_r kb, xa_r (k + 4 + 5 + 1), xa_r (k + 4 + 5 + 2), xa_i tj, xa_i 0] := (oh4 _ (by omega)).trans hS0
    have hS1 : h4.1 (k + 4 + 5 + 1) = xa_a 3 (nP pa po) := (oh4 _ (by omega)).trans hS1
    have hS2 : h4.1 (k + 4 + 5 + 2) = xa_a 2 (xa_fl sp 2 0) := (oh4 _ (by omega)).trans hS2
    have hB0 : h4.1 kb = xa_o 0 [xa_r (kb + 1), xa_r (kb + 2), xa_i ((pa : Nat) : Int), xa_i ((jo : Nat) : Int), xa_i wa, xa_i sr, xa_i pu, xa_i ri] := (oh4 _ (by omega)).trans hB0
    have hB1 : h4.1 (kb + 1) = xa_a 9 ld := (oh4 _ (by omega)).trans hB1
    have hB2 : h4.1 (kb + 2) = xa_a 2 dg := (oh4 _ (by omega)).trans hB2
    have hT3 : h4.1 kbr' = xa_a nb' br' := (oh4 _ (Ne.symm (hPL2.r 0 (by decide) (by decide)))).trans hT3
    have hT4 : h4.1 kam' = xa_a na' am' := (oh4 _ (Ne.symm (hPL2.a 0 (by decide) (by decide)))).trans hT4
    have hE3 : h4.1 kl' = xa_a nl' (xa_fl lk' nl' (-1)) := (oh4 _ (Ne.symm (hPL2.l 0 (by decide) (by decide)))).trans hE3
    have hn : h4.2 = h.2 + (kA na (kN pa jo wa sr sj)).1 + (kL nl (360 * (kN pa jo wa sr sj))).1 := nh4.trans hn
    have fr : ∀ i, ((i < k ∨ k + 12 ≤ i) ∧ i ≠ kl ∧ i ≠ kbr ∧ i ≠ kam ∧ i < h.2) → h4.1 i = h.1 i := fun i hi => (oh4 i (by omega)).trans (fr i hi)
    refine xa_aload_n (pc := 66) dX3_prepare_66 rfl ?_
    refine xa_getfield (pc := 67) dX3_prepare_67 flRX3_30 (by omega) (by omega) hE0 rfl ?_
    refine xa_callV (pc := 70) (as := []) (rest := []) dX3_prepare_70 ⟨qX6_numberAtRest.1, qX6_numberAtRest.2.1, qX6_numberAtRest.2.2, by decide, by decide⟩ lkRX3_91 imX6_numberAtRest seX6_numberAtRest rfl rfl (by omega) (by omega) hT0 rfl (Nat.le_of_ble_eq_true rfl) (Nat.zero_le _) (Nat.zero_le _) (c_numberAtRest _ _ _ _ _ _ (kN pa jo wa sr sj).toNat pl' lw' sj (kF pa jo wa sr sj) (kF pa jo wa sr sj + (if 2 < pa then 27 else 9) - 1) ld dg pa jo wa sr pu ri br' am' _ _ tj 0 hB9 (by omega) hP' (by omega) hna' hnb' (by omega) (nP_b hstb.1) (xa_fl_b hstb.2.1 (by decide)) hstb.2.2.1 (by decide) ⟨hT0, hT1, hT2, hT3, hT4, ⟨by omega, by omega⟩, ⟨hPL2.tr, by omega⟩, ⟨hPL2.ta, by omega⟩, hPL2.ra⟩ ⟨hS0, hS1, hS2, by omega, by omega⟩ ⟨hB0, hB1, hB2, by omega, by omega⟩) (fun r h' hq => ?_)
    obtain ⟨rfl, ⟨po', sp', tj', tb', -, ⟨hS0, hS1, hS2, -, -⟩, hbd⟩, hqn, hqf⟩ := hq
    have hS0 : h'.1 (k + 4 + 5) = xa_o 4 [xa_r kb, xa_r (k + 4 + 5 + 1), xa_r (k + 4 + 5 + 2), xa_i tj', xa_i tb'] := hS0
    have hS1 : h'.1 (k + 4 + 5 + 1) = xa_a 3 po' := hS1
    have hS2 : h'.1 (k + 4 + 5 + 2) = xa_a 2 sp' := hS2
    have hE0 : h'.1 k = xa_o 3 [xa_r kb, xa_r (k + 4), xa_r (k + 1), xa_r (k + 2), xa_r kl', xa_i 1, xa_i 1, xa_i fi, xa_i la, xa_i lo, xa_i 0, xa_i 0] := (hqf _ (by omega)).trans hE0
    have hE1 : h'.1 (k + 1) = xa_a 360 (xa_fl tk 360 (-1)) := (hqf _ (by omega)).trans hE1
    have hE2 : h'.1 (k + 2) = xa_a 360 en := (hqf _ (by omega)).trans hE2
    have hT0 : h'.1 (k + 4) = xa_o 6 [xa_r kb, xa_r (k + 4 + 5), xa_i sj, xa_r (k + 4 + 1), xa_r (k + 4 + 2), xa_i (((kN pa jo wa sr sj).toNat : Nat) : Int), xa_i (kF pa jo wa sr sj), xa_i (kF pa jo wa sr sj + (if 2 < pa then 27 else 9) - 1), xa_r kbr', xa_r kam'] := (hqf _ (by omega)).trans hT0
    have hT1 : h'.1 (k + 4 + 1) = xa_a 2 pl' := (hqf _ (by omega)).trans hT1
    have hT2 : h'.1 (k + 4 + 2) = xa_a 2 lw' := (hqf _ (by omega)).trans hT2
    have hB0 : h'.1 kb = xa_o 0 [xa_r (kb + 1), xa_r (kb + 2), xa_i ((pa : Nat) : Int), xa_i ((jo : Nat) : Int), xa_i wa, xa_i sr, xa_i pu, xa_i ri] := (hqf _ (by omega)).trans hB0
    have hB1 : h'.1 (kb + 1) = xa_a 9 ld := (hqf _ (by omega)).trans hB1
    have hB2 : h'.1 (kb + 2) = xa_a 2 dg := (hqf _ (by omega)).trans hB2
    have hT3 : h'.1 kbr' = xa_a nb' br' := (hqf _ hPL2.r9).trans hT3
    have hT4 : h'.1 kam' = xa_a na' am' := (hqf _ hPL2.a9).trans hT4
    have hE3 : h'.1 kl' = xa_a nl' (xa_fl lk' nl' (-1)) := (hqf _ hPL2.l9).trans hE3
    have hn : h'.2 = h.2 + (kA na (kN pa jo wa sr sj)).1 + (kL nl (360 * (kN pa jo wa sr sj))).1 := hqn.trans hn
    have fr : ∀ i, ((i < k ∨ k + 12 ≤ i) ∧ i ≠ kl ∧ i ≠ kbr ∧ i ≠ kam ∧ i < h.2) → h'.1 i = h.1 i := fun i hi => (hqf i (by omega)).trans (fr i hi)
    refine xa_istoren (pc := 73) [some (xa_r k), some (xa_i (kE pa jo wa sr sj (cf_rest pa)))] dX3_prepare_73 (by decide) (Nat.le_of_ble_eq_true rfl) rfl rfl ?_
    refine xa_aload_n (pc := 74) dX3_prepare_74 rfl ?_
    refine xa_iload_n (pc := 75) dX3_prepare_75 rfl ?_
    refine xa_sipush (pc := 76) dX3_prepare_76 rfl ?_
    refine xa_imul (pc := 79) dX3_prepare_79 ?_
    have hkr := kE_b hB9 (cs_rest (sj := sj) hB9)
    have hkx := kx_b hB9 (cs_rest (sj := sj) hB9) (u := 0) (by omega)
    refine xa_top (y := (((kx pa jo wa sr sj (cf_rest pa) 0) : Nat) : Int)) (by omega) ?_
    refine xa_putw (pc := 80) [xa_r kb, xa_r (k + 4), xa_r (k + 1), xa_r (k + 2), xa_r kl', xa_i 1, xa_i 1, xa_i (((kx pa jo wa sr sj (cf_rest pa) 0) : Nat) : Int), xa_i la, xa_i lo, xa_i 0, xa_i 0] dX3_prepare_80 flRX3_95 plX3_7 (by omega) (by omega) hE0 trivial rfl (fun h5 nh5 ch5 oh5 => ?_)
    have hE0 : h5.1 k = xa_o 3 [xa_r kb, xa_r (k + 4), xa_r (k + 1), xa_r (k + 2), xa_r kl', xa_i 1, xa_i 1, xa_i (((kx pa jo wa sr sj (cf_rest pa) 0) : Nat) : Int), xa_i la, xa_i lo, xa_i 0, xa_i 0] := ch5
    have hE1 : h5.1 (k + 1) = xa_a 360 (xa_fl tk 360 (-1)) := (oh5 _ (by omega)).trans hE1
    have hE2 : h5.1 (k + 2) = xa_a 360 en := (oh5 _ (by omega)).trans hE2
    have hT0 : h5.1 (k + 4) = xa_o 6 [xa_r kb, xa_r (k + 4 + 5), xa_i sj, xa_r (k + 4 + 1), xa_r (k + 4 + 2), xa_i (((kN pa jo wa sr sj).toNat : Nat) : Int), xa_i (kF pa jo wa sr sj), xa_i (kF pa jo wa sr sj + (if 2 < pa then 27 else 9) - 1), xa_r kbr', xa_r kam'] := (oh5 _ (by omega)).trans hT0
    have hT1 : h5.1 (k + 4 + 1) = xa_a 2 pl' := (oh5 _ (by omega)).trans hT1
    have hT2 : h5.1 (k + 4 + 2) = xa_a 2 lw' := (oh5 _ (by omega)).trans hT2
    have hS0 : h5.1 (k + 4 + 5) = xa_o 4 [xa_r kb, xa_r (k + 4 + 5 + 1), xa_r (k + 4 + 5 + 2), xa_i tj', xa_i tb'] := (oh5 _ (by omega)).trans hS0
    have hS1 : h5.1 (k + 4 + 5 + 1) = xa_a 3 po' := (oh5 _ (by omega)).trans hS1
    have hS2 : h5.1 (k + 4 + 5 + 2) = xa_a 2 sp' := (oh5 _ (by omega)).trans hS2
    have hB0 : h5.1 kb = xa_o 0 [xa_r (kb + 1), xa_r (kb + 2), xa_i ((pa : Nat) : Int), xa_i ((jo : Nat) : Int), xa_i wa, xa_i sr, xa_i pu, xa_i ri] := (oh5 _ (by omega)).trans hB0
    have hB1 : h5.1 (kb + 1) = xa_a 9 ld := (oh5 _ (by omega)).trans hB1
    have hB2 : h5.1 (kb + 2) = xa_a 2 dg := (oh5 _ (by omega)).trans hB2
    have hT3 : h5.1 kbr' = xa_a nb' br' := (oh5 _ (Ne.symm (hPL2.r 0 (by decide) (by decide)))).trans hT3
    have hT4 : h5.1 kam' = xa_a na' am' := (oh5 _ (Ne.symm (hPL2.a 0 (by decide) (by decide)))).trans hT4
    have hE3 : h5.1 kl' = xa_a nl' (xa_fl lk' nl' (-1)) := (oh5 _ (Ne.symm (hPL2.l 0 (by decide) (by decide)))).trans hE3
    have hn : h5.2 = h.2 + (kA na (kN pa jo wa sr sj)).1 + (kL nl (360 * (kN pa jo wa sr sj))).1 := nh5.trans hn
    have fr : ∀ i, ((i < k ∨ k + 12 ≤ i) ∧ i ≠ kl ∧ i ≠ kbr ∧ i ≠ kam ∧ i < h.2) → h5.1 i = h.1 i := fun i hi => (oh5 i (by omega)).trans (fr i hi)
    refine xa_aload_n (pc := 83) dX3_prepare_83 rfl ?_
    refine xa_aload_n (pc := 84) dX3_prepare_84 rfl ?_
    refine xa_getfield (pc := 85) dX3_prepare_85 flRX3_95 (by omega) (by omega) hE0 rfl ?_
    refine xa_putw (pc := 88) [xa_r kb, xa_r (k + 4), xa_r (k + 1), xa_r (k + 2), xa_r kl', xa_i 1, xa_i 1, xa_i (((kx pa jo wa sr sj (cf_rest pa) 0) : Nat) : Int), xa_i (((kx pa jo wa sr sj (cf_rest pa) 0) : Nat) : Int), xa_i lo, xa_i 0, xa_i 0] dX3_prepare_88 flRX3_98 plX3_8 (by omega) (by omega) hE0 trivial rfl (fun h6 nh6 ch6 oh6 => ?_)
    have hE0 : h6.1 k = xa_o 3 [xa_r kb, xa_r (k + 4), xa_r (k + 1), xa_r (k + 2), xa_r kl', xa_i 1, xa_i 1, xa_i (((kx pa jo wa sr sj (cf_rest pa) 0) : Nat) : Int), xa_i (((kx pa jo wa sr sj (cf_rest pa) 0) : Nat) : Int), xa_i lo, xa_i 0, xa_i 0] := ch6
    have hE1 : h6.1 (k + 1) = xa_a 360 (xa_fl tk 360 (-1)) := (oh6 _ (by omega)).trans hE1
    have hE2 : h6.1 (k + 2) = xa_a 360 en := (oh6 _ (by omega)).trans hE2
    have hT0 : h6.1 (k + 4) = xa_o 6 [xa_r kb, xa_r (k + 4 + 5), xa_i sj, xa_r (k + 4 + 1), xa_r (k + 4 + 2), xa_i (((kN pa jo wa sr sj).toNat : Nat) : Int), xa_i (kF pa jo wa sr sj), xa_i (kF pa jo wa sr sj + (if 2 < pa then 27 else 9) - 1), xa_r kbr', xa_r kam'] := (oh6 _ (by omega)).trans hT0
    have hT1 : h6.1 (k + 4 + 1) = xa_a 2 pl' := (oh6 _ (by omega)).trans hT1
    have hT2 : h6.1 (k + 4 + 2) = xa_a 2 lw' := (oh6 _ (by omega)).trans hT2
    have hS0 : h6.1 (k + 4 + 5) = xa_o 4 [xa_r kb, xa_r (k + 4 + 5 + 1), xa_r (k + 4 + 5 + 2), xa_i tj', xa_i tb'] := (oh6 _ (by omega)).trans hS0
    have hS1 : h6.1 (k + 4 + 5 + 1) = xa_a 3 po' := (oh6 _ (by omega)).trans hS1
    have hS2 : h6.1 (k + 4 + 5 + 2) = xa_a 2 sp' := (oh6 _ (by omega)).trans hS2
    have hB0 : h6.1 kb = xa_o 0 [xa_r (kb + 1), xa_r (kb + 2), xa_i ((pa : Nat) : Int), xa_i ((jo : Nat) : Int), xa_i wa, xa_i sr, xa_i pu, xa_i ri] := (oh6 _ (by omega)).trans hB0
    have hB1 : h6.1 (kb + 1) = xa_a 9 ld := (oh6 _ (by omega)).trans hB1
    have hB2 : h6.1 (kb + 2) = xa_a 2 dg := (oh6 _ (by omega)).trans hB2
    have hT3 : h6.1 kbr' = xa_a nb' br' := (oh6 _ (Ne.symm (hPL2.r 0 (by decide) (by decide)))).trans hT3
    have hT4 : h6.1 kam' = xa_a na' am' := (oh6 _ (Ne.symm (hPL2.a 0 (by decide) (by decide)))).trans hT4
    have hE3 : h6.1 kl' = xa_a nl' (xa_fl lk' nl' (-1)) := (oh6 _ (Ne.symm (hPL2.l 0 (by decide) (by decide)))).trans hE3
    have hn : h6.2 = h.2 + (kA na (kN pa jo wa sr sj)).1 + (kL nl (360 * (kN pa jo wa sr sj))).1 := nh6.trans hn
    have fr : ∀ i, ((i < k ∨ k + 12 ≤ i) ∧ i ≠ kl ∧ i ≠ kbr ∧ i ≠ kam ∧ i < h.2) → h6.1 i = h.1 i := fun i hi => (oh6 i (by omega)).trans (fr i hi)
    refine xa_aload_n (pc := 91) dX3_prepare_91 rfl ?_
    refine xa_aload_n (pc := 92) dX3_prepare_92 rfl ?_
    refine xa_getfield (pc := 93) dX3_prepare_93 flRX3_95 (by omega) (by omega) hE0 rfl ?_
    refine xa_putw (pc := 96) [xa_r kb, xa_r (k + 4), xa_r (k + 1), xa_r (k + 2), xa_r kl', xa_i 1, xa_i 1, xa_i (((kx pa jo wa sr sj (cf_rest pa) 0) : Nat) : Int), xa_i (((kx pa jo wa sr sj (cf_rest pa) 0) : Nat) : Int), xa_i (((kx pa jo wa sr sj (cf_rest pa) 0) : Nat) : Int), xa_i 0, xa_i 0] dX3_prepare_96 flRX3_101 plX3_9 (by omega) (by omega) hE0 trivial rfl (fun h7 nh7 ch7 oh7 => ?_)
    have hE0 : h7.1 k = xa_o 3 [xa_r kb, xa_r (k + 4), xa_r (k + 1), xa_r (k + 2), xa_r kl', xa_i 1, xa_i 1, xa_i (((kx pa jo wa sr sj (cf_rest pa) 0) : Nat) : Int), xa_i (((kx pa jo wa sr sj (cf_rest pa) 0) : Nat) : Int), xa_i (((kx pa jo wa sr sj (cf_rest pa) 0) : Nat) : Int), xa_i 0, xa_i 0] := ch7
    have hE1 : h7.1 (k + 1) = xa_a 360 (xa_fl tk 360 (-1)) := (oh7 _ (by omega)).trans hE1
    have hE2 : h7.1 (k + 2) = xa_a 360 en := (oh7 _ (by omega)).trans hE2
    have hT0 : h7.1 (k + 4) = xa_o 6 [xa_r kb, xa_r (k + 4 + 5), xa_i sj, xa_r (k + 4 + 1), xa_r (k + 4 + 2), xa_i (((kN pa jo wa sr sj).toNat : Nat) : Int), xa_i (kF pa jo wa sr sj), xa_i (kF pa jo wa sr sj + (if 2 < pa then 27 else 9) - 1), xa_r kbr', xa_r kam'] := (oh7 _ (by omega)).trans hT0
    have hT1 : h7.1 (k + 4 + 1) = xa_a 2 pl' := (oh7 _ (by omega)).trans hT1
    have hT2 : h7.1 (k + 4 + 2) = xa_a 2 lw' := (oh7 _ (by omega)).trans hT2
    have hS0 : h7.1 (k + 4 + 5) = xa_o 4 [xa_r kb, xa_r (k + 4 + 5 + 1), xa_r (k + 4 + 5 + 2), xa_i tj', xa_i tb'] := (oh7 _ (by omega)).trans hS0
    have hS1 : h7.1 (k + 4 + 5 + 1) = xa_a 3 po' := (oh7 _ (by omega)).trans hS1
    have hS2 : h7.1 (k + 4 + 5 + 2) = xa_a 2 sp' := (oh7 _ (by omega)).trans hS2
    have hB0 : h7.1 kb = xa_o 0 [xa_r (kb + 1), xa_r (kb + 2), xa_i ((pa : Nat) : Int), xa_i ((jo : Nat) : Int), xa_i wa, xa_i sr, xa_i pu, xa_i ri] := (oh7 _ (by omega)).trans hB0
    have hB1 : h7.1 (kb + 1) = xa_a 9 ld := (oh7 _ (by omega)).trans hB1
    have hB2 : h7.1 (kb + 2) = xa_a 2 dg := (oh7 _ (by omega)).trans hB2
    have hT3 : h7.1 kbr' = xa_a nb' br' := (oh7 _ (Ne.symm (hPL2.r 0 (by decide) (by decide)))).trans hT3
    have hT4 : h7.1 kam' = xa_a na' am' := (oh7 _ (Ne.symm (hPL2.a 0 (by decide) (by decide)))).trans hT4
    have hE3 : h7.1 kl' = xa_a nl' (xa_fl lk' nl' (-1)) := (oh7 _ (Ne.symm (hPL2.l 0 (by decide) (by decide)))).trans hE3
    have hn : h7.2 = h.2 + (kA na (kN pa jo wa sr sj)).1 + (kL nl (360 * (kN pa jo wa sr sj))).1 := nh7.trans hn
    have fr : ∀ i, ((i < k ∨ k + 12 ≤ i) ∧ i ≠ kl ∧ i ≠ kbr ∧ i ≠ kam ∧ i < h.2) → h7.1 i = h.1 i := fun i hi => (oh7 i (by omega)).trans (fr i hi)
    refine xa_aload_n (pc := 99) dX3_prepare_99 rfl ?_
    refine xa_getfield (pc := 100) dX3_prepare_100 flRX3_95 (by omega) (by omega) hE0 rfl ?_
    refine xa_if_lt (pc := 103) (tgt := 134) dX3_prepare_103 (by decide) ⟨by omega, by omega⟩ (fun c_103 => ?_) (fun c_103 => ?_)
    · skip
      exfalso; omega
    · skip
      refine xa_aload_n (pc := 106) dX3_prepare_106 rfl ?_
      refine xa_getfield (pc := 107) dX3_prepare_107 flRX3_95 (by omega) (by omega) hE0 rfl ?_
      refine xa_aload_n (pc := 110) dX3_prepare_110 rfl ?_
      refine xa_getfield (pc := 111) dX3_prepare_111 flRX3_18 (by omega) (by omega) hE0 rfl ?_
      refine xa_alen (pc := 114) dX3_prepare_114 (by omega) hE3 ?_
      refine xa_icmp_ge (pc := 115) (tgt := 134) dX3_prepare_115 (by decide) ⟨by omega, by omega⟩ ⟨by omega, by omega⟩ (fun c_115 => ?_) (fun c_115 => ?_)
      · skip
        exfalso; omega
      · skip
        refine xa_aload_n (pc := 118) dX3_prepare_118 rfl ?_
        refine xa_getfield (pc := 119) dX3_prepare_119 flRX3_18 (by omega) (by omega) hE0 rfl ?_
        refine xa_aload_n (pc := 122) dX3_prepare_122 rfl ?_
        refine xa_getfield (pc := 123) dX3_prepare_123 flRX3_95 (by omega) (by omega) hE0 rfl ?_
        refine xa_iload_n (pc := 126) dX3_prepare_126 rfl ?_
        refine xa_bipush (pc := 127) dX3_prepare_127 rfl ?_
        refine xa_ishl (pc := 129) dX3_prepare_129 ?_
        refine xa_ldc (pc := 130) (n := 1048575) dX3_prepare_130 ctRX3_104 rfl ?_
        refine xa_ior (pc := 132) dX3_prepare_132 ?_
        refine xa_top (y := kE pa jo wa sr sj (cf_rest pa) * 1048576 + 1048575) (by have e : kE pa jo wa sr sj (cf_rest pa) = (((kE pa jo wa sr sj (cf_rest pa)).toNat : Nat) : Int) := (by omega); rw [e]; exact lk_first (by omega)) ?_
        refine xa_iastw (pc := 133) (kx pa jo wa sr sj (cf_rest pa) 0) dX3_prepare_133 (by omega) (by omega) hE3 (by omega) (by omega) (Int.toNat_natCast _) (fun h8 nh8 ch8 oh8 => ?_)
        have hE3 : h8.1 kl' = xa_a nl' (xa_upf (xa_fl lk' nl' (-1)) (kx pa jo wa sr sj (cf_rest pa) 0) (kE pa jo wa sr sj (cf_rest pa) * 1048576 + 1048575)) := ch8
        have hE0 : h8.1 k = xa_o 3 [xa_r kb, xa_r (k + 4), xa_r (k + 1), xa_r (k + 2), xa_r kl', xa_i 1, xa_i 1, xa_i (((kx pa jo wa sr sj (cf_rest pa) 0) : Nat) : Int), xa_i (((kx pa jo wa sr sj (cf_rest pa) 0) : Nat) : Int), xa_i (((kx pa jo wa sr sj (cf_rest pa) 0) : Nat) : Int), xa_i 0, xa_i 0] := (oh8 _ (hPL2.l 0 (by decide) (by decide))).trans hE0
        have hE1 : h8.1 (k + 1) = xa_a 360 (xa_fl tk 360 (-1)) := (oh8 _ (hPL2.l 1 (by decide) (by decide))).trans hE1
        have hE2 : h8.1 (k + 2) = xa_a 360 en := (oh8 _ (hPL2.l 2 (by decide) (by decide))).trans hE2
        have hT0 : h8.1 (k + 4) = xa_o 6 [xa_r kb, xa_r (k + 4 + 5), xa_i sj, xa_r (k + 4 + 1), xa_r (k + 4 + 2), xa_i (((kN pa jo wa sr sj).toNat : Nat) : Int), xa_i (kF pa jo wa sr sj), xa_i (kF pa jo wa sr sj + (if 2 < pa then 27 else 9) - 1), xa_r kbr', xa_r kam'] := (oh8 _ (hPL2.l 4 (by decide) (by decide))).trans hT0
        have hT1 : h8.1 (k + 4 + 1) = xa_a 2 pl' := (oh8 _ (hPL2.l 5 (by decide) (by decide))).trans hT1
        have hT2 : h8.1 (k + 4 + 2) = xa_a 2 lw' := (oh8 _ (hPL2.l 6 (by decide) (by decide))).trans hT2
        have hS0 : h8.1 (k + 4 + 5) = xa_o 4 [xa_r kb, xa_r (k + 4 + 5 + 1), xa_r (k + 4 + 5 + 2), xa_i tj', xa_i tb'] := (oh8 _ (hPL2.l 9 (by decide) (by decide))).trans hS0
        have hS1 : h8.1 (k + 4 + 5 + 1) = xa_a 3 po' := (oh8 _ (hPL2.l 10 (by decide) (by decide))).trans hS1
        have hS2 : h8.1 (k + 4 + 5 + 2) = xa_a 2 sp' := (oh8 _ (hPL2.l 11 (by decide) (by decide))).trans hS2
        have hB0 : h8.1 kb = xa_o 0 [xa_r (kb + 1), xa_r (kb + 2), xa_i ((pa : Nat) : Int), xa_i ((jo : Nat) : Int), xa_i wa, xa_i sr, xa_i pu, xa_i ri] := (oh8 _ (hPL2.lb 0 (by decide))).trans hB0
        have hB1 : h8.1 (kb + 1) = xa_a 9 ld := (oh8 _ (hPL2.lb 1 (by decide))).trans hB1
        have hB2 : h8.1 (kb + 2) = xa_a 2 dg := (oh8 _ (hPL2.lb 2 (by decide))).trans hB2
        have hT3 : h8.1 kbr' = xa_a nb' br' := (oh8 _ hPL2.lr.symm).trans hT3
        have hT4 : h8.1 kam' = xa_a na' am' := (oh8 _ hPL2.la.symm).trans hT4
        have hn : h8.2 = h.2 + (kA na (kN pa jo wa sr sj)).1 + (kL nl (360 * (kN pa jo wa sr sj))).1 := nh8.trans hn
        have fr : ∀ i, ((i < k ∨ k + 12 ≤ i) ∧ i ≠ kl ∧ i ≠ kbr ∧ i ≠ kam ∧ i < h.2) → h8.1 i = h.1 i := fun i hi => (oh8 i (by omega)).trans (fr i hi)
        refine xa_aload_n (pc := 134) dX3_prepare_134 rfl ?_
        refine xa_iconst (pc := 135) dX3_prepare_135 ?_
        refine xa_aload_n (pc := 136) dX3_prepare_136 rfl ?_
        refine xa_getfield (pc := 137) dX3_prepare_137 flRX3_95 (by omega) (by omega) hE0 rfl ?_
        refine xa_iconst (pc := 140) dX3_prepare_140 ?_
        refine xa_callV (pc := 141) (as := [xa_i 0, xa_i (((kx pa jo wa sr sj (cf_rest pa) 0) : Nat) : Int), xa_i 0]) (rest := []) dX3_prepare_141 ⟨qX3_answer.1, qX3_answer.2.1, qX3_answer.2.2, by decide, by decide⟩ lkRX3_105 imX3_answer seX3_answer rfl rfl (by omega) (by omega) hE0 rfl (Nat.le_of_ble_eq_true rfl) (Nat.zero_le _) (Nat.zero_le _) (c_answer k kb kl' nl' (xa_fl tk 360 (-1)) en (xa_upf (xa_fl lk' nl' (-1)) (kx pa jo wa sr sj (cf_rest pa) 0) (kE pa jo wa sr sj (cf_rest pa) * 1048576 + 1048575)) 1 1 (((kx pa jo wa sr sj (cf_rest pa) 0) : Nat) : Int) (((kx pa jo wa sr sj (cf_rest pa) 0) : Nat) : Int) (((kx pa jo wa sr sj (cf_rest pa) 0) : Nat) : Int) 0 0 (((kx pa jo wa sr sj (cf_rest pa) 0) : Nat) : Int) 0 ((pa : Nat) : Int) ((jo : Nat) : Int) wa sr pu ri hk (by omega) hPL2.2.1 (by omega) (by omega) (by omega) hri (by omega) (by omega) (fun t ht => by rw [xa_fl_lt _ _ ht]; omega) (by rw [sC_fl _ (by decide)]; exact hE0) hE1 hE2 hE3 hB0) (fun r h' hq => ?_)
        obtain ⟨rfl, ⟨tk', en', hR, htk', hE0, hE1, hE2⟩, hqn, hqf⟩ := hq
        have hE0 : h'.1 k = xa_o 3 [xa_r kb, xa_r (k + 4), xa_r (k + 1), xa_r (k + 2), xa_r kl', xa_i 1, xa_i 1, xa_i (((kx pa jo wa sr sj (cf_rest pa) 0) : Nat) : Int), xa_i (((kx pa jo wa sr sj (cf_rest pa) 0) : Nat) : Int), xa_i (((kx pa jo wa sr sj (cf_rest pa) 0) : Nat) : Int), xa_i 0, xa_i ((sC tk' : Nat) : Int)] := hE0
        have hE1 : h'.1 (k + 1) = xa_a 360 tk' := hE1
        have hE2 : h'.1 (k + 2) = xa_a 360 en' := hE2
        have hT0 : h'.1 (k + 4) = xa_o 6 [xa_r kb, xa_r (k + 4 + 5), xa_i sj, xa_r (k + 4 + 1), xa_r (k + 4 + 2), xa_i (((kN pa jo wa sr sj).toNat : Nat) : Int), xa_i (kF pa jo wa sr sj), xa_i (kF pa jo wa sr sj + (if 2 < pa then 27 else 9) - 1), xa_r kbr', xa_r kam'] := (hqf _ (by omega)).trans hT0
        have hT1 : h'.1 (k + 4 + 1) = xa_a 2 pl' := (hqf _ (by omega)).trans hT1
        have hT2 : h'.1 (k + 4 + 2) = xa_a 2 lw' := (hqf _ (by omega)).trans hT2
        have hS0 : h'.1 (k + 4 + 5) = xa_o 4 [xa_r kb, xa_r (k + 4 + 5 + 1), xa_r (k + 4 + 5 + 2), xa_i tj', xa_i tb'] := (hqf _ (by omega)).trans hS0
        have hS1 : h'.1 (k + 4 + 5 + 1) = xa_a 3 po' := (hqf _ (by omega)).trans hS1
        have hS2 : h'.1 (k + 4 + 5 + 2) = xa_a 2 sp' := (hqf _ (by omega)).trans hS2
        have hB0 : h'.1 kb = xa_o 0 [xa_r (kb + 1), xa_r (kb + 2), xa_i ((pa : Nat) : Int), xa_i ((jo : Nat) : Int), xa_i wa, xa_i sr, xa_i pu, xa_i ri] := (hqf _ (by omega)).trans hB0
        have hB1 : h'.1 (kb + 1) = xa_a 9 ld := (hqf _ (by omega)).trans hB1
        have hB2 : h'.1 (kb + 2) = xa_a 2 dg := (hqf _ (by omega)).trans hB2
        have hT3 : h'.1 kbr' = xa_a nb' br' := (hqf _ hPL2.r3).trans hT3
        have hT4 : h'.1 kam' = xa_a na' am' := (hqf _ hPL2.a3).trans hT4
        have hE3 : h'.1 kl' = xa_a nl' (xa_upf (xa_fl lk' nl' (-1)) (kx pa jo wa sr sj (cf_rest pa) 0) (kE pa jo wa sr sj (cf_rest pa) * 1048576 + 1048575)) := (hqf _ hPL2.l3).trans hE3
        have hn : h'.2 = h.2 + (kA na (kN pa jo wa sr sj)).1 + (kL nl (360 * (kN pa jo wa sr sj))).1 := hqn.trans hn
        have fr : ∀ i, ((i < k ∨ k + 12 ≤ i) ∧ i ≠ kl ∧ i ≠ kbr ∧ i ≠ kam ∧ i < h.2) → h'.1 i = h.1 i := fun i hi => (hqf i (by omega)).trans (fr i hi)
        refine xa_return (pc := 144) dX3_prepare_144 rfl ?_
        have hsi := sI_0 (lk := lk') (tk := tk) (en := en) (tk' := tk') (en' := en') hB9 (nl := nl') hnl1 rfl hR rfl
        have hTI0 : kTI ld dg pa jo wa sr pu sj br' am' := fun j hj => Or.inl (hz' j (by omega))
        subst hnb'
        exact ⟨rfl, ⟨kl', kbr', kam', nl', na', tk', 1, 0, hnle, hnae, ⟨⟨hPL2, ⟨hkb, hk, by omega⟩, ⟨by omega, by omega, by omega⟩, rfl, by omega, hnl2⟩, hna', hnl1, pl', lw', br', am', po', sp', _, en', tj', tb', _, _, _, _, _, _, _, 1, 0, hP', hTI0, hbd, rfl, hsi, hE0, hE1, hE2, hE3, hT0, hT1, hT2, hT3, hT4, hS0, hS1, hS2⟩, hklx, hkbrx, hkamx⟩, by omega, fun i hi => fr i hi⟩
  · skip
    exfalso; omega
