/-! The class: looked, pushed, heads -/
def pe (i : Nat) : Int := if i % 2 = 1 then -(((i : Nat) : Int) + 1) / 2 else ((i : Nat) : Int) / 2
theorem pe_o (j : Nat) : pe (2 * j + 1) = -((j : Nat) : Int) - 1 := by
  unfold pe
  rw [if_pos (by omega)]
  omega
theorem pe_e (j : Nat) : pe (2 * j) = ((j : Nat) : Int) := by
  unfold pe
  rw [if_neg (by omega)]
  omega
/-- counted outwards is counted along -/
theorem ct_pe (P : Int → Bool) : ∀ j : Nat, ct_n (fun i => P (pe i)) (2 * j + 1) = ct_n (fun i => P (((i : Nat) : Int) - ((j : Nat) : Int))) (2 * j + 1)
  | 0 => rfl
  | j + 1 => by
    have ih := ct_pe P j
    have e1 : ct_n (fun i => P (pe i)) (2 * (j + 1) + 1) = ct_n (fun i => P (pe i)) (2 * j + 1) + (if P (pe (2 * j + 1)) = true then 1 else 0) + (if P (pe (2 * (j + 1))) = true then 1 else 0) := rfl
    have e2 := ct_split (fun i => P (((i : Nat) : Int) - ((j + 1 : Nat) : Int))) 1 (2 * j + 1)
    have e3 : ct_n (fun i => P (((i : Nat) : Int) - ((j + 1 : Nat) : Int))) (2 * (j + 1) + 1) = ct_n (fun i => P (((i : Nat) : Int) - ((j + 1 : Nat) : Int))) (1 + (2 * j + 1)) + (if P (((2 * (j + 1) : Nat) : Int) - ((j + 1 : Nat) : Int)) = true then 1 else 0) := by
      rw [show 1 + (2 * j + 1) = 2 * (j + 1) by omega]
      rfl
    have e4 : ct_n (fun i => P (((i : Nat) : Int) - ((j + 1 : Nat) : Int))) 1 = (if P (-((j : Nat) : Int) - 1) = true then 1 else 0) := by
      show 0 + (if P (((0 : Nat) : Int) - ((j + 1 : Nat) : Int)) = true then 1 else 0) = _
      rw [show ((0 : Nat) : Int) - ((j + 1 : Nat) : Int) = -((j : Nat) : Int) - 1 by omega, Nat.zero_add]
    have e5 : ct_n (fun i => (fun i => P (((i : Nat) : Int) - ((j + 1 : Nat) : Int))) (1 + i)) (2 * j + 1) = ct_n (fun i => P (((i : Nat) : Int) - ((j : Nat) : Int))) (2 * j + 1) := ct_ext _ (fun i hi => by
      dsimp only
      rw [show ((1 + i : Nat) : Int) - ((j + 1 : Nat) : Int) = ((i : Nat) : Int) - ((j : Nat) : Int) by omega])
    rw [e1, e3, e2, e4, e5, ih, pe_o, pe_e, show ((2 * (j + 1) : Nat) : Int) - ((j + 1 : Nat) : Int) = ((j + 1 : Nat) : Int) by omega]
    omega
theorem pe_nr {P : Int → Bool} {m i : Nat} (hi : i ≤ 2 * m) (hP : P (pe i) = true) (hn : ∀ i', i' < i → P (pe i') = false) : nr_is P ((m : Nat) : Int) (pe i) := by
  refine Or.inl ⟨pe i, ?_, hP, fun l' h1 h2 => ?_, rfl⟩
  · unfold pe
    split <;> omega
  · obtain ⟨i', e, hle⟩ : ∃ i' : Nat, pe i' = l' ∧ True := by
      by_cases q : l' < 0
      · refine ⟨2 * (-l' - 1).toNat + 1, ?_, trivial⟩
        rw [pe_o]
        omega
      · refine ⟨2 * l'.toNat, ?_, trivial⟩
        rw [pe_e]
        omega
    have hge : i ≤ i' := by
      by_cases q : i' < i
      · have := hn i' q
        rw [e, h2] at this
        cases this
      · omega
    rw [← e]
    unfold pe
    split <;> split <;> omega
theorem pe_no {P : Int → Bool} {m : Nat} (hn : ∀ i', i' < 2 * m + 1 → P (pe i') = false) : nr_is P ((m : Nat) : Int) (-10004) := by
  refine Or.inr ⟨fun l h => ?_, rfl⟩
  by_cases q : l < 0
  · have k := hn (2 * (-l - 1).toNat + 1) (by omega)
    rw [pe_o, show -(((-l - 1).toNat : Nat) : Int) - 1 = l by omega] at k
    exact k
  · have k := hn (2 * l.toNat) (by omega)
    rw [pe_e, show ((l.toNat : Nat) : Int) = l by omega] at k
    exact k
theorem sum_rest {ld dg : Nat → Int} {pa jo : Nat} {wa sr pu ri : Int} (hB : vB ld dg pa jo wa sr pu ri) : sp_sum (fun i => sp_ld ld ((i : Nat) : Int) 1) pa = cf_all ld pa (cf_rest pa) := by
  have h0 := hB.1
  have e : ∀ i : Nat, i < 3 → sp_ld ld ((i : Nat) : Int) 1 = ld (3 * i + 1) := fun i hi => by
    unfold sp_ld
    rw [if_pos (by omega)]
    congr 1
    omega
  have e0 := e 0 (by decide)
  have e1 := e 1 (by decide)
  have e2 := e 2 (by decide)
  rcases (show pa = 2 ∨ pa = 3 by omega) with rfl | rfl
  · show 0 + sp_ld ld ((0 : Nat) : Int) 1 + sp_ld ld ((1 : Nat) : Int) 1 = ld (3 * 0 + 1) + ld (3 * 1 + 1) + 0
    rw [e0, e1]
    omega
  · show 0 + sp_ld ld ((0 : Nat) : Int) 1 + sp_ld ld ((1 : Nat) : Int) 1 + sp_ld ld ((2 : Nat) : Int) 1 = ld (3 * 0 + 1) + ld (3 * 1 + 1) + ld (3 * 2 + 1)
    rw [e0, e1, e2]
    omega
/-- what a landing tells -/
def lnI (ld dg : Nat → Int) (pa jo : Nat) (wa sr pu ri : Int) (mv le : Nat → Int) (late : Int) (w : Nat) (v : Int) : Prop := (v = -4 ∨ 0 ≤ v ∧ v < 360) ∧ ∀ x : Int, (v ≠ -4 ∧ sp_off (x + v) 0 ≤ ri) ↔ hd_B ld dg pa jo wa sr pu ri (wy mv ((w : Nat) : Int)) (le w).toNat (x + late) = true
theorem off_mod (x y : Int) : sp_off (x + y % 360) 0 = sp_off (x + y) 0 := by
  unfold sp_off
  omega
section LN
variable {ld dg : Nat → Int} {pa jo : Nat} {wa sr pu ri : Int} {mv le : Nat → Int} {w m : Nat} {c : xCf} {u : Int} {tu lo dr : Nat → Int} {late : Int}
theorem ln_y (hB : vB ld dg pa jo wa sr pu ri) (h : fwR ld dg pa jo wa sr (wy mv ((w : Nat) : Int)) (le w).toNat m c u tu lo) (h0 : dr 0 = 0) (hm : m = (le w).toNat) (hs : c.2.2.2.1 = 0 ∧ c.2.2.2.2 = 0) {U : Int} (hU : cr_done ld dg pa jo wa sr pu (wy mv ((w : Nat) : Int)) (le w).toNat m c U) : lnI ld dg pa jo wa sr pu ri mv le late w ((late + U) % 360) := by
  refine ⟨Or.inr (by omega), fun x => ?_⟩
  have e := hU.2.1
  rw [hm] at e
  rw [hd_B_y e, decide_eq_true_iff, off_mod, show x + late + U = x + (late + U) by omega]
  exact ⟨fun z => ⟨hs, z.2⟩, fun z => ⟨by omega, z.2⟩⟩
theorem ln_ns (h : fwR ld dg pa jo wa sr (wy mv ((w : Nat) : Int)) (le w).toNat m c u tu lo) (hm : m = (le w).toNat) (hs : ¬ (c.2.2.2.1 = 0 ∧ c.2.2.2.2 = 0)) : lnI ld dg pa jo wa sr pu ri mv le late w (-4) := by
  refine ⟨Or.inl rfl, fun x => ?_⟩
  have e := (h.2.2.1 pu).2.1
  rw [hm] at e
  rw [hd_B_y e, decide_eq_true_iff]
  exact ⟨fun z => absurd rfl z.1, fun z => absurd z.1 hs⟩
theorem ln_no (h : fwR ld dg pa jo wa sr (wy mv ((w : Nat) : Int)) (le w).toNat m c u tu lo) (hm : ¬ m = (le w).toNat) : lnI ld dg pa jo wa sr pu ri mv le late w (-4) := by
  refine ⟨Or.inl rfl, fun x => ?_⟩
  have hl := h.1
  rw [hd_B_n (fw_none h pu (Nat.le_refl _) (by omega))]
  exact ⟨fun z => absurd rfl z.1, fun z => by cases z⟩
end LN

theorem c_look_loop {G : xa_G} {h : xa_H} {k : Nat} {kp : Int} {ld dg : Nat → Int} {pa jo : Nat} {wa sr pu ri : Int} {mv le fi : Nat → Int} {pc : Nat} {w m : Nat} {t1 : xSt} {u1 : Int} {tu1 lo1 : Nat → Int} {c1 : xCf} {dr : Nat → Int} {q : Int} (hq : 0 ≤ q ∧ q ≤ 1) (hB9 : vB ld dg pa jo wa sr pu ri) (hmvb : ∀ i, 0 ≤ mv i ∧ mv i ≤ 18) (hle : ∀ i, 0 ≤ le i ∧ le i ≤ 60) (hfi : fiOk pa fi pc) (hk : 2 ≤ k) (hw3 : w ≤ 3) (hok1 : sp_ok t1) (hfw : fwR ld dg pa jo wa sr (wy mv ((w : Nat) : Int)) (le w).toNat m c1 u1 tu1 lo1) (hpu : -9999 ≤ pu ∧ pu ≤ 9999) (hpa3 : pa ≤ 3 ∧ pa = jo + 1 ∧ 2 ≤ pa) (hdr0 : dr 0 = 0) (hkn : k + 71 < h.2) (hX0 : h.1 k = xa_o 9 [xa_r (k + 1), xa_r (k + 3), xa_r (k + 6), xa_r (k + 9), xa_r (k + 11), xa_r (k + 15), xa_i kp, xa_r (k + 24), xa_r (k + 31), xa_r (k + 32), xa_r (k + 36), xa_r (k + 48), xa_r (k + 60)]) (hB0 : h.1 (k + 3) = xa_o 0 [xa_r (k + 3 + 1), xa_r (k + 3 + 2), xa_i ((pa : Nat) : Int), xa_i ((jo : Nat) : Int), xa_i wa, xa_i sr, xa_i pu, xa_i ri]) (hB1 : h.1 (k + 3 + 1) = xa_a 9 ld) (hB2 : h.1 (k + 3 + 2) = xa_a 2 dg) (hH0 : h.1 (k + 11) = xa_o 5 [xa_r (k + 11 + 1), xa_r (k + 11 + 2), xa_r (k + 11 + 3), xa_i ((pc : Nat) : Int)]) (hH1 : h.1 (k + 11 + 1) = xa_a 240 mv) (hH2 : h.1 (k + 11 + 2) = xa_a 4 le) (hH3 : h.1 (k + 11 + 3) = xa_a 120 fi) (hT0 : h.1 (k + 24) = xa_o 8 [xa_r (k + 24 + 4), xa_r (k + 3), xa_r (k + 24 + 1), xa_r (k + 24 + 2), xa_r (k + 24 + 3), xa_i ((m : Nat) : Int), xa_i (xa_b (m = (le w).toNat))]) (hT1 : h.1 (k + 24 + 1) = xa_a 183 tu1) (hT2 : h.1 (k + 24 + 2) = xa_a 61 lo1) (hT3 : h.1 (k + 24 + 3) = xa_a 61 (sp_drf dr pu lo1 m)) (hS0 : h.1 (k + 24 + 4) = xa_o 4 [xa_r (k + 3), xa_r (k + 24 + 4 + 1), xa_r (k + 24 + 4 + 2), xa_i t1.2.2.1, xa_i t1.2.2.2]) (hS1 : h.1 (k + 24 + 4 + 1) = xa_a 3 t1.1) (hS2 : h.1 (k + 24 + 4 + 2) = xa_a 2 t1.2.1) : ∀ (d : Nat) (e : Nat), 360 - e < d → (e ≤ 360) → (q = 1 → ∀ t, t < e → (fun t => fl_P ld dg pa jo wa sr pu mv le ((w : Nat) : Int) fi pc ((t : Nat) : Int)) t = false) → xa_W G mX9_looked (xa_Z G (fun r h' => (∃ r0, r = some (xa_i r0) ∧ (if q = 0 then r0 = (ct_n (fun t => fl_P ld dg pa jo wa sr pu mv le ((w : Nat) : Int) fi pc ((t : Nat) : Int)) 360 : Int) else ft_is (fun t => fl_P ld dg pa jo wa sr pu mv le ((w : Nat) : Int) fi pc ((t : Nat) : Int)) 360 r0)) ∧ h' = h)) 49 [some (xa_r k), some (xa_i ((w : Nat) : Int)), some (xa_i q), some (xa_i ((ct_n (fun t => fl_P ld dg pa jo wa sr pu mv le ((w : Nat) : Int) fi pc ((t : Nat) : Int)) e : Nat) : Int)), some (xa_i ((e : Nat) : Int))] [] h 0 0 := by
  intro d
  induction d with
  | zero => intros; exfalso; omega
  | succ d ih =>
    intro e hd he hno
    have hlw := hle w
    have hm60 := hfw.1
    have hce := ct_le (fun t => fl_P ld dg pa jo wa sr pu mv le ((w : Nat) : Int) fi pc ((t : Nat) : Int)) e
    refine xa_iload (pc := 49) dX9_looked_49 rfl ?_
    refine xa_sipush (pc := 51) dX9_looked_51 rfl ?_
    refine xa_icmp_ge (pc := 54) (tgt := 90) dX9_looked_54 (by decide) ⟨by omega, by omega⟩ (by decide) (fun c_54 => ?_) (fun c_54 => ?_)
    · skip
      refine xa_iload_n (pc := 90) dX9_looked_90 rfl ?_
      refine xa_iconst (pc := 91) dX9_looked_91 ?_
      refine xa_icmp_ne (pc := 92) (tgt := 100) dX9_looked_92 (by decide) ⟨by omega, by omega⟩ (by decide) (fun c_92 => ?_) (fun c_92 => ?_)
      · skip
        refine xa_iload_n (pc := 100) dX9_looked_100 rfl ?_
        refine xa_ireturn (pc := 101) dX9_looked_101 rfl trivial ?_
        have he9 : e = 360 := by omega
        subst he9
        exact ⟨⟨_, rfl, by rw [if_pos (by omega)]⟩, rfl⟩
      · skip
        refine xa_bipush (pc := 95) dX9_looked_95 rfl ?_
        refine xa_goto (pc := 97) (tgt := 101) dX9_looked_97 (by decide) ?_
        refine xa_ireturn (pc := 101) dX9_looked_101 rfl trivial ?_
        have he9 : e = 360 := by omega
        subst he9
        exact ⟨⟨_, rfl, by rw [if_neg (by omega)]; exact Or.inr ⟨hno (by omega), rfl⟩⟩, rfl⟩
    · skip
      refine xa_aload_n (pc := 57) dX9_looked_57 rfl ?_
      refine xa_getfield (pc := 58) dX9_looked_58 flRX9_51 (by omega) (by omega) hX0 rfl ?_
      refine xa_aload_n (pc := 61) dX9_looked_61 rfl ?_
      refine xa_getfield (pc := 62) dX9_looked_62 flRX9_38 (by omega) (by omega) hX0 rfl ?_
      refine xa_iload (pc := 65) dX9_looked_65 rfl ?_
      refine xa_callV (pc := 67) (as := [xa_r (k + 11), xa_i ((e : Nat) : Int)]) (rest := []) dX9_looked_67 ⟨qX8_isFilmed.1, qX8_isFilmed.2.1, qX8_isFilmed.2.2, by decide, by decide⟩ lkRX9_227 imX8_isFilmed seX8_isFilmed rfl rfl (by omega) (by omega) hT0 rfl (Nat.le_of_ble_eq_true rfl) (Nat.zero_le _) (Nat.zero_le _) (c_isFilmed2 _ _ _ pa tu1 lo1 (sp_drf dr pu lo1 m) mv le fi m pc _ ((e : Nat) : Int) (by omega) (by omega) (fun i p hi hp => fw_b hB9 hfw hdr0 hpu (by omega) hi hp) hfi (by omega) ⟨hT0, hT1, hT2, hT3, by omega, by omega⟩ ⟨hH0, hH1, hH2, hH3, by omega, by omega⟩) (fun r h' hq => ?_)
      obtain ⟨hq1, hq⟩ := hq
      have hq := hq.symm
      subst hq
      rw [fw_film hfw hdr0 pu hfi ((e : Nat) : Int) pc (Nat.le_refl _)] at hq1
      have hq1 : r = some (xa_i (xa_b (fl_P ld dg pa jo wa sr pu mv le ((w : Nat) : Int) fi pc ((e : Nat) : Int) = true))) := hq1
      subst hq1
      refine xa_if_eq (pc := 70) (tgt := 84) dX9_looked_70 (by decide) xa_okb (fun c_70 => ?_) (fun c_70 => ?_)
      · have c_70 := xa_b0.mp c_70
        refine xa_iincw (pc := 84) (y := ((e + 1 : Nat) : Int)) [some (xa_r k), some (xa_i ((w : Nat) : Int)), some (xa_i q), some (xa_i ((ct_n (fun t => fl_P ld dg pa jo wa sr pu mv le ((w : Nat) : Int) fi pc ((t : Nat) : Int)) e : Nat) : Int)), some (xa_i ((e + 1 : Nat) : Int))] dX9_looked_84 (by decide) rfl rfl (by omega) rfl ?_
        refine xa_goto (pc := 87) (tgt := 49) dX9_looked_87 (by decide) ?_
        have hno2 : (fun t => fl_P ld dg pa jo wa sr pu mv le ((w : Nat) : Int) fi pc ((t : Nat) : Int)) e = false := by
          cases z : (fun t => fl_P ld dg pa jo wa sr pu mv le ((w : Nat) : Int) fi pc ((t : Nat) : Int)) e with
          | false => rfl
          | true => exact absurd z c_70
        have ec : ct_n (fun t => fl_P ld dg pa jo wa sr pu mv le ((w : Nat) : Int) fi pc ((t : Nat) : Int)) e = ct_n (fun t => fl_P ld dg pa jo wa sr pu mv le ((w : Nat) : Int) fi pc ((t : Nat) : Int)) (e + 1) := by
          show _ = ct_n (fun t => fl_P ld dg pa jo wa sr pu mv le ((w : Nat) : Int) fi pc ((t : Nat) : Int)) e + (if (fun t => fl_P ld dg pa jo wa sr pu mv le ((w : Nat) : Int) fi pc ((t : Nat) : Int)) e = true then 1 else 0)
          rw [if_neg c_70, Nat.add_zero]
        rw [ec]
        exact ih (e + 1) (by omega) (by omega) (fun z t ht => by
          by_cases q9 : t = e
          · rw [q9]; exact hno2
          · exact hno z t (by omega))
      · have c_70 := xa_b1.mp c_70
        refine xa_iload_n (pc := 73) dX9_looked_73 rfl ?_
        refine xa_iconst (pc := 74) dX9_looked_74 ?_
        refine xa_icmp_ne (pc := 75) (tgt := 81) dX9_looked_75 (by decide) ⟨by omega, by omega⟩ (by decide) (fun c_75 => ?_) (fun c_75 => ?_)
        · skip
          refine xa_iincw (pc := 81) (y := ((ct_n (fun t => fl_P ld dg pa jo wa sr pu mv le ((w : Nat) : Int) fi pc ((t : Nat) : Int)) e + 1 : Nat) : Int)) [some (xa_r k), some (xa_i ((w : Nat) : Int)), some (xa_i q), some (xa_i ((ct_n (fun t => fl_P ld dg pa jo wa sr pu mv le ((w : Nat) : Int) fi pc ((t : Nat) : Int)) e + 1 : Nat) : Int)), some (xa_i ((e : Nat) : Int))] dX9_looked_81 (by decide) rfl rfl (by omega) rfl ?_
          refine xa_iincw (pc := 84) (y := ((e + 1 : Nat) : Int)) [some (xa_r k), some (xa_i ((w : Nat) : Int)), some (xa_i q), some (xa_i ((ct_n (fun t => fl_P ld dg pa jo wa sr pu mv le ((w : Nat) : Int) fi pc ((t : Nat) : Int)) e + 1 : Nat) : Int)), some (xa_i ((e + 1 : Nat) : Int))] dX9_looked_84 (by decide) rfl rfl (by omega) rfl ?_
          refine xa_goto (pc := 87) (tgt := 49) dX9_looked_87 (by decide) ?_
          have ec : ct_n (fun t => fl_P ld dg pa jo wa sr pu mv le ((w : Nat) : Int) fi pc ((t : Nat) : Int)) e + 1 = ct_n (fun t => fl_P ld dg pa jo wa sr pu mv le ((w : Nat) : Int) fi pc ((t : Nat) : Int)) (e + 1) := by
            show _ = ct_n (fun t => fl_P ld dg pa jo wa sr pu mv le ((w : Nat) : Int) fi pc ((t : Nat) : Int)) e + (if (fun t => fl_P ld dg pa jo wa sr pu mv le ((w : Nat) : Int) fi pc ((t : Nat) : Int)) e = true then 1 else 0)
            rw [if_pos c_70]
          rw [ec]
          exact ih (e + 1) (by omega) (by omega) (fun z => by omega)
        · skip
          refine xa_iload (pc := 78) dX9_looked_78 rfl ?_
          refine xa_ireturn (pc := 80) dX9_looked_80 rfl trivial ?_
          exact ⟨⟨_, rfl, by rw [if_neg (by omega)]; exact Or.inl ⟨e, by omega, c_70, hno (by omega), rfl⟩⟩, rfl⟩
theorem c_xLooked {G : xa_G} {h : xa_H} (k : Nat) (kp : Int) (ld dg : Nat → Int) (pa jo : Nat) (wa sr pu ri : Int) (mv le fi : Nat → Int) (pc : Nat) (w q : Int) (h1 : xa_ok w) (h2 : xa_ok q) (hB9 : vB ld dg pa jo wa sr pu ri) (hmvb : ∀ i, 0 ≤ mv i ∧ mv i ≤ 18) (hle : ∀ i, 0 ≤ le i ∧ le i ≤ 60) (hfi : fiOk pa fi pc) (hX : xX0 h k kp) (hB : xB h (k + 3) ld dg pa jo wa sr pu ri) (hH : xH h (k + 11) mv le fi pc) (hTS : xTS h k)  : xa_M G mX9_looked [xa_r k, xa_i w, xa_i q] h 0 0 (fun r h' => (∃ r0, r = some (xa_i r0) ∧ sq_looked ld dg pa jo wa sr pu mv le fi pc w q r0) ∧ xTS h' k ∧ h'.2 = h.2 ∧ ∀ i, (i < k + 24 ∨ k + 31 ≤ i) → h'.1 i = h.1 i) := by
  refine xa_enter (by decide +kernel) (Nat.le_of_ble_eq_true rfl) ?_
  refine xa_locals (ls' := [some (xa_r k), some (xa_i w), some (xa_i q), none, none]) rfl ?_
  have hn : h.2 = h.2 := rfl
  have fr : ∀ i, (i < k + 24 ∨ k + 31 ≤ i) → h.1 i = h.1 i := fun _ _ => rfl
  have hTS0 := hTS
  have hX' := hX
  obtain ⟨hX0, hk, hkn⟩ := hX
  obtain ⟨hB0, hB1, hB2, hBk, hBn⟩ := hB
  obtain ⟨hH0, hH1, hH2, hH3, hHk, hHn⟩ := hH
  obtain ⟨tu, lo, dr, dn, al, po, sp, tj, tb, ⟨hT0, hT1, hT2, hT3, -, -⟩, ⟨hS0, hS1, hS2, -, -⟩, hpo, hsp, htj, hdr0⟩ := hTS
  have h0' := hB9.1
  have hw9 := hB9.wag
  have hwa : xa_ok wa := by omega
  have hsr : 0 ≤ sr ∧ sr ≤ 12 := by omega
  have hpu := hB9.2.2.2.2.2.2.1
  have hri := hB9.2.2.2.2.2.2.2
  clear hw9
  refine xa_iload_n (pc := 0) dX9_looked_0 rfl ?_
  refine xa_callS (pc := 1) (as := [xa_i w]) (rest := []) dX9_looked_1 ⟨qX9_isWay.1, qX9_isWay.2.1, qX9_isWay.2.2, by decide, by decide⟩ lkRX9_150 smX9_isWay rfl rfl (Nat.le_of_ble_eq_true rfl) (Nat.zero_le _) (Nat.zero_le _) (c_isWay _ ⟨by omega, by omega⟩) (fun r h' hq => ?_)
  obtain ⟨rfl, hq⟩ := hq
  have hq := hq.symm
  subst hq
  refine xa_if_eq (pc := 4) (tgt := 16) dX9_looked_4 (by decide) xa_okb (fun c_4 => ?_) (fun c_4 => ?_)
  · have c_4 := xa_b0.mp c_4
    refine xa_iconst (pc := 16) dX9_looked_16 ?_
    refine xa_ireturn (pc := 17) dX9_looked_17 rfl trivial ?_
    exact ⟨⟨_, rfl, Or.inl ⟨by omega, rfl⟩⟩, hTS0, hn, fr⟩
  · have c_4 := xa_b1.mp c_4
    refine xa_iload_n (pc := 7) dX9_looked_7 rfl ?_
    refine xa_iconst (pc := 8) dX9_looked_8 ?_
    refine xa_iconst (pc := 9) dX9_looked_9 ?_
    refine xa_callS (pc := 10) (as := [xa_i q, xa_i 0, xa_i 1]) (rest := []) dX9_looked_10 ⟨qX9_isWithin.1, qX9_isWithin.2.1, qX9_isWithin.2.2, by decide, by decide⟩ lkRX9_89 smX9_isWithin rfl rfl (Nat.le_of_ble_eq_true rfl) (Nat.zero_le _) (Nat.zero_le _) (c_isWithin _ _ _ ⟨by omega, by omega⟩ (by decide) (by decide)) (fun r h' hq => ?_)
    obtain ⟨rfl, hq⟩ := hq
    have hq := hq.symm
    subst hq
    refine xa_if_ne (pc := 13) (tgt := 18) dX9_looked_13 (by decide) xa_okb (fun c_13 => ?_) (fun c_13 => ?_)
    · have c_13 := xa_b1.mp c_13
      obtain ⟨wn, rfl⟩ : ∃ z : Nat, w = (z : Int) := ⟨w.toNat, by omega⟩
      refine xa_aload_n (pc := 18) dX9_looked_18 rfl ?_
      refine xa_getfield (pc := 19) dX9_looked_19 flRX9_51 (by omega) (by omega) hX0 rfl ?_
      refine xa_aload_n (pc := 22) dX9_looked_22 rfl ?_
      refine xa_getfield (pc := 23) dX9_looked_23 flRX9_38 (by omega) (by omega) hX0 rfl ?_
      refine xa_iload_n (pc := 26) dX9_looked_26 rfl ?_
      refine xa_callV (pc := 27) (as := [xa_r (k + 11), xa_i ((wn : Nat) : Int)]) (rest := []) dX9_looked_27 ⟨qX8_follow.1, qX8_follow.2.1, qX8_follow.2.2, by decide, by decide⟩ lkRX9_166 imX8_follow seX8_follow rfl rfl (by omega) (by omega) hT0 rfl (Nat.le_of_ble_eq_true rfl) (Nat.zero_le _) (Nat.zero_le _) (c_follow (k + 24) (k + 3) (k + 11) wn tu lo dr ld dg mv le fi po sp dn pa jo pc al wa sr pu ri tj tb (by omega) (by omega) (by omega) (by omega) (by omega) hwa hsr hB9.2.1 hB9.2.2.2.1 hmvb hle hpo hsp htj ⟨hT0, hT1, hT2, hT3, by omega, by omega⟩ ⟨hS0, hS1, hS2, by omega, by omega⟩ ⟨hB0, hB1, hB2, by omega, by omega⟩ ⟨hH0, hH1, hH2, hH3, by omega, by omega⟩) (fun r h' hq => ?_)
      obtain ⟨rfl, m, t1, u1, tu1, lo1, hm, htr, hno, harr, hok1, ⟨hT0, hT1, hT2, hT3, -, -⟩, ⟨hS0, hS1, hS2, -, -⟩, hqn, hqf⟩ := hq
      have hT0 : h'.1 (k + 24) = xa_o 8 [xa_r (k + 24 + 4), xa_r (k + 3), xa_r (k + 24 + 1), xa_r (k + 24 + 2), xa_r (k + 24 + 3), xa_i ((m : Nat) : Int), xa_i (xa_b (m = (le wn).toNat))] := hT0
      have hT1 : h'.1 (k + 24 + 1) = xa_a 183 tu1 := hT1
      have hT2 : h'.1 (k + 24 + 2) = xa_a 61 lo1 := hT2
      have hT3 : h'.1 (k + 24 + 3) = xa_a 61 dr := hT3
      have hS0 : h'.1 (k + 24 + 4) = xa_o 4 [xa_r (k + 3), xa_r (k + 24 + 4 + 1), xa_r (k + 24 + 4 + 2), xa_i t1.2.2.1, xa_i t1.2.2.2] := hS0
      have hS1 : h'.1 (k + 24 + 4 + 1) = xa_a 3 t1.1 := hS1
      have hS2 : h'.1 (k + 24 + 4 + 2) = xa_a 2 t1.2.1 := hS2
      have hX0 : h'.1 k = xa_o 9 [xa_r (k + 1), xa_r (k + 3), xa_r (k + 6), xa_r (k + 9), xa_r (k + 11), xa_r (k + 15), xa_i kp, xa_r (k + 24), xa_r (k + 31), xa_r (k + 32), xa_r (k + 36), xa_r (k + 48), xa_r (k + 60)] := (hqf _ (by omega)).trans hX0
      have hB0 : h'.1 (k + 3) = xa_o 0 [xa_r (k + 3 + 1), xa_r (k + 3 + 2), xa_i ((pa : Nat) : Int), xa_i ((jo : Nat) : Int), xa_i wa, xa_i sr, xa_i pu, xa_i ri] := (hqf _ (by omega)).trans hB0
      have hB1 : h'.1 (k + 3 + 1) = xa_a 9 ld := (hqf _ (by omega)).trans hB1
      have hB2 : h'.1 (k + 3 + 2) = xa_a 2 dg := (hqf _ (by omega)).trans hB2
      have hH0 : h'.1 (k + 11) = xa_o 5 [xa_r (k + 11 + 1), xa_r (k + 11 + 2), xa_r (k + 11 + 3), xa_i ((pc : Nat) : Int)] := (hqf _ (by omega)).trans hH0
      have hH1 : h'.1 (k + 11 + 1) = xa_a 240 mv := (hqf _ (by omega)).trans hH1
      have hH2 : h'.1 (k + 11 + 2) = xa_a 4 le := (hqf _ (by omega)).trans hH2
      have hH3 : h'.1 (k + 11 + 3) = xa_a 120 fi := (hqf _ (by omega)).trans hH3
      have hn : h'.2 = h.2 := hqn.trans hn
      have fr : ∀ i, (i < k + 24 ∨ k + 31 ≤ i) → h'.1 i = h.1 i := fun i hi => (hqf i (by omega)).trans (fr i hi)
      have hlw := hle wn
      obtain ⟨c1, has1, hfw0⟩ := fw_all (ms := fun n => sp_mvat mv ((wn : Nat) : Int) ((n : Nat) : Int)) hB9 (fun i => sp_mvat_b hmvb _ _) hm htr hno harr
      have hfw : fwR ld dg pa jo wa sr (wy mv ((wn : Nat) : Int)) (le wn).toNat m c1 u1 tu1 lo1 := hfw0.ext (fun i hi => mvat_wy mv (by omega) (by omega))
      clear htr hno harr hfw0
      refine xa_aload_n (pc := 30) dX9_looked_30 rfl ?_
      refine xa_getfield (pc := 31) dX9_looked_31 flRX9_51 (by omega) (by omega) hX0 rfl ?_
      refine xa_aload_n (pc := 34) dX9_looked_34 rfl ?_
      refine xa_getfield (pc := 35) dX9_looked_35 flRX9_19 (by omega) (by omega) hX0 rfl ?_
      refine xa_getfield (pc := 38) dX9_looked_38 flRX9_144 (by omega) (by omega) hB0 rfl ?_
      refine xa_callV (pc := 41) (as := [xa_i pu]) (rest := []) dX9_looked_41 ⟨qX8_drift.1, qX8_drift.2.1, qX8_drift.2.2, by decide, by decide⟩ lkRX9_173 imX8_drift seX8_drift rfl rfl (by omega) (by omega) hT0 rfl (Nat.le_of_ble_eq_true rfl) (Nat.zero_le _) (Nat.zero_le _) (c_drift2 _ _ _ _ _ _ _ _ (by omega) (fun i hi => hfw.lo_b hB9 hi) hpu ⟨hT0, hT1, hT2, hT3, by omega, by omega⟩) (fun r h' hq => ?_)
      obtain ⟨rfl, ⟨hT0, hT1, hT2, hT3, -, -⟩, hqn, hqf⟩ := hq
      have hT0 : h'.1 (k + 24) = xa_o 8 [xa_r (k + 24 + 4), xa_r (k + 3), xa_r (k + 24 + 1), xa_r (k + 24 + 2), xa_r (k + 24 + 3), xa_i ((m : Nat) : Int), xa_i (xa_b (m = (le wn).toNat))] := hT0
      have hT1 : h'.1 (k + 24 + 1) = xa_a 183 tu1 := hT1
      have hT2 : h'.1 (k + 24 + 2) = xa_a 61 lo1 := hT2
      have hT3 : h'.1 (k + 24 + 3) = xa_a 61 (sp_drf dr pu lo1 m) := hT3
      have hX0 : h'.1 k = xa_o 9 [xa_r (k + 1), xa_r (k + 3), xa_r (k + 6), xa_r (k + 9), xa_r (k + 11), xa_r (k + 15), xa_i kp, xa_r (k + 24), xa_r (k + 31), xa_r (k + 32), xa_r (k + 36), xa_r (k + 48), xa_r (k + 60)] := (hqf _ (by omega)).trans hX0
      have hB0 : h'.1 (k + 3) = xa_o 0 [xa_r (k + 3 + 1), xa_r (k + 3 + 2), xa_i ((pa : Nat) : Int), xa_i ((jo : Nat) : Int), xa_i wa, xa_i sr, xa_i pu, xa_i ri] := (hqf _ (by omega)).trans hB0
      have hB1 : h'.1 (k + 3 + 1) = xa_a 9 ld := (hqf _ (by omega)).trans hB1
      have hB2 : h'.1 (k + 3 + 2) = xa_a 2 dg := (hqf _ (by omega)).trans hB2
      have hH0 : h'.1 (k + 11) = xa_o 5 [xa_r (k + 11 + 1), xa_r (k + 11 + 2), xa_r (k + 11 + 3), xa_i ((pc : Nat) : Int)] := (hqf _ (by omega)).trans hH0
      have hH1 : h'.1 (k + 11 + 1) = xa_a 240 mv := (hqf _ (by omega)).trans hH1
      have hH2 : h'.1 (k + 11 + 2) = xa_a 4 le := (hqf _ (by omega)).trans hH2
      have hH3 : h'.1 (k + 11 + 3) = xa_a 120 fi := (hqf _ (by omega)).trans hH3
      have hS0 : h'.1 (k + 24 + 4) = xa_o 4 [xa_r (k + 3), xa_r (k + 24 + 4 + 1), xa_r (k + 24 + 4 + 2), xa_i t1.2.2.1, xa_i t1.2.2.2] := (hqf _ (by omega)).trans hS0
      have hS1 : h'.1 (k + 24 + 4 + 1) = xa_a 3 t1.1 := (hqf _ (by omega)).trans hS1
      have hS2 : h'.1 (k + 24 + 4 + 2) = xa_a 2 t1.2.1 := (hqf _ (by omega)).trans hS2
      have hn : h'.2 = h.2 := hqn.trans hn
      have fr : ∀ i, (i < k + 24 ∨ k + 31 ≤ i) → h'.1 i = h.1 i := fun i hi => (hqf i (by omega)).trans (fr i hi)
      refine xa_iconst (pc := 44) dX9_looked_44 ?_
      refine xa_istoren (pc := 45) [some (xa_r k), some (xa_i ((wn : Nat) : Int)), some (xa_i q), some (xa_i 0), none] dX9_looked_45 (by decide) (Nat.le_of_ble_eq_true rfl) rfl rfl ?_
      refine xa_iconst (pc := 46) dX9_looked_46 ?_
      refine xa_istorew (pc := 47) [some (xa_r k), some (xa_i ((wn : Nat) : Int)), some (xa_i q), some (xa_i 0), some (xa_i 0)] dX9_looked_47 (by decide) (Nat.le_of_ble_eq_true rfl) rfl rfl ?_
      refine xa_wmono ?_ (c_look_loop (w := wn) (q := q) (by omega) hB9 hmvb hle hfi hk (by omega) hok1 hfw hpu (by omega) hdr0 (by omega) hX0 hB0 hB1 hB2 hH0 hH1 hH2 hH3 hT0 hT1 hT2 hT3 hS0 hS1 hS2 361 0 (by omega) (by omega) (fun _ t ht => absurd ht (Nat.not_lt_zero _)))
      rintro r h2 ⟨⟨r0, e1, e2⟩, hq⟩
      have hq := hq.symm
      subst hq
      exact ⟨⟨r0, e1, Or.inr ⟨by omega, e2⟩⟩, ⟨tu1, lo1, _, m, _, t1.1, t1.2.1, t1.2.2.1, t1.2.2.2, ⟨hT0, hT1, hT2, hT3, by omega, by omega⟩, ⟨hS0, hS1, hS2, by omega, by omega⟩, hok1.1, hok1.2.1, hok1.2.2.1, drf_z hdr0⟩, hn, fr⟩
    · have c_13 := xa_b0.mp c_13
      refine xa_iconst (pc := 16) dX9_looked_16 ?_
      refine xa_ireturn (pc := 17) dX9_looked_17 rfl trivial ?_
      exact ⟨⟨_, rfl, Or.inl ⟨by omega, rfl⟩⟩, hTS0, hn, fr⟩
set_option maxHeartbeats 4000000 in
theorem c_push_loop {G : xa_G} {h0 : xa_H} {k : Nat} {kp : Int} {ld dg : Nat → Int} {pa jo : Nat} {wa sr pu ri : Int} {mv le fi : Nat → Int} {pc : Nat} {w m : Nat} {t1 : xSt} {u1 : Int} {tu1 lo1 : Nat → Int} {c1 : xCf} {mm : Nat} {q turn : Int} (hq : 0 ≤ q ∧ q ≤ 1) (hmm : mm ≤ 200) (htn : 0 ≤ turn ∧ turn ≤ 359) (hB9 : vB ld dg pa jo wa sr pu ri) (hmvb : ∀ i, 0 ≤ mv i ∧ mv i ≤ 18) (hle : ∀ i, 0 ≤ le i ∧ le i ≤ 60) (hfi : fiOk pa fi pc) (hk : 2 ≤ k) (hw3 : w ≤ 3) (hok1 : sp_ok t1) (hfw : fwR ld dg pa jo wa sr (wy mv ((w : Nat) : Int)) (le w).toNat m c1 u1 tu1 lo1) (hpu : -9999 ≤ pu ∧ pu ≤ 9999) (hpa3 : pa ≤ 3 ∧ pa = jo + 1 ∧ 2 ≤ pa) : ∀ (d : Nat) (i : Nat) (dr : Nat → Int) (g7 : Option xa_V) (h : xa_H), 2 * mm + 1 - i < d → (i ≤ 2 * mm + 1) → (q = 1 → ∀ i1, i1 < i → (fun i => (fun l => fl_P ld dg pa jo wa sr l mv le ((w : Nat) : Int) fi pc turn) (pe i)) i1 = false) → (dr 0 = 0) → (h.2 = h0.2) → (k + 71 < h.2) → (h.1 k = xa_o 9 [xa_r (k + 1), xa_r (k + 3), xa_r (k + 6), xa_r (k + 9), xa_r (k + 11), xa_r (k + 15), xa_i kp, xa_r (k + 24), xa_r (k + 31), xa_r (k + 32), xa_r (k + 36), xa_r (k + 48), xa_r (k + 60)]) → (h.1 (k + 3) = xa_o 0 [xa_r (k + 3 + 1), xa_r (k + 3 + 2), xa_i ((pa : Nat) : Int), xa_i ((jo : Nat) : Int), xa_i wa, xa_i sr, xa_i pu, xa_i ri]) → (h.1 (k + 3 + 1) = xa_a 9 ld) → (h.1 (k + 3 + 2) = xa_a 2 dg) → (h.1 (k + 11) = xa_o 5 [xa_r (k + 11 + 1), xa_r (k + 11 + 2), xa_r (k + 11 + 3), xa_i ((pc : Nat) : Int)]) → (h.1 (k + 11 + 1) = xa_a 240 mv) → (h.1 (k + 11 + 2) = xa_a 4 le) → (h.1 (k + 11 + 3) = xa_a 120 fi) → (h.1 (k + 24) = xa_o 8 [xa_r (k + 24 + 4), xa_r (k + 3), xa_r (k + 24 + 1), xa_r (k + 24 + 2), xa_r (k + 24 + 3), xa_i ((m : Nat) : Int), xa_i (xa_b (m = (le w).toNat))]) → (h.1 (k + 24 + 1) = xa_a 183 tu1) → (h.1 (k + 24 + 2) = xa_a 61 lo1) → (h.1 (k + 24 + 3) = xa_a 61 dr) → (h.1 (k + 24 + 4) = xa_o 4 [xa_r (k + 3), xa_r (k + 24 + 4 + 1), xa_r (k + 24 + 4 + 2), xa_i t1.2.2.1, xa_i t1.2.2.2]) → (h.1 (k + 24 + 4 + 1) = xa_a 3 t1.1) → (h.1 (k + 24 + 4 + 2) = xa_a 2 t1.2.1) → (∀ i, (i < k + 24 ∨ k + 31 ≤ i) → h.1 i = h0.1 i) → xa_W G mX9_pushed (xa_Z G (fun r h' => (∃ r0, r = some (xa_i r0) ∧ (if q = 0 then r0 = (ct_n (fun i => (fun l => fl_P ld dg pa jo wa sr l mv le ((w : Nat) : Int) fi pc turn) (((i : Nat) : Int) - ((mm : Nat) : Int))) (2 * ((mm : Nat) : Int) + 1).toNat : Int) else nr_is (fun l => fl_P ld dg pa jo wa sr l mv le ((w : Nat) : Int) fi pc turn) ((mm : Nat) : Int) r0)) ∧ xTS h' k ∧ h'.2 = h0.2 ∧ ∀ i, (i < k + 24 ∨ k + 31 ≤ i) → h'.1 i = h0.1 i)) 57 [some (xa_r k), some (xa_i ((w : Nat) : Int)), some (xa_i turn), some (xa_i ((mm : Nat) : Int)), some (xa_i q), some (xa_i ((ct_n (fun i => (fun l => fl_P ld dg pa jo wa sr l mv le ((w : Nat) : Int) fi pc turn) (pe i)) i : Nat) : Int)), some (xa_i ((i : Nat) : Int)), g7] [] h 0 0 := by
  intro d
  induction d with
  | zero => intros; exfalso; omega
  | succ d ih =>
    intro i dr g7 h hd hi hno hdr0 hn0 hkn hX0 hB0 hB1 hB2 hH0 hH1 hH2 hH3 hT0 hT1 hT2 hT3 hS0 hS1 hS2 fr0
    have hn : h.2 = h.2 := rfl
    have fr : ∀ i, (i < k + 24 ∨ k + 31 ≤ i) → h.1 i = h.1 i := fun _ _ => rfl
    have hlw := hle w
    have hm60 := hfw.1
    have hce := ct_le (fun i => (fun l => fl_P ld dg pa jo wa sr l mv le ((w : Nat) : Int) fi pc turn) (pe i)) i
    have hpb : -201 ≤ pe i ∧ pe i ≤ 201 := by unfold pe; split <;> omega
    refine xa_iload (pc := 57) dX9_pushed_57 rfl ?_
    refine xa_iconst (pc := 59) dX9_pushed_59 ?_
    refine xa_iload_n (pc := 60) dX9_pushed_60 rfl ?_
    refine xa_imul (pc := 61) dX9_pushed_61 ?_
    refine xa_icmp_gt (pc := 62) (tgt := 131) dX9_pushed_62 (by decide) ⟨by omega, by omega⟩ ⟨by omega, by omega⟩ (fun c_62 => ?_) (fun c_62 => ?_)
    · skip
      refine xa_iload (pc := 131) dX9_pushed_131 rfl ?_
      refine xa_iconst (pc := 133) dX9_pushed_133 ?_
      refine xa_icmp_ne (pc := 134) (tgt := 143) dX9_pushed_134 (by decide) ⟨by omega, by omega⟩ (by decide) (fun c_134 => ?_) (fun c_134 => ?_)
      · skip
        refine xa_iload (pc := 143) dX9_pushed_143 rfl ?_
        refine xa_ireturn (pc := 145) dX9_pushed_145 rfl trivial ?_
        have he9 : i = 2 * mm + 1 := by omega
        subst he9
        exact ⟨⟨_, rfl, by rw [if_pos (by omega), ct_pe (fun l => fl_P ld dg pa jo wa sr l mv le ((w : Nat) : Int) fi pc turn) mm, show (2 * ((mm : Nat) : Int) + 1).toNat = 2 * mm + 1 by omega]⟩, ⟨tu1, lo1, _, m, _, t1.1, t1.2.1, t1.2.2.1, t1.2.2.2, ⟨hT0, hT1, hT2, hT3, by omega, by omega⟩, ⟨hS0, hS1, hS2, by omega, by omega⟩, hok1.1, hok1.2.1, hok1.2.2.1, hdr0⟩, by omega, fun i hi => (fr i hi).trans (fr0 i hi)⟩
      · skip
        refine xa_sipush (pc := 137) dX9_pushed_137 rfl ?_
        refine xa_goto (pc := 140) (tgt := 145) dX9_pushed_140 (by decide) ?_
        refine xa_ireturn (pc := 145) dX9_pushed_145 rfl trivial ?_
        have he9 : i = 2 * mm + 1 := by omega
        subst he9
        exact ⟨⟨_, rfl, by rw [if_neg (by omega)]; exact pe_no (hno (by omega))⟩, ⟨tu1, lo1, _, m, _, t1.1, t1.2.1, t1.2.2.1, t1.2.2.2, ⟨hT0, hT1, hT2, hT3, by omega, by omega⟩, ⟨hS0, hS1, hS2, by omega, by omega⟩, hok1.1, hok1.2.1, hok1.2.2.1, hdr0⟩, by omega, fun i hi => (fr i hi).trans (fr0 i hi)⟩
    · skip
      refine xa_iload (pc := 65) dX9_pushed_65 rfl ?_
      refine xa_iconst (pc := 67) dX9_pushed_67 ?_
      refine xa_iremn (pc := 68) dX9_pushed_68 ⟨by omega, by omega⟩ (by decide) (by omega) (by omega) ?_
      refine xa_iconst (pc := 69) dX9_pushed_69 ?_
      refine xa_icmp_ne (pc := 70) (tgt := 83) dX9_pushed_70 (by decide) ⟨by omega, by omega⟩ (by decide) (fun c_70 => ?_) (fun c_70 => ?_)
      · skip
        refine xa_iload (pc := 83) dX9_pushed_83 rfl ?_
        refine xa_iconst (pc := 85) dX9_pushed_85 ?_
        refine xa_idivn (pc := 86) dX9_pushed_86 ⟨by omega, by omega⟩ (by decide) (by omega) (by omega) ?_
        refine xa_top (y := pe i) (by unfold pe; first | (rw [if_pos (by omega), Int.neg_tdiv, Int.tdiv_eq_ediv_of_nonneg (by omega)]; omega) | (rw [if_neg (by omega)])) ?_
        refine xa_istorew (pc := 87) [some (xa_r k), some (xa_i ((w : Nat) : Int)), some (xa_i turn), some (xa_i ((mm : Nat) : Int)), some (xa_i q), some (xa_i ((ct_n (fun i => (fun l => fl_P ld dg pa jo wa sr l mv le ((w : Nat) : Int) fi pc turn) (pe i)) i : Nat) : Int)), some (xa_i ((i : Nat) : Int)), some (xa_i (pe i))] dX9_pushed_87 (by decide) (Nat.le_of_ble_eq_true rfl) rfl rfl ?_
        refine xa_aload_n (pc := 89) dX9_pushed_89 rfl ?_
        refine xa_getfield (pc := 90) dX9_pushed_90 flRX9_51 (by omega) (by omega) hX0 rfl ?_
        refine xa_iload (pc := 93) dX9_pushed_93 rfl ?_
        refine xa_callV (pc := 95) (as := [xa_i (pe i)]) (rest := []) dX9_pushed_95 ⟨qX8_drift.1, qX8_drift.2.1, qX8_drift.2.2, by decide, by decide⟩ lkRX9_173 imX8_drift seX8_drift rfl rfl (by omega) (by omega) hT0 rfl (Nat.le_of_ble_eq_true rfl) (Nat.zero_le _) (Nat.zero_le _) (c_drift2 _ _ _ _ _ _ _ _ (by omega) (fun i hi => hfw.lo_b hB9 hi) (by omega) ⟨hT0, hT1, hT2, hT3, by omega, by omega⟩) (fun r h' hq => ?_)
        obtain ⟨rfl, ⟨hT0, hT1, hT2, hT3, -, -⟩, hqn, hqf⟩ := hq
        have hT0 : h'.1 (k + 24) = xa_o 8 [xa_r (k + 24 + 4), xa_r (k + 3), xa_r (k + 24 + 1), xa_r (k + 24 + 2), xa_r (k + 24 + 3), xa_i ((m : Nat) : Int), xa_i (xa_b (m = (le w).toNat))] := hT0
        have hT1 : h'.1 (k + 24 + 1) = xa_a 183 tu1 := hT1
        have hT2 : h'.1 (k + 24 + 2) = xa_a 61 lo1 := hT2
        have hT3 : h'.1 (k + 24 + 3) = xa_a 61 (sp_drf dr (pe i) lo1 m) := hT3
        have hX0 : h'.1 k = xa_o 9 [xa_r (k + 1), xa_r (k + 3), xa_r (k + 6), xa_r (k + 9), xa_r (k + 11), xa_r (k + 15), xa_i kp, xa_r (k + 24), xa_r (k + 31), xa_r (k + 32), xa_r (k + 36), xa_r (k + 48), xa_r (k + 60)] := (hqf _ (by omega)).trans hX0
        have hB0 : h'.1 (k + 3) = xa_o 0 [xa_r (k + 3 + 1), xa_r (k + 3 + 2), xa_i ((pa : Nat) : Int), xa_i ((jo : Nat) : Int), xa_i wa, xa_i sr, xa_i pu, xa_i ri] := (hqf _ (by omega)).trans hB0
        have hB1 : h'.1 (k + 3 + 1) = xa_a 9 ld := (hqf _ (by omega)).trans hB1
        have hB2 : h'.1 (k + 3 + 2) = xa_a 2 dg := (hqf _ (by omega)).trans hB2
        have hH0 : h'.1 (k + 11) = xa_o 5 [xa_r (k + 11 + 1), xa_r (k + 11 + 2), xa_r (k + 11 + 3), xa_i ((pc : Nat) : Int)] := (hqf _ (by omega)).trans hH0
        have hH1 : h'.1 (k + 11 + 1) = xa_a 240 mv := (hqf _ (by omega)).trans hH1
        have hH2 : h'.1 (k + 11 + 2) = xa_a 4 le := (hqf _ (by omega)).trans hH2
        have hH3 : h'.1 (k + 11 + 3) = xa_a 120 fi := (hqf _ (by omega)).trans hH3
        have hS0 : h'.1 (k + 24 + 4) = xa_o 4 [xa_r (k + 3), xa_r (k + 24 + 4 + 1), xa_r (k + 24 + 4 + 2), xa_i t1.2.2.1, xa_i t1.2.2.2] := (hqf _ (by omega)).trans hS0
        have hS1 : h'.1 (k + 24 + 4 + 1) = xa_a 3 t1.1 := (hqf _ (by omega)).trans hS1
        have hS2 : h'.1 (k + 24 + 4 + 2) = xa_a 2 t1.2.1 := (hqf _ (by omega)).trans hS2
        have hn : h'.2 = h.2 := hqn.trans hn
        have fr : ∀ i, (i < k + 24 ∨ k + 31 ≤ i) → h'.1 i = h.1 i := fun i hi => (hqf i (by omega)).trans (fr i hi)
        refine xa_aload_n (pc := 98) dX9_pushed_98 rfl ?_
        refine xa_getfield (pc := 99) dX9_pushed_99 flRX9_51 (by omega) (by omega) hX0 rfl ?_
        refine xa_aload_n (pc := 102) dX9_pushed_102 rfl ?_
        refine xa_getfield (pc := 103) dX9_pushed_103 flRX9_38 (by omega) (by omega) hX0 rfl ?_
        refine xa_iload_n (pc := 106) dX9_pushed_106 rfl ?_
        refine xa_callV (pc := 107) (as := [xa_r (k + 11), xa_i turn]) (rest := []) dX9_pushed_107 ⟨qX8_isFilmed.1, qX8_isFilmed.2.1, qX8_isFilmed.2.2, by decide, by decide⟩ lkRX9_227 imX8_isFilmed seX8_isFilmed rfl rfl (by omega) (by omega) hT0 rfl (Nat.le_of_ble_eq_true rfl) (Nat.zero_le _) (Nat.zero_le _) (c_isFilmed2 _ _ _ pa tu1 lo1 (sp_drf dr (pe i) lo1 m) mv le fi m pc _ turn (by omega) (by omega) (fun i p hi hp => fw_b hB9 hfw hdr0 (by omega) (by omega) hi hp) hfi (by omega) ⟨hT0, hT1, hT2, hT3, by omega, by omega⟩ ⟨hH0, hH1, hH2, hH3, by omega, by omega⟩) (fun r h' hq => ?_)
        obtain ⟨hq1, hq⟩ := hq
        have hq := hq.symm
        subst hq
        rw [fw_film hfw hdr0 (pe i) hfi turn pc (Nat.le_refl _)] at hq1
        have hq1 : r = some (xa_i (xa_b (fl_P ld dg pa jo wa sr (pe i) mv le ((w : Nat) : Int) fi pc turn = true))) := hq1
        subst hq1
        refine xa_if_eq (pc := 110) (tgt := 125) dX9_pushed_110 (by decide) xa_okb (fun c_110 => ?_) (fun c_110 => ?_)
        · have c_110 := xa_b0.mp c_110
          refine xa_iincw (pc := 125) (y := ((i + 1 : Nat) : Int)) [some (xa_r k), some (xa_i ((w : Nat) : Int)), some (xa_i turn), some (xa_i ((mm : Nat) : Int)), some (xa_i q), some (xa_i ((ct_n (fun i => (fun l => fl_P ld dg pa jo wa sr l mv le ((w : Nat) : Int) fi pc turn) (pe i)) i : Nat) : Int)), some (xa_i ((i + 1 : Nat) : Int)), some (xa_i (pe i))] dX9_pushed_125 (by decide) rfl rfl (by omega) rfl ?_
          refine xa_goto (pc := 128) (tgt := 57) dX9_pushed_128 (by decide) ?_
          have hno2 : (fun i => (fun l => fl_P ld dg pa jo wa sr l mv le ((w : Nat) : Int) fi pc turn) (pe i)) i = false := by
            cases z : (fun i => (fun l => fl_P ld dg pa jo wa sr l mv le ((w : Nat) : Int) fi pc turn) (pe i)) i with
            | false => rfl
            | true => exact absurd z c_110
          have ec : ct_n (fun i => (fun l => fl_P ld dg pa jo wa sr l mv le ((w : Nat) : Int) fi pc turn) (pe i)) i = ct_n (fun i => (fun l => fl_P ld dg pa jo wa sr l mv le ((w : Nat) : Int) fi pc turn) (pe i)) (i + 1) := by
            show _ = ct_n (fun i => (fun l => fl_P ld dg pa jo wa sr l mv le ((w : Nat) : Int) fi pc turn) (pe i)) i + (if (fun i => (fun l => fl_P ld dg pa jo wa sr l mv le ((w : Nat) : Int) fi pc turn) (pe i)) i = true then 1 else 0)
            rw [if_neg c_110, Nat.add_zero]
          rw [ec]
          exact ih (i + 1) _ _ h' (by omega) (by omega) (fun z t ht => by
            by_cases q9 : t = i
            · rw [q9]; exact hno2
            · exact hno z t (by omega)) (drf_z hdr0) (by omega) (by omega) hX0 hB0 hB1 hB2 hH0 hH1 hH2 hH3 hT0 hT1 hT2 hT3 hS0 hS1 hS2 (fun i hi => (fr i hi).trans (fr0 i hi))
        · have c_110 := xa_b1.mp c_110
          refine xa_iload (pc := 113) dX9_pushed_113 rfl ?_
          refine xa_iconst (pc := 115) dX9_pushed_115 ?_
          refine xa_icmp_ne (pc := 116) (tgt := 122) dX9_pushed_116 (by decide) ⟨by omega, by omega⟩ (by decide) (fun c_116 => ?_) (fun c_116 => ?_)
          · skip
            refine xa_iincw (pc := 122) (y := ((ct_n (fun i => (fun l => fl_P ld dg pa jo wa sr l mv le ((w : Nat) : Int) fi pc turn) (pe i)) i + 1 : Nat) : Int)) [some (xa_r k), some (xa_i ((w : Nat) : Int)), some (xa_i turn), some (xa_i ((mm : Nat) : Int)), some (xa_i q), some (xa_i ((ct_n (fun i => (fun l => fl_P ld dg pa jo wa sr l mv le ((w : Nat) : Int) fi pc turn) (pe i)) i + 1 : Nat) : Int)), some (xa_i ((i : Nat) : Int)), some (xa_i (pe i))] dX9_pushed_122 (by decide) rfl rfl (by omega) rfl ?_
            refine xa_iincw (pc := 125) (y := ((i + 1 : Nat) : Int)) [some (xa_r k), some (xa_i ((w : Nat) : Int)), some (xa_i turn), some (xa_i ((mm : Nat) : Int)), some (xa_i q), some (xa_i ((ct_n (fun i => (fun l => fl_P ld dg pa jo wa sr l mv le ((w : Nat) : Int) fi pc turn) (pe i)) i + 1 : Nat) : Int)), some (xa_i ((i + 1 : Nat) : Int)), some (xa_i (pe i))] dX9_pushed_125 (by decide) rfl rfl (by omega) rfl ?_
            refine xa_goto (pc := 128) (tgt := 57) dX9_pushed_128 (by decide) ?_
            have ec : ct_n (fun i => (fun l => fl_P ld dg pa jo wa sr l mv le ((w : Nat) : Int) fi pc turn) (pe i)) i + 1 = ct_n (fun i => (fun l => fl_P ld dg pa jo wa sr l mv le ((w : Nat) : Int) fi pc turn) (pe i)) (i + 1) := by
              show _ = ct_n (fun i => (fun l => fl_P ld dg pa jo wa sr l mv le ((w : Nat) : Int) fi pc turn) (pe i)) i + (if (fun i => (fun l => fl_P ld dg pa jo wa sr l mv le ((w : Nat) : Int) fi pc turn) (pe i)) i = true then 1 else 0)
              rw [if_pos c_110]
            rw [ec]
            exact ih (i + 1) _ _ h' (by omega) (by omega) (fun z => by omega) (drf_z hdr0) (by omega) (by omega) hX0 hB0 hB1 hB2 hH0 hH1 hH2 hH3 hT0 hT1 hT2 hT3 hS0 hS1 hS2 (fun i hi => (fr i hi).trans (fr0 i hi))
          · skip
            refine xa_iload (pc := 119) dX9_pushed_119 rfl ?_
            refine xa_ireturn (pc := 121) dX9_pushed_121 rfl trivial ?_
            exact ⟨⟨_, rfl, by rw [if_neg (by omega)]; exact pe_nr (by omega) c_110 (hno (by omega))⟩, ⟨tu1, lo1, _, m, _, t1.1, t1.2.1, t1.2.2.1, t1.2.2.2, ⟨hT0, hT1, hT2, hT3, by omega, by omega⟩, ⟨hS0, hS1, hS2, by omega, by omega⟩, hok1.1, hok1.2.1, hok1.2.2.1, drf_z hdr0⟩, by omega, fun i hi => (fr i hi).trans (fr0 i hi)⟩
      · skip
        refine xa_iload (pc := 73) dX9_pushed_73 rfl ?_
        refine xa_iconst (pc := 75) dX9_pushed_75 ?_
        refine xa_iadd (pc := 76) dX9_pushed_76 ?_
        refine xa_ineg (pc := 77) dX9_pushed_77 ?_
        refine xa_iconst (pc := 78) dX9_pushed_78 ?_
        refine xa_idiv (pc := 79) dX9_pushed_79 ⟨by omega, by omega⟩ (by decide) (by omega) ?_
        refine xa_goto (pc := 80) (tgt := 87) dX9_pushed_80 (by decide) ?_
        refine xa_top (y := pe i) (by unfold pe; first | (rw [if_pos (by omega), Int.neg_tdiv, Int.tdiv_eq_ediv_of_nonneg (by omega)]; omega) | (rw [if_neg (by omega)])) ?_
        refine xa_istorew (pc := 87) [some (xa_r k), some (xa_i ((w : Nat) : Int)), some (xa_i turn), some (xa_i ((mm : Nat) : Int)), some (xa_i q), some (xa_i ((ct_n (fun i => (fun l => fl_P ld dg pa jo wa sr l mv le ((w : Nat) : Int) fi pc turn) (pe i)) i : Nat) : Int)), some (xa_i ((i : Nat) : Int)), some (xa_i (pe i))] dX9_pushed_87 (by decide) (Nat.le_of_ble_eq_true rfl) rfl rfl ?_
        refine xa_aload_n (pc := 89) dX9_pushed_89 rfl ?_
        refine xa_getfield (pc := 90) dX9_pushed_90 flRX9_51 (by omega) (by omega) hX0 rfl ?_
        refine xa_iload (pc := 93) dX9_pushed_93 rfl ?_
        refine xa_callV (pc := 95) (as := [xa_i (pe i)]) (rest := []) dX9_pushed_95 ⟨qX8_drift.1, qX8_drift.2.1, qX8_drift.2.2, by decide, by decide⟩ lkRX9_173 imX8_drift seX8_drift rfl rfl (by omega) (by omega) hT0 rfl (Nat.le_of_ble_eq_true rfl) (Nat.zero_le _) (Nat.zero_le _) (c_drift2 _ _ _ _ _ _ _ _ (by omega) (fun i hi => hfw.lo_b hB9 hi) (by omega) ⟨hT0, hT1, hT2, hT3, by omega, by omega⟩) (fun r h' hq => ?_)
        obtain ⟨rfl, ⟨hT0, hT1, hT2, hT3, -, -⟩, hqn, hqf⟩ := hq
        have hT0 : h'.1 (k + 24) = xa_o 8 [xa_r (k + 24 + 4), xa_r (k + 3), xa_r (k + 24 + 1), xa_r (k + 24 + 2), xa_r (k + 24 + 3), xa_i ((m : Nat) : Int), xa_i (xa_b (m = (le w).toNat))] := hT0
        have hT1 : h'.1 (k + 24 + 1) = xa_a 183 tu1 := hT1
        have hT2 : h'.1 (k + 24 + 2) = xa_a 61 lo1 := hT2
        have hT3 : h'.1 (k + 24 + 3) = xa_a 61 (sp_drf dr (pe i) lo1 m) := hT3
        have hX0 : h'.1 k = xa_o 9 [xa_r (k + 1), xa_r (k + 3), xa_r (k + 6), xa_r (k + 9), xa_r (k + 11), xa_r (k + 15), xa_i kp, xa_r (k + 24), xa_r (k + 31), xa_r (k + 32), xa_r (k + 36), xa_r (k + 48), xa_r (k + 60)] := (hqf _ (by omega)).trans hX0
        have hB0 : h'.1 (k + 3) = xa_o 0 [xa_r (k + 3 + 1), xa_r (k + 3 + 2), xa_i ((pa : Nat) : Int), xa_i ((jo : Nat) : Int), xa_i wa, xa_i sr, xa_i pu, xa_i ri] := (hqf _ (by omega)).trans hB0
        have hB1 : h'.1 (k + 3 + 1) = xa_a 9 ld := (hqf _ (by omega)).trans hB1
        have hB2 : h'.1 (k + 3 + 2) = xa_a 2 dg := (hqf _ (by omega)).trans hB2
        have hH0 : h'.1 (k + 11) = xa_o 5 [xa_r (k + 11 + 1), xa_r (k + 11 + 2), xa_r (k + 11 + 3), xa_i ((pc : Nat) : Int)] := (hqf _ (by omega)).trans hH0
        have hH1 : h'.1 (k + 11 + 1) = xa_a 240 mv := (hqf _ (by omega)).trans hH1
        have hH2 : h'.1 (k + 11 + 2) = xa_a 4 le := (hqf _ (by omega)).trans hH2
        have hH3 : h'.1 (k + 11 + 3) = xa_a 120 fi := (hqf _ (by omega)).trans hH3
        have hS0 : h'.1 (k + 24 + 4) = xa_o 4 [xa_r (k + 3), xa_r (k + 24 + 4 + 1), xa_r (k + 24 + 4 + 2), xa_i t1.2.2.1, xa_i t1.2.2.2] := (hqf _ (by omega)).trans hS0
        have hS1 : h'.1 (k + 24 + 4 + 1) = xa_a 3 t1.1 := (hqf _ (by omega)).trans hS1
        have hS2 : h'.1 (k + 24 + 4 + 2) = xa_a 2 t1.2.1 := (hqf _ (by omega)).trans hS2
        have hn : h'.2 = h.2 := hqn.trans hn
        have fr : ∀ i, (i < k + 24 ∨ k + 31 ≤ i) → h'.1 i = h.1 i := fun i hi => (hqf i (by omega)).trans (fr i hi)
        refine xa_aload_n (pc := 98) dX9_pushed_98 rfl ?_
        refine xa_getfield (pc := 99) dX9_pushed_99 flRX9_51 (by omega) (by omega) hX0 rfl ?_
        refine xa_aload_n (pc := 102) dX9_pushed_102 rfl ?_
        refine xa_getfield (pc := 103) dX9_pushed_103 flRX9_38 (by omega) (by omega) hX0 rfl ?_
        refine xa_iload_n (pc := 106) dX9_pushed_106 rfl ?_
        refine xa_callV (pc := 107) (as := [xa_r (k + 11), xa_i turn]) (rest := []) dX9_pushed_107 ⟨qX8_isFilmed.1, qX8_isFilmed.2.1, qX8_isFilmed.2.2, by decide, by decide⟩ lkRX9_227 imX8_isFilmed seX8_isFilmed rfl rfl (by omega) (by omega) hT0 rfl (Nat.le_of_ble_eq_true rfl) (Nat.zero_le _) (Nat.zero_le _) (c_isFilmed2 _ _ _ pa tu1 lo1 (sp_drf dr (pe i) lo1 m) mv le fi m pc _ turn (by omega) (by omega) (fun i p hi hp => fw_b hB9 hfw hdr0 (by omega) (by omega) hi hp) hfi (by omega) ⟨hT0, hT1, hT2, hT3, by omega, by omega⟩ ⟨hH0, hH1, hH2, hH3, by omega, by omega⟩) (fun r h' hq => ?_)
        obtain ⟨hq1, hq⟩ := hq
        have hq := hq.symm
        subst hq
        rw [fw_film hfw hdr0 (pe i) hfi turn pc (Nat.le_refl _)] at hq1
        have hq1 : r = some (xa_i (xa_b (fl_P ld dg pa jo wa sr (pe i) mv le ((w : Nat) : Int) fi pc turn = true))) := hq1
        subst hq1
        refine xa_if_eq (pc := 110) (tgt := 125) dX9_pushed_110 (by decide) xa_okb (fun c_110 => ?_) (fun c_110 => ?_)
        · have c_110 := xa_b0.mp c_110
          refine xa_iincw (pc := 125) (y := ((i + 1 : Nat) : Int)) [some (xa_r k), some (xa_i ((w : Nat) : Int)), some (xa_i turn), some (xa_i ((mm : Nat) : Int)), some (xa_i q), some (xa_i ((ct_n (fun i => (fun l => fl_P ld dg pa jo wa sr l mv le ((w : Nat) : Int) fi pc turn) (pe i)) i : Nat) : Int)), some (xa_i ((i + 1 : Nat) : Int)), some (xa_i (pe i))] dX9_pushed_125 (by decide) rfl rfl (by omega) rfl ?_
          refine xa_goto (pc := 128) (tgt := 57) dX9_pushed_128 (by decide) ?_
          have hno2 : (fun i => (fun l => fl_P ld dg pa jo wa sr l mv le ((w : Nat) : Int) fi pc turn) (pe i)) i = false := by
            cases z : (fun i => (fun l => fl_P ld dg pa jo wa sr l mv le ((w : Nat) : Int) fi pc turn) (pe i)) i with
            | false => rfl
            | true => exact absurd z c_110
          have ec : ct_n (fun i => (fun l => fl_P ld dg pa jo wa sr l mv le ((w : Nat) : Int) fi pc turn) (pe i)) i = ct_n (fun i => (fun l => fl_P ld dg pa jo wa sr l mv le ((w : Nat) : Int) fi pc turn) (pe i)) (i + 1) := by
            show _ = ct_n (fun i => (fun l => fl_P ld dg pa jo wa sr l mv le ((w : Nat) : Int) fi pc turn) (pe i)) i + (if (fun i => (fun l => fl_P ld dg pa jo wa sr l mv le ((w : Nat) : Int) fi pc turn) (pe i)) i = true then 1 else 0)
            rw [if_neg c_110, Nat.add_zero]
          rw [ec]
          exact ih (i + 1) _ _ h' (by omega) (by omega) (fun z t ht => by
            by_cases q9 : t = i
            · rw [q9]; exact hno2
            · exact hno z t (by omega)) (drf_z hdr0) (by omega) (by omega) hX0 hB0 hB1 hB2 hH0 hH1 hH2 hH3 hT0 hT1 hT2 hT3 hS0 hS1 hS2 (fun i hi => (fr i hi).trans (fr0 i hi))
        · have c_110 := xa_b1.mp c_110
          refine xa_iload (pc := 113) dX9_pushed_113 rfl ?_
          refine xa_iconst (pc := 115) dX9_pushed_115 ?_
          refine xa_icmp_ne (pc := 116) (tgt := 122) dX9_pushed_116 (by decide) ⟨by omega, by omega⟩ (by decide) (fun c_116 => ?_) (fun c_116 => ?_)
          · skip
            refine xa_iincw (pc := 122) (y := ((ct_n (fun i => (fun l => fl_P ld dg pa jo wa sr l mv le ((w : Nat) : Int) fi pc turn) (pe i)) i + 1 : Nat) : Int)) [some (xa_r k), some (xa_i ((w : Nat) : Int)), some (xa_i turn), some (xa_i ((mm : Nat) : Int)), some (xa_i q), some (xa_i ((ct_n (fun i => (fun l => fl_P ld dg pa jo wa sr l mv le ((w : Nat) : Int) fi pc turn) (pe i)) i + 1 : Nat) : Int)), some (xa_i ((i : Nat) : Int)), some (xa_i (pe i))] dX9_pushed_122 (by decide) rfl rfl (by omega) rfl ?_
            refine xa_iincw (pc := 125) (y := ((i + 1 : Nat) : Int)) [some (xa_r k), some (xa_i ((w : Nat) : Int)), some (xa_i turn), some (xa_i ((mm : Nat) : Int)), some (xa_i q), some (xa_i ((ct_n (fun i => (fun l => fl_P ld dg pa jo wa sr l mv le ((w : Nat) : Int) fi pc turn) (pe i)) i + 1 : Nat) : Int)), some (xa_i ((i + 1 : Nat) : Int)), some (xa_i (pe i))] dX9_pushed_125 (by decide) rfl rfl (by omega) rfl ?_
            refine xa_goto (pc := 128) (tgt := 57) dX9_pushed_128 (by decide) ?_
            have ec : ct_n (fun i => (fun l => fl_P ld dg pa jo wa sr l mv le ((w : Nat) : Int) fi pc turn) (pe i)) i + 1 = ct_n (fun i => (fun l => fl_P ld dg pa jo wa sr l mv le ((w : Nat) : Int) fi pc turn) (pe i)) (i + 1) := by
              show _ = ct_n (fun i => (fun l => fl_P ld dg pa jo wa sr l mv le ((w : Nat) : Int) fi pc turn) (pe i)) i + (if (fun i => (fun l => fl_P ld dg pa jo wa sr l mv le ((w : Nat) : Int) fi pc turn) (pe i)) i = true then 1 else 0)
              rw [if_pos c_110]
            rw [ec]
            exact ih (i + 1) _ _ h' (by omega) (by omega) (fun z => by omega) (drf_z hdr0) (by omega) (by omega) hX0 hB0 hB1 hB2 hH0 hH1 hH2 hH3 hT0 hT1 hT2 hT3 hS0 hS1 hS2 (fun i hi => (fr i hi).trans (fr0 i hi))
          · skip
            refine xa_iload (pc := 119) dX9_pushed_119 rfl ?_
            refine xa_ireturn (pc := 121) dX9_pushed_121 rfl trivial ?_
            exact ⟨⟨_, rfl, by rw [if_neg (by omega)]; exact pe_nr (by omega) c_110 (hno (by omega))⟩, ⟨tu1, lo1, _, m, _, t1.1, t1.2.1, t1.2.2.1, t1.2.2.2, ⟨hT0, hT1, hT2, hT3, by omega, by omega⟩, ⟨hS0, hS1, hS2, by omega, by omega⟩, hok1.1, hok1.2.1, hok1.2.2.1, drf_z hdr0⟩, by omega, fun i hi => (fr i hi).trans (fr0 i hi)⟩
theorem c_xPushed {G : xa_G} {h : xa_H} (k : Nat) (kp : Int) (ld dg : Nat → Int) (pa jo : Nat) (wa sr pu ri : Int) (mv le fi : Nat → Int) (pc : Nat) (w turn mm q : Int) (h1 : xa_ok w) (h2 : xa_ok turn) (h3 : xa_ok mm) (h4 : xa_ok q) (hB9 : vB ld dg pa jo wa sr pu ri) (hmvb : ∀ i, 0 ≤ mv i ∧ mv i ≤ 18) (hle : ∀ i, 0 ≤ le i ∧ le i ≤ 60) (hfi : fiOk pa fi pc) (hX : xX0 h k kp) (hB : xB h (k + 3) ld dg pa jo wa sr pu ri) (hH : xH h (k + 11) mv le fi pc) (hTS : xTS h k)  : xa_M G mX9_pushed [xa_r k, xa_i w, xa_i turn, xa_i mm, xa_i q] h 0 0 (fun r h' => (∃ r0, r = some (xa_i r0) ∧ sq_pushed ld dg pa jo wa sr mv le fi pc w turn mm q r0) ∧ xTS h' k ∧ h'.2 = h.2 ∧ ∀ i, (i < k + 24 ∨ k + 31 ≤ i) → h'.1 i = h.1 i) := by
  refine xa_enter (by decide +kernel) (Nat.le_of_ble_eq_true rfl) ?_
  refine xa_locals (ls' := [some (xa_r k), some (xa_i w), some (xa_i turn), some (xa_i mm), some (xa_i q), none, none, none]) rfl ?_
  have hn : h.2 = h.2 := rfl
  have fr : ∀ i, (i < k + 24 ∨ k + 31 ≤ i) → h.1 i = h.1 i := fun _ _ => rfl
  have hTS0 := hTS
  have hX' := hX
  obtain ⟨hX0, hk, hkn⟩ := hX
  obtain ⟨hB0, hB1, hB2, hBk, hBn⟩ := hB
  obtain ⟨hH0, hH1, hH2, hH3, hHk, hHn⟩ := hH
  obtain ⟨tu, lo, dr, dn, al, po, sp, tj, tb, ⟨hT0, hT1, hT2, hT3, -, -⟩, ⟨hS0, hS1, hS2, -, -⟩, hpo, hsp, htj, hdr0⟩ := hTS
  have h0' := hB9.1
  have hw9 := hB9.wag
  have hwa : xa_ok wa := by omega
  have hsr : 0 ≤ sr ∧ sr ≤ 12 := by omega
  have hpu := hB9.2.2.2.2.2.2.1
  have hri := hB9.2.2.2.2.2.2.2
  clear hw9
  refine xa_iload_n (pc := 0) dX9_pushed_0 rfl ?_
  refine xa_callS (pc := 1) (as := [xa_i w]) (rest := []) dX9_pushed_1 ⟨qX9_isWay.1, qX9_isWay.2.1, qX9_isWay.2.2, by decide, by decide⟩ lkRX9_150 smX9_isWay rfl rfl (Nat.le_of_ble_eq_true rfl) (Nat.zero_le _) (Nat.zero_le _) (c_isWay _ ⟨by omega, by omega⟩) (fun r h' hq => ?_)
  obtain ⟨rfl, hq⟩ := hq
  have hq := hq.symm
  subst hq
  refine xa_if_eq (pc := 4) (tgt := 35) dX9_pushed_4 (by decide) xa_okb (fun c_4 => ?_) (fun c_4 => ?_)
  · have c_4 := xa_b0.mp c_4
    refine xa_sipush (pc := 35) dX9_pushed_35 rfl ?_
    refine xa_ireturn (pc := 38) dX9_pushed_38 rfl trivial ?_
    exact ⟨⟨_, rfl, Or.inl ⟨by omega, rfl⟩⟩, hTS0, hn, fr⟩
  · have c_4 := xa_b1.mp c_4
    refine xa_iload_n (pc := 7) dX9_pushed_7 rfl ?_
    refine xa_callS (pc := 8) (as := [xa_i turn]) (rest := []) dX9_pushed_8 ⟨qX9_isTurn.1, qX9_isTurn.2.1, qX9_isTurn.2.2, by decide, by decide⟩ lkRX9_163 smX9_isTurn rfl rfl (Nat.le_of_ble_eq_true rfl) (Nat.zero_le _) (Nat.zero_le _) (c_isTurn _ ⟨by omega, by omega⟩) (fun r h' hq => ?_)
    obtain ⟨rfl, hq⟩ := hq
    have hq := hq.symm
    subst hq
    refine xa_if_eq (pc := 11) (tgt := 35) dX9_pushed_11 (by decide) xa_okb (fun c_11 => ?_) (fun c_11 => ?_)
    · have c_11 := xa_b0.mp c_11
      refine xa_sipush (pc := 35) dX9_pushed_35 rfl ?_
      refine xa_ireturn (pc := 38) dX9_pushed_38 rfl trivial ?_
      exact ⟨⟨_, rfl, Or.inl ⟨by omega, rfl⟩⟩, hTS0, hn, fr⟩
    · have c_11 := xa_b1.mp c_11
      refine xa_iload_n (pc := 14) dX9_pushed_14 rfl ?_
      refine xa_iconst (pc := 15) dX9_pushed_15 ?_
      refine xa_sipush (pc := 16) dX9_pushed_16 rfl ?_
      refine xa_callS (pc := 19) (as := [xa_i mm, xa_i 0, xa_i 200]) (rest := []) dX9_pushed_19 ⟨qX9_isWithin.1, qX9_isWithin.2.1, qX9_isWithin.2.2, by decide, by decide⟩ lkRX9_89 smX9_isWithin rfl rfl (Nat.le_of_ble_eq_true rfl) (Nat.zero_le _) (Nat.zero_le _) (c_isWithin _ _ _ ⟨by omega, by omega⟩ (by decide) (by decide)) (fun r h' hq => ?_)
      obtain ⟨rfl, hq⟩ := hq
      have hq := hq.symm
      subst hq
      refine xa_if_eq (pc := 22) (tgt := 35) dX9_pushed_22 (by decide) xa_okb (fun c_22 => ?_) (fun c_22 => ?_)
      · have c_22 := xa_b0.mp c_22
        refine xa_sipush (pc := 35) dX9_pushed_35 rfl ?_
        refine xa_ireturn (pc := 38) dX9_pushed_38 rfl trivial ?_
        exact ⟨⟨_, rfl, Or.inl ⟨by omega, rfl⟩⟩, hTS0, hn, fr⟩
      · have c_22 := xa_b1.mp c_22
        refine xa_iload (pc := 25) dX9_pushed_25 rfl ?_
        refine xa_iconst (pc := 27) dX9_pushed_27 ?_
        refine xa_iconst (pc := 28) dX9_pushed_28 ?_
        refine xa_callS (pc := 29) (as := [xa_i q, xa_i 0, xa_i 1]) (rest := []) dX9_pushed_29 ⟨qX9_isWithin.1, qX9_isWithin.2.1, qX9_isWithin.2.2, by decide, by decide⟩ lkRX9_89 smX9_isWithin rfl rfl (Nat.le_of_ble_eq_true rfl) (Nat.zero_le _) (Nat.zero_le _) (c_isWithin _ _ _ ⟨by omega, by omega⟩ (by decide) (by decide)) (fun r h' hq => ?_)
        obtain ⟨rfl, hq⟩ := hq
        have hq := hq.symm
        subst hq
        refine xa_if_ne (pc := 32) (tgt := 39) dX9_pushed_32 (by decide) xa_okb (fun c_32 => ?_) (fun c_32 => ?_)
        · have c_32 := xa_b1.mp c_32
          obtain ⟨wn, rfl⟩ : ∃ z : Nat, w = (z : Int) := ⟨w.toNat, by omega⟩
          obtain ⟨mmn, rfl⟩ : ∃ z : Nat, mm = (z : Int) := ⟨mm.toNat, by omega⟩
          refine xa_aload_n (pc := 39) dX9_pushed_39 rfl ?_
          refine xa_getfield (pc := 40) dX9_pushed_40 flRX9_51 (by omega) (by omega) hX0 rfl ?_
          refine xa_aload_n (pc := 43) dX9_pushed_43 rfl ?_
          refine xa_getfield (pc := 44) dX9_pushed_44 flRX9_38 (by omega) (by omega) hX0 rfl ?_
          refine xa_iload_n (pc := 47) dX9_pushed_47 rfl ?_
          refine xa_callV (pc := 48) (as := [xa_r (k + 11), xa_i ((wn : Nat) : Int)]) (rest := []) dX9_pushed_48 ⟨qX8_follow.1, qX8_follow.2.1, qX8_follow.2.2, by decide, by decide⟩ lkRX9_166 imX8_follow seX8_follow rfl rfl (by omega) (by omega) hT0 rfl (Nat.le_of_ble_eq_true rfl) (Nat.zero_le _) (Nat.zero_le _) (c_follow (k + 24) (k + 3) (k + 11) wn tu lo dr ld dg mv le fi po sp dn pa jo pc al wa sr pu ri tj tb (by omega) (by omega) (by omega) (by omega) (by omega) hwa hsr hB9.2.1 hB9.2.2.2.1 hmvb hle hpo hsp htj ⟨hT0, hT1, hT2, hT3, by omega, by omega⟩ ⟨hS0, hS1, hS2, by omega, by omega⟩ ⟨hB0, hB1, hB2, by omega, by omega⟩ ⟨hH0, hH1, hH2, hH3, by omega, by omega⟩) (fun r h' hq => ?_)
          obtain ⟨rfl, m, t1, u1, tu1, lo1, hm, htr, hno, harr, hok1, ⟨hT0, hT1, hT2, hT3, -, -⟩, ⟨hS0, hS1, hS2, -, -⟩, hqn, hqf⟩ := hq
          have hT0 : h'.1 (k + 24) = xa_o 8 [xa_r (k + 24 + 4), xa_r (k + 3), xa_r (k + 24 + 1), xa_r (k + 24 + 2), xa_r (k + 24 + 3), xa_i ((m : Nat) : Int), xa_i (xa_b (m = (le wn).toNat))] := hT0
          have hT1 : h'.1 (k + 24 + 1) = xa_a 183 tu1 := hT1
          have hT2 : h'.1 (k + 24 + 2) = xa_a 61 lo1 := hT2
          have hT3 : h'.1 (k + 24 + 3) = xa_a 61 dr := hT3
          have hS0 : h'.1 (k + 24 + 4) = xa_o 4 [xa_r (k + 3), xa_r (k + 24 + 4 + 1), xa_r (k + 24 + 4 + 2), xa_i t1.2.2.1, xa_i t1.2.2.2] := hS0
          have hS1 : h'.1 (k + 24 + 4 + 1) = xa_a 3 t1.1 := hS1
          have hS2 : h'.1 (k + 24 + 4 + 2) = xa_a 2 t1.2.1 := hS2
          have hX0 : h'.1 k = xa_o 9 [xa_r (k + 1), xa_r (k + 3), xa_r (k + 6), xa_r (k + 9), xa_r (k + 11), xa_r (k + 15), xa_i kp, xa_r (k + 24), xa_r (k + 31), xa_r (k + 32), xa_r (k + 36), xa_r (k + 48), xa_r (k + 60)] := (hqf _ (by omega)).trans hX0
          have hB0 : h'.1 (k + 3) = xa_o 0 [xa_r (k + 3 + 1), xa_r (k + 3 + 2), xa_i ((pa : Nat) : Int), xa_i ((jo : Nat) : Int), xa_i wa, xa_i sr, xa_i pu, xa_i ri] := (hqf _ (by omega)).trans hB0
          have hB1 : h'.1 (k + 3 + 1) = xa_a 9 ld := (hqf _ (by omega)).trans hB1
          have hB2 : h'.1 (k + 3 + 2) = xa_a 2 dg := (hqf _ (by omega)).trans hB2
          have hH0 : h'.1 (k + 11) = xa_o 5 [xa_r (k + 11 + 1), xa_r (k + 11 + 2), xa_r (k + 11 + 3), xa_i ((pc : Nat) : Int)] := (hqf _ (by omega)).trans hH0
          have hH1 : h'.1 (k + 11 + 1) = xa_a 240 mv := (hqf _ (by omega)).trans hH1
          have hH2 : h'.1 (k + 11 + 2) = xa_a 4 le := (hqf _ (by omega)).trans hH2
          have hH3 : h'.1 (k + 11 + 3) = xa_a 120 fi := (hqf _ (by omega)).trans hH3
          have hn : h'.2 = h.2 := hqn.trans hn
          have fr : ∀ i, (i < k + 24 ∨ k + 31 ≤ i) → h'.1 i = h.1 i := fun i hi => (hqf i (by omega)).trans (fr i hi)
          have hlw := hle wn
          obtain ⟨c1, has1, hfw0⟩ := fw_all (ms := fun n => sp_mvat mv ((wn : Nat) : Int) ((n : Nat) : Int)) hB9 (fun i => sp_mvat_b hmvb _ _) hm htr hno harr
          have hfw : fwR ld dg pa jo wa sr (wy mv ((wn : Nat) : Int)) (le wn).toNat m c1 u1 tu1 lo1 := hfw0.ext (fun i hi => mvat_wy mv (by omega) (by omega))
          clear htr hno harr hfw0
          refine xa_iconst (pc := 51) dX9_pushed_51 ?_
          refine xa_istorew (pc := 52) [some (xa_r k), some (xa_i ((wn : Nat) : Int)), some (xa_i turn), some (xa_i ((mmn : Nat) : Int)), some (xa_i q), some (xa_i 0), none, none] dX9_pushed_52 (by decide) (Nat.le_of_ble_eq_true rfl) rfl rfl ?_
          refine xa_iconst (pc := 54) dX9_pushed_54 ?_
          refine xa_istorew (pc := 55) [some (xa_r k), some (xa_i ((wn : Nat) : Int)), some (xa_i turn), some (xa_i ((mmn : Nat) : Int)), some (xa_i q), some (xa_i 0), some (xa_i 0), none] dX9_pushed_55 (by decide) (Nat.le_of_ble_eq_true rfl) rfl rfl ?_
          refine xa_wmono ?_ (c_push_loop (w := wn) (q := q) (mm := mmn) (turn := turn) (by omega) (by omega) (by omega) hB9 hmvb hle hfi hk (by omega) hok1 hfw hpu (by omega) (2 * mmn + 2) 0 dr _ h' (by omega) (by omega) (fun _ t ht => absurd ht (Nat.not_lt_zero _)) hdr0 rfl (by omega) hX0 hB0 hB1 hB2 hH0 hH1 hH2 hH3 hT0 hT1 hT2 hT3 hS0 hS1 hS2 (fun _ _ => rfl))
          rintro r h2 ⟨⟨r0, e1, e2⟩, e3, e4, e5⟩
          exact ⟨⟨r0, e1, Or.inr ⟨by omega, e2⟩⟩, e3, by omega, fun i hi => (e5 i hi).trans (fr i hi)⟩
        · have c_32 := xa_b0.mp c_32
          refine xa_sipush (pc := 35) dX9_pushed_35 rfl ?_
          refine xa_ireturn (pc := 38) dX9_pushed_38 rfl trivial ?_
          exact ⟨⟨_, rfl, Or.inl ⟨by omega, rfl⟩⟩, hTS0, hn, fr⟩
