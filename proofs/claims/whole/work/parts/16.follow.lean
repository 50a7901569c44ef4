/-! Trace.follow: a way that is run -/
def sp_ok (t : xSt) : Prop := (∀ i, 0 ≤ t.1 i ∧ t.1 i ≤ 2) ∧ (∀ i, -2 ≤ t.2.1 i ∧ t.2.1 i ≤ 12) ∧ (t.2.2.1 = 0 ∨ t.2.2.1 = 1) ∧ (-120 ≤ t.2.2.2 ∧ t.2.2.2 ≤ 120)
theorem xa_upf_b {f : Nat → Int} {a b : Int} (hf : ∀ i, a ≤ f i ∧ f i ≤ b) {j : Nat} {x : Int} (hx : a ≤ x ∧ x ≤ b) : ∀ i, a ≤ xa_upf f j x i ∧ xa_upf f j x i ≤ b := by
  intro i
  unfold xa_upf
  split
  · exact hx
  · exact hf i
theorem xa_fl_b {f : Nat → Int} {a b : Int} (hf : ∀ i, a ≤ f i ∧ f i ≤ b) {n : Nat} {x : Int} (hx : a ≤ x ∧ x ≤ b) : ∀ i, a ≤ xa_fl f n x i ∧ xa_fl f n x i ≤ b := by
  intro i
  unfold xa_fl
  split
  · exact hx
  · exact hf i
theorem sp_z120 : (-120 : Int) ≤ 0 ∧ (0 : Int) ≤ 120 := by decide
theorem sp_step_ok {dg : Nat → Int} {jo : Nat} {wa sr : Int} {t t1 : xSt} {j b : Int} (hb : b = 1 ∨ b = -1) (hd : ∀ i, 0 ≤ dg i ∧ dg i ≤ 120) (hsr : 0 ≤ sr ∧ sr ≤ 12) (h : sp_ok t) (hm : sp_step dg jo wa sr t j b = some t1) : sp_ok t1 := by
  obtain ⟨h1, h2, h3, h4⟩ := h
  unfold sp_step at hm
  by_cases hc : ((0 ≤ j ∧ j < 2) ∧ j < jo) ∧ (j = wa ∨ -2 ≤ t.2.1 j.toNat + b ∧ t.2.1 j.toNat + b ≤ 2)
  · rw [if_pos hc] at hm
    cases hm
    have d := sp_dg_b hd j
    have hc2 := hc.2
    refine ⟨h1, xa_upf_b h2 ?_, by show j = 0 ∨ j = 1; omega, ?_⟩
    · unfold sp_nstep
      split
      · have e1 := Int.emod_nonneg (t.2.1 j.toNat + b) (by omega : max sr 1 ≠ 0)
        have e2 := Int.emod_lt_of_pos (t.2.1 j.toNat + b) (by omega : 0 < max sr 1)
        omega
      · omega
    · show -120 ≤ b * sp_dg dg j ∧ b * sp_dg dg j ≤ 120
      rcases hb with rfl | rfl <;> omega
  · rw [if_neg hc] at hm
    cases hm
theorem sp_make_ok {dg : Nat → Int} {pa jo : Nat} {wa sr : Int} {t t1 : xSt} {mv : Int} (hd : ∀ i, 0 ≤ dg i ∧ dg i ≤ 120) (hsr : 0 ≤ sr ∧ sr ≤ 12) (h : sp_ok t) (hm : sp_make dg pa jo wa sr t mv = some t1) : sp_ok t1 := by
  unfold sp_make at hm
  split at hm
  · cases hm
  split at hm
  · unfold sp_pose at hm
    split at hm
    · cases hm
      exact ⟨xa_upf_b h.1 ⟨by omega, by omega⟩, h.2.1, h.2.2.1, sp_z120⟩
    · cases hm
  by_cases hp : 0 < mv
  · rw [if_pos hp] at hm
    exact sp_step_ok (by split <;> simp) hd hsr h hm
  · rw [if_neg hp] at hm
    cases hm
    exact ⟨h.1, h.2.1, h.2.2.1, sp_z120⟩
def sp_tr (ld dg : Nat → Int) (pa jo : Nat) (wa sr : Int) (ms : Nat → Int) (t0 : xSt) : Nat → Option (xSt × Int)
  | 0 => some (t0, 0)
  | n + 1 => (sp_tr ld dg pa jo wa sr ms t0 n).bind fun q => (sp_make dg pa jo wa sr q.1 (ms n)).map fun t => (t, q.2 + sp_last ld t.1 pa t.2.2.1 t.2.2.2)
theorem sp_tr_s {ld dg : Nat → Int} {pa jo : Nat} {wa sr : Int} {ms : Nat → Int} {t0 t t1 : xSt} {n : Nat} {u : Int} (h : sp_tr ld dg pa jo wa sr ms t0 n = some (t, u)) (hm : sp_make dg pa jo wa sr t (ms n) = some t1) : sp_tr ld dg pa jo wa sr ms t0 (n + 1) = some (t1, u + sp_last ld t1.1 pa t1.2.2.1 t1.2.2.2) := by
  show (sp_tr ld dg pa jo wa sr ms t0 n).bind _ = _
  rw [h]
  show (sp_make dg pa jo wa sr t (ms n)).map _ = _
  rw [hm]
  rfl
/-- what the rows of a run hold -/
def sp_arr (tr : Nat → Option (xSt × Int)) (ld dg : Nat → Int) (pa jo : Nat) (tu lo : Nat → Int) (m : Nat) : Prop := ∀ i, i ≤ m → ∃ (t : xSt) (u : Int), tr i = some (t, u) ∧ lo i = sp_from ld t.1 pa 0 ∧ ∀ p : Nat, p < pa → tu (i * 3 + p) = u + sp_bent dg t.2.1 jo ((p : Nat) : Int)
theorem sp_nt_lt (tu : Nat → Int) (dn : Nat) (u : Int) (B : Int → Int) {j : Nat} (hj : j < dn * 3) : ∀ n, sp_nt tu dn u B n j = tu j
  | 0 => rfl
  | n + 1 => by
    show xa_upf (sp_nt tu dn u B n) (dn * 3 + n) _ j = tu j
    rw [xa_upf_ne _ _ (by omega)]
    exact sp_nt_lt tu dn u B hj n
theorem sp_nt_at (tu : Nat → Int) (dn : Nat) (u : Int) (B : Int → Int) {p : Nat} : ∀ n, p < n → sp_nt tu dn u B n (dn * 3 + p) = u + B ((p : Nat) : Int)
  | 0, h => absurd h (Nat.not_lt_zero _)
  | n + 1, h => by
    show xa_upf (sp_nt tu dn u B n) (dn * 3 + n) _ (dn * 3 + p) = _
    by_cases e : p = n
    · subst e; rw [xa_upf_at]
    · rw [xa_upf_ne _ _ (by omega)]
      exact sp_nt_at tu dn u B n (by omega)
theorem sp_arr_0 {tr : Nat → Option (xSt × Int)} {ld dg : Nat → Int} {pa jo : Nat} {tu lo : Nat → Int} {t : xSt} {u : Int} (h : tr 0 = some (t, u)) : sp_arr tr ld dg pa jo (sp_nt tu 0 u (sp_bent dg t.2.1 jo) pa) (xa_upf lo 0 (sp_from ld t.1 pa 0)) 0 := by
  intro i hi
  have e : i = 0 := by omega
  subst e
  exact ⟨t, u, h, xa_upf_at _ _ _, fun p hp => sp_nt_at _ _ _ _ _ hp⟩
theorem sp_arr_s {tr : Nat → Option (xSt × Int)} {ld dg : Nat → Int} {pa jo : Nat} {tu lo : Nat → Int} {t : xSt} {u : Int} {m : Nat} (hpa : pa ≤ 3) (h0 : sp_arr tr ld dg pa jo tu lo m) (h : tr (m + 1) = some (t, u)) : sp_arr tr ld dg pa jo (sp_nt tu (m + 1) u (sp_bent dg t.2.1 jo) pa) (xa_upf lo (m + 1) (sp_from ld t.1 pa 0)) (m + 1) := by
  intro i hi
  by_cases e : i = m + 1
  · subst e
    exact ⟨t, u, h, xa_upf_at _ _ _, fun p hp => sp_nt_at _ _ _ _ _ hp⟩
  · obtain ⟨t', u', a1, a2, a3⟩ := h0 i (by omega)
    exact ⟨t', u', a1, (xa_upf_ne _ _ e).trans a2, fun p hp => (sp_nt_lt _ _ _ _ (by omega) _).trans (a3 p hp)⟩
theorem sp_mvat_b {mv : Nat → Int} (hm : ∀ i, 0 ≤ mv i ∧ mv i ≤ 18) (w t : Int) : 0 ≤ sp_mvat mv w t ∧ sp_mvat mv w t ≤ 18 := by
  unfold sp_mvat
  split
  · exact hm _
  · omega

theorem c_follow_loop {G : xa_G} {h0 : xa_H} {q kb kh w len : Nat} {dr ld dg mv le fi : Nat → Int} {pa jo pc : Nat} {wa sr pu ri : Int} {t0 : xSt} {al : Int} (hq2 : 2 ≤ q) (hkb : 2 ≤ kb) (hkh : 2 ≤ kh) (hkk : kb + 3 ≤ q) (hdis : kh + 4 ≤ q ∨ q + 7 ≤ kh) (hw : w ≤ 3) (hlen : len ≤ 60) (hpa : pa ≤ 3) (hjo : jo ≤ 2) (hwa : xa_ok wa) (hsr : 0 ≤ sr ∧ sr ≤ 12) (hld : ∀ i, 0 ≤ ld i ∧ ld i ≤ 99) (hdg : ∀ i, 0 ≤ dg i ∧ dg i ≤ 120) (hmvb : ∀ i, 0 ≤ mv i ∧ mv i ≤ 18) : ∀ (d : Nat) (m : Nat) (t : xSt) (u : Int) (tu lo : Nat → Int) (h : xa_H), len - m < d → (m ≤ len) → (sp_tr ld dg pa jo wa sr (fun n => sp_mvat mv ((w : Nat) : Int) ((n : Nat) : Int)) t0 m = some (t, u)) → (sp_arr (sp_tr ld dg pa jo wa sr (fun n => sp_mvat mv ((w : Nat) : Int) ((n : Nat) : Int)) t0) ld dg pa jo tu lo m) → (sp_ok t) → (h.2 = h0.2) → (q + 6 < h.2) → (kh + 3 < h.2) → (h.1 q = xa_o 8 [xa_r (q + 4), xa_r kb, xa_r (q + 1), xa_r (q + 2), xa_r (q + 3), xa_i ((m : Nat) : Int), xa_i al]) → (h.1 (q + 1) = xa_a 183 tu) → (h.1 (q + 2) = xa_a 61 lo) → (h.1 (q + 3) = xa_a 61 dr) → (h.1 (q + 4) = xa_o 4 [xa_r kb, xa_r (q + 4 + 1), xa_r (q + 4 + 2), xa_i t.2.2.1, xa_i t.2.2.2]) → (h.1 (q + 4 + 1) = xa_a 3 t.1) → (h.1 (q + 4 + 2) = xa_a 2 t.2.1) → (h.1 kb = xa_o 0 [xa_r (kb + 1), xa_r (kb + 2), xa_i ((pa : Nat) : Int), xa_i ((jo : Nat) : Int), xa_i wa, xa_i sr, xa_i pu, xa_i ri]) → (h.1 (kb + 1) = xa_a 9 ld) → (h.1 (kb + 2) = xa_a 2 dg) → (h.1 kh = xa_o 5 [xa_r (kh + 1), xa_r (kh + 2), xa_r (kh + 3), xa_i ((pc : Nat) : Int)]) → (h.1 (kh + 1) = xa_a 240 mv) → (h.1 (kh + 2) = xa_a 4 le) → (h.1 (kh + 3) = xa_a 120 fi) → (∀ i, (i < q ∨ q + 7 ≤ i) → h.1 i = h0.1 i) → xa_W G mX8_follow (xa_Z G (fun r h' => r = none ∧ ∃ (m : Nat) (t : xSt) (u : Int) (tu lo : Nat → Int), m ≤ len ∧ sp_tr ld dg pa jo wa sr (fun n => sp_mvat mv ((w : Nat) : Int) ((n : Nat) : Int)) t0 m = some (t, u) ∧ (m < len → sp_make dg pa jo wa sr t (sp_mvat mv ((w : Nat) : Int) ((m : Nat) : Int)) = none) ∧ sp_arr (sp_tr ld dg pa jo wa sr (fun n => sp_mvat mv ((w : Nat) : Int) ((n : Nat) : Int)) t0) ld dg pa jo tu lo m ∧ sp_ok t ∧ xTr h' q kb tu lo dr m (xa_b (m = len)) ∧ xS h' (q + 4) kb t.1 t.2.1 t.2.2.1 t.2.2.2 ∧ h'.2 = h0.2 ∧ ∀ i, (i < q ∨ q + 7 ≤ i) → h'.1 i = h0.1 i)) 34 [some (xa_r q), some (xa_r kh), some (xa_i ((w : Nat) : Int)), some (xa_i u), some (xa_i ((len : Nat) : Int)), some (xa_i ((m : Nat) : Int))] [] h 0 0 := by
  intro d
  induction d with
  | zero => intros; exfalso; omega
  | succ d ih =>
    intro m t u tu lo h hd hm htr harr hok hn0 hqn7 hkhn hT0 hT1 hT2 hT3 hS0 hS1 hS2 hB0 hB1 hB2 hH0 hH1 hH2 hH3 fr0
    have hn : h.2 = h.2 := rfl
    have fr : ∀ i, (i < q ∨ q + 7 ≤ i) → h.1 i = h.1 i := fun _ _ => rfl
    have hpo := hok.1
    have hsp := hok.2.1
    refine xa_iload (pc := 34) dX8_follow_34 rfl ?_
    refine xa_iload (pc := 36) dX8_follow_36 rfl ?_
    refine xa_icmp_ge (pc := 38) (tgt := 87) dX8_follow_38 (by decide) ⟨by omega, by omega⟩ ⟨by omega, by omega⟩ (fun c_38 => ?_) (fun c_38 => ?_)
    · skip
      refine xa_aload_n (pc := 87) dX8_follow_87 rfl ?_
      refine xa_aload_n (pc := 88) dX8_follow_88 rfl ?_
      refine xa_getfield (pc := 89) dX8_follow_89 flRX8_37 (by omega) (by omega) hT0 rfl ?_
      refine xa_iload (pc := 92) dX8_follow_92 rfl ?_
      refine xa_icmp_ne (pc := 94) (tgt := 101) dX8_follow_94 (by decide) ⟨by omega, by omega⟩ ⟨by omega, by omega⟩ (fun c_94 => ?_) (fun c_94 => ?_)
      · skip
        refine xa_iconst (pc := 101) dX8_follow_101 ?_
        refine xa_putw (pc := 102) [xa_r (q + 4), xa_r kb, xa_r (q + 1), xa_r (q + 2), xa_r (q + 3), xa_i ((m : Nat) : Int), xa_i 0] dX8_follow_102 flRX8_68 plX8_6 (by omega) (by omega) hT0 (Or.inl rfl) rfl (fun h1 nh1 ch1 oh1 => ?_)
        have hT0 : h1.1 q = xa_o 8 [xa_r (q + 4), xa_r kb, xa_r (q + 1), xa_r (q + 2), xa_r (q + 3), xa_i ((m : Nat) : Int), xa_i 0] := ch1
        have hT1 : h1.1 (q + 1) = xa_a 183 tu := (oh1 _ (by omega)).trans hT1
        have hT2 : h1.1 (q + 2) = xa_a 61 lo := (oh1 _ (by omega)).trans hT2
        have hT3 : h1.1 (q + 3) = xa_a 61 dr := (oh1 _ (by omega)).trans hT3
        have hS0 : h1.1 (q + 4) = xa_o 4 [xa_r kb, xa_r (q + 4 + 1), xa_r (q + 4 + 2), xa_i t.2.2.1, xa_i t.2.2.2] := (oh1 _ (by omega)).trans hS0
        have hS1 : h1.1 (q + 4 + 1) = xa_a 3 t.1 := (oh1 _ (by omega)).trans hS1
        have hS2 : h1.1 (q + 4 + 2) = xa_a 2 t.2.1 := (oh1 _ (by omega)).trans hS2
        have hB0 : h1.1 kb = xa_o 0 [xa_r (kb + 1), xa_r (kb + 2), xa_i ((pa : Nat) : Int), xa_i ((jo : Nat) : Int), xa_i wa, xa_i sr, xa_i pu, xa_i ri] := (oh1 _ (by omega)).trans hB0
        have hB1 : h1.1 (kb + 1) = xa_a 9 ld := (oh1 _ (by omega)).trans hB1
        have hB2 : h1.1 (kb + 2) = xa_a 2 dg := (oh1 _ (by omega)).trans hB2
        have hH0 : h1.1 kh = xa_o 5 [xa_r (kh + 1), xa_r (kh + 2), xa_r (kh + 3), xa_i ((pc : Nat) : Int)] := (oh1 _ (by omega)).trans hH0
        have hH1 : h1.1 (kh + 1) = xa_a 240 mv := (oh1 _ (by omega)).trans hH1
        have hH2 : h1.1 (kh + 2) = xa_a 4 le := (oh1 _ (by omega)).trans hH2
        have hH3 : h1.1 (kh + 3) = xa_a 120 fi := (oh1 _ (by omega)).trans hH3
        have hn : h1.2 = h.2 := nh1.trans hn
        have fr : ∀ i, (i < q ∨ q + 7 ≤ i) → h1.1 i = h.1 i := fun i hi => (oh1 i (by omega)).trans (fr i hi)
        refine xa_return (pc := 105) dX8_follow_105 rfl ?_
        have e8 : (0 : Int) = xa_b (m = len) := xa_bf (by omega)
        rw [e8] at hT0
        exact ⟨rfl, m, t, u, tu, lo, hm, htr, by first | (intro z; exfalso; omega) | exact fun _ => ht, harr, hok, ⟨hT0, hT1, hT2, hT3, by omega, by omega⟩, ⟨hS0, hS1, hS2, by omega, by omega⟩, by omega, fun i hi => (fr i hi).trans (fr0 i hi)⟩
      · skip
        refine xa_iconst (pc := 97) dX8_follow_97 ?_
        refine xa_goto (pc := 98) (tgt := 102) dX8_follow_98 (by decide) ?_
        refine xa_putw (pc := 102) [xa_r (q + 4), xa_r kb, xa_r (q + 1), xa_r (q + 2), xa_r (q + 3), xa_i ((m : Nat) : Int), xa_i 1] dX8_follow_102 flRX8_68 plX8_6 (by omega) (by omega) hT0 (Or.inr rfl) rfl (fun h2 nh2 ch2 oh2 => ?_)
        have hT0 : h2.1 q = xa_o 8 [xa_r (q + 4), xa_r kb, xa_r (q + 1), xa_r (q + 2), xa_r (q + 3), xa_i ((m : Nat) : Int), xa_i 1] := ch2
        have hT1 : h2.1 (q + 1) = xa_a 183 tu := (oh2 _ (by omega)).trans hT1
        have hT2 : h2.1 (q + 2) = xa_a 61 lo := (oh2 _ (by omega)).trans hT2
        have hT3 : h2.1 (q + 3) = xa_a 61 dr := (oh2 _ (by omega)).trans hT3
        have hS0 : h2.1 (q + 4) = xa_o 4 [xa_r kb, xa_r (q + 4 + 1), xa_r (q + 4 + 2), xa_i t.2.2.1, xa_i t.2.2.2] := (oh2 _ (by omega)).trans hS0
        have hS1 : h2.1 (q + 4 + 1) = xa_a 3 t.1 := (oh2 _ (by omega)).trans hS1
        have hS2 : h2.1 (q + 4 + 2) = xa_a 2 t.2.1 := (oh2 _ (by omega)).trans hS2
        have hB0 : h2.1 kb = xa_o 0 [xa_r (kb + 1), xa_r (kb + 2), xa_i ((pa : Nat) : Int), xa_i ((jo : Nat) : Int), xa_i wa, xa_i sr, xa_i pu, xa_i ri] := (oh2 _ (by omega)).trans hB0
        have hB1 : h2.1 (kb + 1) = xa_a 9 ld := (oh2 _ (by omega)).trans hB1
        have hB2 : h2.1 (kb + 2) = xa_a 2 dg := (oh2 _ (by omega)).trans hB2
        have hH0 : h2.1 kh = xa_o 5 [xa_r (kh + 1), xa_r (kh + 2), xa_r (kh + 3), xa_i ((pc : Nat) : Int)] := (oh2 _ (by omega)).trans hH0
        have hH1 : h2.1 (kh + 1) = xa_a 240 mv := (oh2 _ (by omega)).trans hH1
        have hH2 : h2.1 (kh + 2) = xa_a 4 le := (oh2 _ (by omega)).trans hH2
        have hH3 : h2.1 (kh + 3) = xa_a 120 fi := (oh2 _ (by omega)).trans hH3
        have hn : h2.2 = h.2 := nh2.trans hn
        have fr : ∀ i, (i < q ∨ q + 7 ≤ i) → h2.1 i = h.1 i := fun i hi => (oh2 i (by omega)).trans (fr i hi)
        refine xa_return (pc := 105) dX8_follow_105 rfl ?_
        have e8 : (1 : Int) = xa_b (m = len) := xa_bt (by omega)
        rw [e8] at hT0
        exact ⟨rfl, m, t, u, tu, lo, hm, htr, by first | (intro z; exfalso; omega) | exact fun _ => ht, harr, hok, ⟨hT0, hT1, hT2, hT3, by omega, by omega⟩, ⟨hS0, hS1, hS2, by omega, by omega⟩, by omega, fun i hi => (fr i hi).trans (fr0 i hi)⟩
    · skip
      refine xa_aload_n (pc := 41) dX8_follow_41 rfl ?_
      refine xa_getfield (pc := 42) dX8_follow_42 flRX8_30 (by omega) (by omega) hT0 rfl ?_
      refine xa_aload_n (pc := 45) dX8_follow_45 rfl ?_
      refine xa_iload_n (pc := 46) dX8_follow_46 rfl ?_
      refine xa_iload (pc := 47) dX8_follow_47 rfl ?_
      refine xa_callV (pc := 49) (as := [xa_i ((w : Nat) : Int), xa_i ((m : Nat) : Int)]) (rest := [xa_r (q + 4)]) dX8_follow_49 ⟨qX5_moveAt.1, qX5_moveAt.2.1, qX5_moveAt.2.2, by decide, by decide⟩ lkRX8_57 imX5_moveAt seX5_moveAt rfl rfl (by omega) (by omega) hH0 rfl (Nat.le_of_ble_eq_true rfl) (Nat.zero_le _) (Nat.zero_le _) (c_moveAt _ _ _ _ _ _ _ (by omega) (by omega) ⟨hH0, hH1, hH2, hH3, by omega, by omega⟩) (fun r h' hq => ?_)
      obtain ⟨rfl, hq⟩ := hq
      have hq := hq.symm
      subst hq
      have b9 := sp_mvat_b hmvb ((w : Nat) : Int) ((m : Nat) : Int)
      refine xa_callV (pc := 52) (as := [xa_i (sp_mvat mv ((w : Nat) : Int) ((m : Nat) : Int))]) (rest := []) dX8_follow_52 ⟨qX4_makes.1, qX4_makes.2.1, qX4_makes.2.2, by decide, by decide⟩ lkRX8_60 imX4_makes seX4_makes rfl rfl (by omega) (by omega) hS0 rfl (Nat.le_of_ble_eq_true rfl) (Nat.zero_le _) (Nat.zero_le _) (c_makes _ _ _ _ _ _ _ _ _ _ _ _ _ _ _ ⟨by omega, by omega⟩ ⟨hS0, hS1, hS2, by omega, by omega⟩ ⟨hB0, hB1, hB2, by omega, by omega⟩ (by omega) hpa hjo hsp hpo hwa hsr) (fun r h' hq => ?_)
      obtain ⟨hq, hqn, hqf⟩ := hq
      rcases hq with ⟨t1, ht, rfl, hS0, hS1, hS2, -, -⟩ | ⟨ht, rfl, hS0, hS1, hS2, -, -⟩
      · skip
        have hT0 : h'.1 q = xa_o 8 [xa_r (q + 4), xa_r kb, xa_r (q + 1), xa_r (q + 2), xa_r (q + 3), xa_i ((m : Nat) : Int), xa_i al] := (hqf _ (by omega)).trans hT0
        have hT1 : h'.1 (q + 1) = xa_a 183 tu := (hqf _ (by omega)).trans hT1
        have hT2 : h'.1 (q + 2) = xa_a 61 lo := (hqf _ (by omega)).trans hT2
        have hT3 : h'.1 (q + 3) = xa_a 61 dr := (hqf _ (by omega)).trans hT3
        have hB0 : h'.1 kb = xa_o 0 [xa_r (kb + 1), xa_r (kb + 2), xa_i ((pa : Nat) : Int), xa_i ((jo : Nat) : Int), xa_i wa, xa_i sr, xa_i pu, xa_i ri] := (hqf _ (by omega)).trans hB0
        have hB1 : h'.1 (kb + 1) = xa_a 9 ld := (hqf _ (by omega)).trans hB1
        have hB2 : h'.1 (kb + 2) = xa_a 2 dg := (hqf _ (by omega)).trans hB2
        have hH0 : h'.1 kh = xa_o 5 [xa_r (kh + 1), xa_r (kh + 2), xa_r (kh + 3), xa_i ((pc : Nat) : Int)] := (hqf _ (by omega)).trans hH0
        have hH1 : h'.1 (kh + 1) = xa_a 240 mv := (hqf _ (by omega)).trans hH1
        have hH2 : h'.1 (kh + 2) = xa_a 4 le := (hqf _ (by omega)).trans hH2
        have hH3 : h'.1 (kh + 3) = xa_a 120 fi := (hqf _ (by omega)).trans hH3
        have hn : h'.2 = h.2 := hqn.trans hn
        have fr : ∀ i, (i < q ∨ q + 7 ≤ i) → h'.1 i = h.1 i := fun i hi => (hqf i (by omega)).trans (fr i hi)
        have hok1 : sp_ok t1 := sp_make_ok hdg hsr hok ht
        have hpo := hok1.1
        have hsp := hok1.2.1
        have htr1 := sp_tr_s htr ht
        refine xa_if_eq (pc := 55) (tgt := 87) dX8_follow_55 (by decide) (by decide) (fun c_55 => ?_) (fun c_55 => ?_)
        · skip
          exfalso; omega
        · skip
          refine xa_aload_n (pc := 58) dX8_follow_58 rfl ?_
          refine xa_iload (pc := 59) dX8_follow_59 rfl ?_
          refine xa_iconst (pc := 61) dX8_follow_61 ?_
          refine xa_iadd (pc := 62) dX8_follow_62 ?_
          refine xa_top (y := ((m + 1 : Nat) : Int)) (by omega) ?_
          refine xa_putw (pc := 63) [xa_r (q + 4), xa_r kb, xa_r (q + 1), xa_r (q + 2), xa_r (q + 3), xa_i ((m + 1 : Nat) : Int), xa_i al] dX8_follow_63 flRX8_37 plX8_5 (by omega) (by omega) hT0 trivial rfl (fun h3 nh3 ch3 oh3 => ?_)
          have hT0 : h3.1 q = xa_o 8 [xa_r (q + 4), xa_r kb, xa_r (q + 1), xa_r (q + 2), xa_r (q + 3), xa_i ((m + 1 : Nat) : Int), xa_i al] := ch3
          have hT1 : h3.1 (q + 1) = xa_a 183 tu := (oh3 _ (by omega)).trans hT1
          have hT2 : h3.1 (q + 2) = xa_a 61 lo := (oh3 _ (by omega)).trans hT2
          have hT3 : h3.1 (q + 3) = xa_a 61 dr := (oh3 _ (by omega)).trans hT3
          have hS0 : h3.1 (q + 4) = xa_o 4 [xa_r kb, xa_r (q + 4 + 1), xa_r (q + 4 + 2), xa_i t1.2.2.1, xa_i t1.2.2.2] := (oh3 _ (by omega)).trans hS0
          have hS1 : h3.1 (q + 4 + 1) = xa_a 3 t1.1 := (oh3 _ (by omega)).trans hS1
          have hS2 : h3.1 (q + 4 + 2) = xa_a 2 t1.2.1 := (oh3 _ (by omega)).trans hS2
          have hB0 : h3.1 kb = xa_o 0 [xa_r (kb + 1), xa_r (kb + 2), xa_i ((pa : Nat) : Int), xa_i ((jo : Nat) : Int), xa_i wa, xa_i sr, xa_i pu, xa_i ri] := (oh3 _ (by omega)).trans hB0
          have hB1 : h3.1 (kb + 1) = xa_a 9 ld := (oh3 _ (by omega)).trans hB1
          have hB2 : h3.1 (kb + 2) = xa_a 2 dg := (oh3 _ (by omega)).trans hB2
          have hH0 : h3.1 kh = xa_o 5 [xa_r (kh + 1), xa_r (kh + 2), xa_r (kh + 3), xa_i ((pc : Nat) : Int)] := (oh3 _ (by omega)).trans hH0
          have hH1 : h3.1 (kh + 1) = xa_a 240 mv := (oh3 _ (by omega)).trans hH1
          have hH2 : h3.1 (kh + 2) = xa_a 4 le := (oh3 _ (by omega)).trans hH2
          have hH3 : h3.1 (kh + 3) = xa_a 120 fi := (oh3 _ (by omega)).trans hH3
          have hn : h3.2 = h.2 := nh3.trans hn
          have fr : ∀ i, (i < q ∨ q + 7 ≤ i) → h3.1 i = h.1 i := fun i hi => (oh3 i (by omega)).trans (fr i hi)
          refine xa_iload_n (pc := 66) dX8_follow_66 rfl ?_
          refine xa_aload_n (pc := 67) dX8_follow_67 rfl ?_
          refine xa_getfield (pc := 68) dX8_follow_68 flRX8_30 (by omega) (by omega) hT0 rfl ?_
          refine xa_callV (pc := 71) (as := []) (rest := [xa_i u]) dX8_follow_71 ⟨qX4_lastTurn.1, qX4_lastTurn.2.1, qX4_lastTurn.2.2, by decide, by decide⟩ lkRX8_64 imX4_lastTurn seX4_lastTurn rfl rfl (by omega) (by omega) hS0 rfl (Nat.le_of_ble_eq_true rfl) (Nat.zero_le _) (Nat.zero_le _) (c_lastTurn _ _ _ _ _ _ _ _ _ _ _ _ _ _ ⟨hS0, hS1, hS2, by omega, by omega⟩ ⟨hB0, hB1, hB2, by omega, by omega⟩ (by omega) hpa hjo hpo hld hok1.2.2.1 hok1.2.2.2) (fun r h' hq => ?_)
          obtain ⟨rfl, hq⟩ := hq
          have hq := hq.symm
          subst hq
          refine xa_iadd (pc := 74) dX8_follow_74 ?_
          refine xa_istoren (pc := 75) [some (xa_r q), some (xa_r kh), some (xa_i ((w : Nat) : Int)), some (xa_i (u + (sp_last ld t1.1 pa t1.2.2.1 t1.2.2.2))), some (xa_i ((len : Nat) : Int)), some (xa_i ((m : Nat) : Int))] dX8_follow_75 (by decide) (Nat.le_of_ble_eq_true rfl) rfl rfl ?_
          refine xa_aload_n (pc := 76) dX8_follow_76 rfl ?_
          refine xa_iload_n (pc := 77) dX8_follow_77 rfl ?_
          refine xa_callV (pc := 78) (as := [xa_i (u + (sp_last ld t1.1 pa t1.2.2.1 t1.2.2.2))]) (rest := []) dX8_follow_78 ⟨qX8_note.1, qX8_note.2.1, qX8_note.2.2, by decide, by decide⟩ lkRX8_41 imX8_note seX8_note rfl rfl (by omega) (by omega) hT0 rfl (Nat.le_of_ble_eq_true rfl) (Nat.zero_le _) (Nat.zero_le _) (c_note _ _ _ _ _ (m + 1) _ _ _ _ _ _ _ _ _ _ _ _ _ _ (by omega) ⟨hT0, hT1, hT2, hT3, by omega, by omega⟩ ⟨hS0, hS1, hS2, by omega, by omega⟩ ⟨hB0, hB1, hB2, by omega, by omega⟩ (by omega) hpa hjo hsp hpo) (fun r h' hq => ?_)
          obtain ⟨rfl, ⟨-, hT1, hT2, -, -, -⟩, hqn, hqf⟩ := hq
          have hT0 : h'.1 q = xa_o 8 [xa_r (q + 4), xa_r kb, xa_r (q + 1), xa_r (q + 2), xa_r (q + 3), xa_i ((m + 1 : Nat) : Int), xa_i al] := (hqf _ (by omega)).trans hT0
          have hT3 : h'.1 (q + 3) = xa_a 61 dr := (hqf _ (by omega)).trans hT3
          have hS0 : h'.1 (q + 4) = xa_o 4 [xa_r kb, xa_r (q + 4 + 1), xa_r (q + 4 + 2), xa_i t1.2.2.1, xa_i t1.2.2.2] := (hqf _ (by omega)).trans hS0
          have hS1 : h'.1 (q + 4 + 1) = xa_a 3 t1.1 := (hqf _ (by omega)).trans hS1
          have hS2 : h'.1 (q + 4 + 2) = xa_a 2 t1.2.1 := (hqf _ (by omega)).trans hS2
          have hB0 : h'.1 kb = xa_o 0 [xa_r (kb + 1), xa_r (kb + 2), xa_i ((pa : Nat) : Int), xa_i ((jo : Nat) : Int), xa_i wa, xa_i sr, xa_i pu, xa_i ri] := (hqf _ (by omega)).trans hB0
          have hB1 : h'.1 (kb + 1) = xa_a 9 ld := (hqf _ (by omega)).trans hB1
          have hB2 : h'.1 (kb + 2) = xa_a 2 dg := (hqf _ (by omega)).trans hB2
          have hH0 : h'.1 kh = xa_o 5 [xa_r (kh + 1), xa_r (kh + 2), xa_r (kh + 3), xa_i ((pc : Nat) : Int)] := (hqf _ (by omega)).trans hH0
          have hH1 : h'.1 (kh + 1) = xa_a 240 mv := (hqf _ (by omega)).trans hH1
          have hH2 : h'.1 (kh + 2) = xa_a 4 le := (hqf _ (by omega)).trans hH2
          have hH3 : h'.1 (kh + 3) = xa_a 120 fi := (hqf _ (by omega)).trans hH3
          have hn : h'.2 = h.2 := hqn.trans hn
          have fr : ∀ i, (i < q ∨ q + 7 ≤ i) → h'.1 i = h.1 i := fun i hi => (hqf i (by omega)).trans (fr i hi)
          refine xa_iincw (pc := 81) (y := ((m + 1 : Nat) : Int)) [some (xa_r q), some (xa_r kh), some (xa_i ((w : Nat) : Int)), some (xa_i (u + (sp_last ld t1.1 pa t1.2.2.1 t1.2.2.2))), some (xa_i ((len : Nat) : Int)), some (xa_i ((m + 1 : Nat) : Int))] dX8_follow_81 (by decide) rfl rfl (by omega) rfl ?_
          refine xa_goto (pc := 84) (tgt := 34) dX8_follow_84 (by decide) ?_
          exact ih (m + 1) t1 _ _ _ _ (by omega) (by omega) htr1 (sp_arr_s hpa harr htr1) hok1 (by omega) (by omega) (by omega) hT0 hT1 hT2 hT3 hS0 hS1 hS2 hB0 hB1 hB2 hH0 hH1 hH2 hH3 (fun i hi => (fr i hi).trans (fr0 i hi))
      · skip
        have hT0 : h'.1 q = xa_o 8 [xa_r (q + 4), xa_r kb, xa_r (q + 1), xa_r (q + 2), xa_r (q + 3), xa_i ((m : Nat) : Int), xa_i al] := (hqf _ (by omega)).trans hT0
        have hT1 : h'.1 (q + 1) = xa_a 183 tu := (hqf _ (by omega)).trans hT1
        have hT2 : h'.1 (q + 2) = xa_a 61 lo := (hqf _ (by omega)).trans hT2
        have hT3 : h'.1 (q + 3) = xa_a 61 dr := (hqf _ (by omega)).trans hT3
        have hB0 : h'.1 kb = xa_o 0 [xa_r (kb + 1), xa_r (kb + 2), xa_i ((pa : Nat) : Int), xa_i ((jo : Nat) : Int), xa_i wa, xa_i sr, xa_i pu, xa_i ri] := (hqf _ (by omega)).trans hB0
        have hB1 : h'.1 (kb + 1) = xa_a 9 ld := (hqf _ (by omega)).trans hB1
        have hB2 : h'.1 (kb + 2) = xa_a 2 dg := (hqf _ (by omega)).trans hB2
        have hH0 : h'.1 kh = xa_o 5 [xa_r (kh + 1), xa_r (kh + 2), xa_r (kh + 3), xa_i ((pc : Nat) : Int)] := (hqf _ (by omega)).trans hH0
        have hH1 : h'.1 (kh + 1) = xa_a 240 mv := (hqf _ (by omega)).trans hH1
        have hH2 : h'.1 (kh + 2) = xa_a 4 le := (hqf _ (by omega)).trans hH2
        have hH3 : h'.1 (kh + 3) = xa_a 120 fi := (hqf _ (by omega)).trans hH3
        have hn : h'.2 = h.2 := hqn.trans hn
        have fr : ∀ i, (i < q ∨ q + 7 ≤ i) → h'.1 i = h.1 i := fun i hi => (hqf i (by omega)).trans (fr i hi)
        refine xa_if_eq (pc := 55) (tgt := 87) dX8_follow_55 (by decide) (by decide) (fun c_55 => ?_) (fun c_55 => ?_)
        · skip
          refine xa_aload_n (pc := 87) dX8_follow_87 rfl ?_
          refine xa_aload_n (pc := 88) dX8_follow_88 rfl ?_
          refine xa_getfield (pc := 89) dX8_follow_89 flRX8_37 (by omega) (by omega) hT0 rfl ?_
          refine xa_iload (pc := 92) dX8_follow_92 rfl ?_
          refine xa_icmp_ne (pc := 94) (tgt := 101) dX8_follow_94 (by decide) ⟨by omega, by omega⟩ ⟨by omega, by omega⟩ (fun c_94 => ?_) (fun c_94 => ?_)
          · skip
            refine xa_iconst (pc := 101) dX8_follow_101 ?_
            refine xa_putw (pc := 102) [xa_r (q + 4), xa_r kb, xa_r (q + 1), xa_r (q + 2), xa_r (q + 3), xa_i ((m : Nat) : Int), xa_i 0] dX8_follow_102 flRX8_68 plX8_6 (by omega) (by omega) hT0 (Or.inl rfl) rfl (fun h4 nh4 ch4 oh4 => ?_)
            have hT0 : h4.1 q = xa_o 8 [xa_r (q + 4), xa_r kb, xa_r (q + 1), xa_r (q + 2), xa_r (q + 3), xa_i ((m : Nat) : Int), xa_i 0] := ch4
            have hT1 : h4.1 (q + 1) = xa_a 183 tu := (oh4 _ (by omega)).trans hT1
            have hT2 : h4.1 (q + 2) = xa_a 61 lo := (oh4 _ (by omega)).trans hT2
            have hT3 : h4.1 (q + 3) = xa_a 61 dr := (oh4 _ (by omega)).trans hT3
            have hS0 : h4.1 (q + 4) = xa_o 4 [xa_r kb, xa_r (q + 4 + 1), xa_r (q + 4 + 2), xa_i t.2.2.1, xa_i t.2.2.2] := (oh4 _ (by omega)).trans hS0
            have hS1 : h4.1 (q + 4 + 1) = xa_a 3 t.1 := (oh4 _ (by omega)).trans hS1
            have hS2 : h4.1 (q + 4 + 2) = xa_a 2 t.2.1 := (oh4 _ (by omega)).trans hS2
            have hB0 : h4.1 kb = xa_o 0 [xa_r (kb + 1), xa_r (kb + 2), xa_i ((pa : Nat) : Int), xa_i ((jo : Nat) : Int), xa_i wa, xa_i sr, xa_i pu, xa_i ri] := (oh4 _ (by omega)).trans hB0
            have hB1 : h4.1 (kb + 1) = xa_a 9 ld := (oh4 _ (by omega)).trans hB1
            have hB2 : h4.1 (kb + 2) = xa_a 2 dg := (oh4 _ (by omega)).trans hB2
            have hH0 : h4.1 kh = xa_o 5 [xa_r (kh + 1), xa_r (kh + 2), xa_r (kh + 3), xa_i ((pc : Nat) : Int)] := (oh4 _ (by omega)).trans hH0
            have hH1 : h4.1 (kh + 1) = xa_a 240 mv := (oh4 _ (by omega)).trans hH1
            have hH2 : h4.1 (kh + 2) = xa_a 4 le := (oh4 _ (by omega)).trans hH2
            have hH3 : h4.1 (kh + 3) = xa_a 120 fi := (oh4 _ (by omega)).trans hH3
            have hn : h4.2 = h.2 := nh4.trans hn
            have fr : ∀ i, (i < q ∨ q + 7 ≤ i) → h4.1 i = h.1 i := fun i hi => (oh4 i (by omega)).trans (fr i hi)
            refine xa_return (pc := 105) dX8_follow_105 rfl ?_
            have e8 : (0 : Int) = xa_b (m = len) := xa_bf (by omega)
            rw [e8] at hT0
            exact ⟨rfl, m, t, u, tu, lo, hm, htr, by first | (intro z; exfalso; omega) | exact fun _ => ht, harr, hok, ⟨hT0, hT1, hT2, hT3, by omega, by omega⟩, ⟨hS0, hS1, hS2, by omega, by omega⟩, by omega, fun i hi => (fr i hi).trans (fr0 i hi)⟩
          · skip
            refine xa_iconst (pc := 97) dX8_follow_97 ?_
            refine xa_goto (pc := 98) (tgt := 102) dX8_follow_98 (by decide) ?_
            refine xa_putw (pc := 102) [xa_r (q + 4), xa_r kb, xa_r (q + 1), xa_r (q + 2), xa_r (q + 3), xa_i ((m : Nat) : Int), xa_i 1] dX8_follow_102 flRX8_68 plX8_6 (by omega) (by omega) hT0 (Or.inr rfl) rfl (fun h5 nh5 ch5 oh5 => ?_)
            have hT0 : h5.1 q = xa_o 8 [xa_r (q + 4), xa_r kb, xa_r (q + 1), xa_r (q + 2), xa_r (q + 3), xa_i ((m : Nat) : Int), xa_i 1] := ch5
            have hT1 : h5.1 (q + 1) = xa_a 183 tu := (oh5 _ (by omega)).trans hT1
            have hT2 : h5.1 (q + 2) = xa_a 61 lo := (oh5 _ (by omega)).trans hT2
            have hT3 : h5.1 (q + 3) = xa_a 61 dr := (oh5 _ (by omega)).trans hT3
            have hS0 : h5.1 (q + 4) = xa_o 4 [xa_r kb, xa_r (q + 4 + 1), xa_r (q + 4 + 2), xa_i t.2.2.1, xa_i t.2.2.2] := (oh5 _ (by omega)).trans hS0
            have hS1 : h5.1 (q + 4 + 1) = xa_a 3 t.1 := (oh5 _ (by omega)).trans hS1
            have hS2 : h5.1 (q + 4 + 2) = xa_a 2 t.2.1 := (oh5 _ (by omega)).trans hS2
            have hB0 : h5.1 kb = xa_o 0 [xa_r (kb + 1), xa_r (kb + 2), xa_i ((pa : Nat) : Int), xa_i ((jo : Nat) : Int), xa_i wa, xa_i sr, xa_i pu, xa_i ri] := (oh5 _ (by omega)).trans hB0
            have hB1 : h5.1 (kb + 1) = xa_a 9 ld := (oh5 _ (by omega)).trans hB1
            have hB2 : h5.1 (kb + 2) = xa_a 2 dg := (oh5 _ (by omega)).trans hB2
            have hH0 : h5.1 kh = xa_o 5 [xa_r (kh + 1), xa_r (kh + 2), xa_r (kh + 3), xa_i ((pc : Nat) : Int)] := (oh5 _ (by omega)).trans hH0
            have hH1 : h5.1 (kh + 1) = xa_a 240 mv := (oh5 _ (by omega)).trans hH1
            have hH2 : h5.1 (kh + 2) = xa_a 4 le := (oh5 _ (by omega)).trans hH2
            have hH3 : h5.1 (kh + 3) = xa_a 120 fi := (oh5 _ (by omega)).trans hH3
            have hn : h5.2 = h.2 := nh5.trans hn
            have fr : ∀ i, (i < q ∨ q + 7 ≤ i) → h5.1 i = h.1 i := fun i hi => (oh5 i (by omega)).trans (fr i hi)
            refine xa_return (pc := 105) dX8_follow_105 rfl ?_
            have e8 : (1 : Int) = xa_b (m = len) := xa_bt (by omega)
            rw [e8] at hT0
            exact ⟨rfl, m, t, u, tu, lo, hm, htr, by first | (intro z; exfalso; omega) | exact fun _ => ht, harr, hok, ⟨hT0, hT1, hT2, hT3, by omega, by omega⟩, ⟨hS0, hS1, hS2, by omega, by omega⟩, by omega, fun i hi => (fr i hi).trans (fr0 i hi)⟩
        · skip
          exfalso; omega
theorem c_follow {G : xa_G} {h : xa_H} (q kb kh w : Nat) (tu lo dr ld dg mv le fi po sp : Nat → Int) (dn pa jo pc : Nat) (al wa sr pu ri tj tb : Int) (hkk : kb + 3 ≤ q) (hdis : kh + 4 ≤ q ∨ q + 7 ≤ kh) (hw : w ≤ 3) (hpa : pa ≤ 3) (hjo : jo ≤ 2) (hwa : xa_ok wa) (hsr : 0 ≤ sr ∧ sr ≤ 12) (hld : ∀ i, 0 ≤ ld i ∧ ld i ≤ 99) (hdg : ∀ i, 0 ≤ dg i ∧ dg i ≤ 120) (hmvb : ∀ i, 0 ≤ mv i ∧ mv i ≤ 18) (hle : ∀ i, 0 ≤ le i ∧ le i ≤ 60) (hpo : ∀ i, 0 ≤ po i ∧ po i ≤ 2) (hsp : ∀ i, -2 ≤ sp i ∧ sp i ≤ 12) (htj : tj = 0 ∨ tj = 1) (hT : xTr h q kb tu lo dr dn al) (hS : xS h (q + 4) kb po sp tj tb) (hB : xB h kb ld dg pa jo wa sr pu ri) (hH : xH h kh mv le fi pc)  : xa_M G mX8_follow [xa_r q, xa_r kh, xa_i ((w : Nat) : Int)] h 0 0 (fun r h' => r = none ∧ ∃ (m : Nat) (t : xSt) (u : Int) (tu lo : Nat → Int), m ≤ (le w).toNat ∧ sp_tr ld dg pa jo wa sr (fun n => sp_mvat mv ((w : Nat) : Int) ((n : Nat) : Int)) (xa_fl po 3 1, xa_fl sp 2 0, tj, 0) m = some (t, u) ∧ (m < (le w).toNat → sp_make dg pa jo wa sr t (sp_mvat mv ((w : Nat) : Int) ((m : Nat) : Int)) = none) ∧ sp_arr (sp_tr ld dg pa jo wa sr (fun n => sp_mvat mv ((w : Nat) : Int) ((n : Nat) : Int)) (xa_fl po 3 1, xa_fl sp 2 0, tj, 0)) ld dg pa jo tu lo m ∧ sp_ok t ∧ xTr h' q kb tu lo dr m (xa_b (m = (le w).toNat)) ∧ xS h' (q + 4) kb t.1 t.2.1 t.2.2.1 t.2.2.2 ∧ h'.2 = h.2 ∧ ∀ i, (i < q ∨ q + 7 ≤ i) → h'.1 i = h.1 i) := by
  refine xa_enter (by decide +kernel) (Nat.le_of_ble_eq_true rfl) ?_
  refine xa_locals (ls' := [some (xa_r q), some (xa_r kh), some (xa_i ((w : Nat) : Int)), none, none, none]) rfl ?_
  have hn : h.2 = h.2 := rfl
  have fr : ∀ i, (i < q ∨ q + 7 ≤ i) → h.1 i = h.1 i := fun _ _ => rfl
  obtain ⟨hT0, hT1, hT2, hT3, hTq, hTn⟩ := hT
  obtain ⟨hS0, hS1, hS2, hSk, hSn⟩ := hS
  obtain ⟨hB0, hB1, hB2, hBk, hBn⟩ := hB
  obtain ⟨hH0, hH1, hH2, hH3, hHk, hHn⟩ := hH
  refine xa_aload_n (pc := 0) dX8_follow_0 rfl ?_
  refine xa_getfield (pc := 1) dX8_follow_1 flRX8_30 (by omega) (by omega) hT0 rfl ?_
  refine xa_callV (pc := 4) (as := []) (rest := []) dX8_follow_4 ⟨qX4_rest.1, qX4_rest.2.1, qX4_rest.2.2, by decide, by decide⟩ lkRX8_34 imX4_rest seX4_rest rfl rfl (by omega) (by omega) hS0 rfl (Nat.le_of_ble_eq_true rfl) (Nat.zero_le _) (Nat.zero_le _) (c_rest _ _ _ _ _ _ _ _ _ _ _ _ _ _ ⟨hS0, hS1, hS2, by omega, by omega⟩ ⟨hB0, hB1, hB2, by omega, by omega⟩ (by omega) hpa hjo) (fun r h' hq => ?_)
  obtain ⟨rfl, ⟨hS0, hS1, hS2, -, -⟩, hqn, hqf⟩ := hq
  have hT0 : h'.1 q = xa_o 8 [xa_r (q + 4), xa_r kb, xa_r (q + 1), xa_r (q + 2), xa_r (q + 3), xa_i ((dn : Nat) : Int), xa_i al] := (hqf _ (by omega)).trans hT0
  have hT1 : h'.1 (q + 1) = xa_a 183 tu := (hqf _ (by omega)).trans hT1
  have hT2 : h'.1 (q + 2) = xa_a 61 lo := (hqf _ (by omega)).trans hT2
  have hT3 : h'.1 (q + 3) = xa_a 61 dr := (hqf _ (by omega)).trans hT3
  have hB0 : h'.1 kb = xa_o 0 [xa_r (kb + 1), xa_r (kb + 2), xa_i ((pa : Nat) : Int), xa_i ((jo : Nat) : Int), xa_i wa, xa_i sr, xa_i pu, xa_i ri] := (hqf _ (by omega)).trans hB0
  have hB1 : h'.1 (kb + 1) = xa_a 9 ld := (hqf _ (by omega)).trans hB1
  have hB2 : h'.1 (kb + 2) = xa_a 2 dg := (hqf _ (by omega)).trans hB2
  have hH0 : h'.1 kh = xa_o 5 [xa_r (kh + 1), xa_r (kh + 2), xa_r (kh + 3), xa_i ((pc : Nat) : Int)] := (hqf _ (by omega)).trans hH0
  have hH1 : h'.1 (kh + 1) = xa_a 240 mv := (hqf _ (by omega)).trans hH1
  have hH2 : h'.1 (kh + 2) = xa_a 4 le := (hqf _ (by omega)).trans hH2
  have hH3 : h'.1 (kh + 3) = xa_a 120 fi := (hqf _ (by omega)).trans hH3
  have hn : h'.2 = h.2 := hqn.trans hn
  have fr : ∀ i, (i < q ∨ q + 7 ≤ i) → h'.1 i = h.1 i := fun i hi => (hqf i (by omega)).trans (fr i hi)
  have hpo := xa_fl_b (n := 3) (x := 1) hpo ⟨by decide, by decide⟩
  have hsp := xa_fl_b (n := 2) (x := 0) hsp ⟨by decide, by decide⟩
  refine xa_iconst (pc := 7) dX8_follow_7 ?_
  refine xa_istoren (pc := 8) [some (xa_r q), some (xa_r kh), some (xa_i ((w : Nat) : Int)), some (xa_i 0), none, none] dX8_follow_8 (by decide) (Nat.le_of_ble_eq_true rfl) rfl rfl ?_
  refine xa_aload_n (pc := 9) dX8_follow_9 rfl ?_
  refine xa_iconst (pc := 10) dX8_follow_10 ?_
  refine xa_putw (pc := 11) [xa_r (q + 4), xa_r kb, xa_r (q + 1), xa_r (q + 2), xa_r (q + 3), xa_i 0, xa_i al] dX8_follow_11 flRX8_37 plX8_5 (by omega) (by omega) hT0 trivial rfl (fun h1 nh1 ch1 oh1 => ?_)
  have hT0 : h1.1 q = xa_o 8 [xa_r (q + 4), xa_r kb, xa_r (q + 1), xa_r (q + 2), xa_r (q + 3), xa_i 0, xa_i al] := ch1
  have hT1 : h1.1 (q + 1) = xa_a 183 tu := (oh1 _ (by omega)).trans hT1
  have hT2 : h1.1 (q + 2) = xa_a 61 lo := (oh1 _ (by omega)).trans hT2
  have hT3 : h1.1 (q + 3) = xa_a 61 dr := (oh1 _ (by omega)).trans hT3
  have hS0 : h1.1 (q + 4) = xa_o 4 [xa_r kb, xa_r (q + 4 + 1), xa_r (q + 4 + 2), xa_i tj, xa_i 0] := (oh1 _ (by omega)).trans hS0
  have hS1 : h1.1 (q + 4 + 1) = xa_a 3 (xa_fl po 3 1) := (oh1 _ (by omega)).trans hS1
  have hS2 : h1.1 (q + 4 + 2) = xa_a 2 (xa_fl sp 2 0) := (oh1 _ (by omega)).trans hS2
  have hB0 : h1.1 kb = xa_o 0 [xa_r (kb + 1), xa_r (kb + 2), xa_i ((pa : Nat) : Int), xa_i ((jo : Nat) : Int), xa_i wa, xa_i sr, xa_i pu, xa_i ri] := (oh1 _ (by omega)).trans hB0
  have hB1 : h1.1 (kb + 1) = xa_a 9 ld := (oh1 _ (by omega)).trans hB1
  have hB2 : h1.1 (kb + 2) = xa_a 2 dg := (oh1 _ (by omega)).trans hB2
  have hH0 : h1.1 kh = xa_o 5 [xa_r (kh + 1), xa_r (kh + 2), xa_r (kh + 3), xa_i ((pc : Nat) : Int)] := (oh1 _ (by omega)).trans hH0
  have hH1 : h1.1 (kh + 1) = xa_a 240 mv := (oh1 _ (by omega)).trans hH1
  have hH2 : h1.1 (kh + 2) = xa_a 4 le := (oh1 _ (by omega)).trans hH2
  have hH3 : h1.1 (kh + 3) = xa_a 120 fi := (oh1 _ (by omega)).trans hH3
  have hn : h1.2 = h.2 := nh1.trans hn
  have fr : ∀ i, (i < q ∨ q + 7 ≤ i) → h1.1 i = h.1 i := fun i hi => (oh1 i (by omega)).trans (fr i hi)
  refine xa_aload_n (pc := 14) dX8_follow_14 rfl ?_
  refine xa_iload_n (pc := 15) dX8_follow_15 rfl ?_
  refine xa_callV (pc := 16) (as := [xa_i 0]) (rest := []) dX8_follow_16 ⟨qX8_note.1, qX8_note.2.1, qX8_note.2.2, by decide, by decide⟩ lkRX8_41 imX8_note seX8_note rfl rfl (by omega) (by omega) hT0 rfl (Nat.le_of_ble_eq_true rfl) (Nat.zero_le _) (Nat.zero_le _) (c_note _ _ _ _ _ 0 _ _ _ _ _ _ _ _ _ _ _ _ _ _ (by omega) ⟨hT0, hT1, hT2, hT3, by omega, by omega⟩ ⟨hS0, hS1, hS2, by omega, by omega⟩ ⟨hB0, hB1, hB2, by omega, by omega⟩ (by omega) hpa hjo hsp hpo) (fun r h' hq => ?_)
  obtain ⟨rfl, ⟨-, hT1, hT2, -, -, -⟩, hqn, hqf⟩ := hq
  have hT0 : h'.1 q = xa_o 8 [xa_r (q + 4), xa_r kb, xa_r (q + 1), xa_r (q + 2), xa_r (q + 3), xa_i 0, xa_i al] := (hqf _ (by omega)).trans hT0
  have hT3 : h'.1 (q + 3) = xa_a 61 dr := (hqf _ (by omega)).trans hT3
  have hS0 : h'.1 (q + 4) = xa_o 4 [xa_r kb, xa_r (q + 4 + 1), xa_r (q + 4 + 2), xa_i tj, xa_i 0] := (hqf _ (by omega)).trans hS0
  have hS1 : h'.1 (q + 4 + 1) = xa_a 3 (xa_fl po 3 1) := (hqf _ (by omega)).trans hS1
  have hS2 : h'.1 (q + 4 + 2) = xa_a 2 (xa_fl sp 2 0) := (hqf _ (by omega)).trans hS2
  have hB0 : h'.1 kb = xa_o 0 [xa_r (kb + 1), xa_r (kb + 2), xa_i ((pa : Nat) : Int), xa_i ((jo : Nat) : Int), xa_i wa, xa_i sr, xa_i pu, xa_i ri] := (hqf _ (by omega)).trans hB0
  have hB1 : h'.1 (kb + 1) = xa_a 9 ld := (hqf _ (by omega)).trans hB1
  have hB2 : h'.1 (kb + 2) = xa_a 2 dg := (hqf _ (by omega)).trans hB2
  have hH0 : h'.1 kh = xa_o 5 [xa_r (kh + 1), xa_r (kh + 2), xa_r (kh + 3), xa_i ((pc : Nat) : Int)] := (hqf _ (by omega)).trans hH0
  have hH1 : h'.1 (kh + 1) = xa_a 240 mv := (hqf _ (by omega)).trans hH1
  have hH2 : h'.1 (kh + 2) = xa_a 4 le := (hqf _ (by omega)).trans hH2
  have hH3 : h'.1 (kh + 3) = xa_a 120 fi := (hqf _ (by omega)).trans hH3
  have hn : h'.2 = h.2 := hqn.trans hn
  have fr : ∀ i, (i < q ∨ q + 7 ≤ i) → h'.1 i = h.1 i := fun i hi => (hqf i (by omega)).trans (fr i hi)
  refine xa_aload_n (pc := 19) dX8_follow_19 rfl ?_
  refine xa_iload_n (pc := 20) dX8_follow_20 rfl ?_
  refine xa_callV (pc := 21) (as := [xa_i ((w : Nat) : Int)]) (rest := []) dX8_follow_21 ⟨qX5_lengthOf.1, qX5_lengthOf.2.1, qX5_lengthOf.2.2, by decide, by decide⟩ lkRX8_45 imX5_lengthOf seX5_lengthOf rfl rfl (by omega) (by omega) hH0 rfl (Nat.le_of_ble_eq_true rfl) (Nat.zero_le _) (Nat.zero_le _) (c_lengthOf _ _ _ _ _ _ ⟨by omega, by omega⟩ ⟨hH0, hH1, hH2, hH3, by omega, by omega⟩) (fun r h' hq => ?_)
  obtain ⟨rfl, hq⟩ := hq
  have hq := hq.symm
  subst hq
  have hlw := hle w
  have e9 : sp_len le ((w : Nat) : Int) = le w := if_pos (by omega)
  refine xa_bipush (pc := 24) dX8_follow_24 rfl ?_
  refine xa_callS (pc := 26) (as := [xa_i (sp_len le ((w : Nat) : Int)), xa_i 60]) (rest := []) dX8_follow_26 ⟨qJ9_min_7cf53.1, qJ9_min_7cf53.2.1, qJ9_min_7cf53.2.2, by decide, by decide⟩ lkRX8_51 smJ9_min_7cf53 rfl rfl (Nat.le_of_ble_eq_true rfl) (Nat.zero_le _) (Nat.zero_le _) (c_min _ _ ⟨by omega, by omega⟩ (by decide)) (fun r h' hq => ?_)
  obtain ⟨rfl, hq⟩ := hq
  have hq := hq.symm
  subst hq
  refine xa_top (y := (((le w).toNat : Nat) : Int)) (by omega) ?_
  refine xa_istorew (pc := 29) [some (xa_r q), some (xa_r kh), some (xa_i ((w : Nat) : Int)), some (xa_i 0), some (xa_i (((le w).toNat : Nat) : Int)), none] dX8_follow_29 (by decide) (Nat.le_of_ble_eq_true rfl) rfl rfl ?_
  refine xa_iconst (pc := 31) dX8_follow_31 ?_
  refine xa_istorew (pc := 32) [some (xa_r q), some (xa_r kh), some (xa_i ((w : Nat) : Int)), some (xa_i 0), some (xa_i (((le w).toNat : Nat) : Int)), some (xa_i 0)] dX8_follow_32 (by decide) (Nat.le_of_ble_eq_true rfl) rfl rfl ?_
  exact c_follow_loop (t0 := (xa_fl po 3 1, xa_fl sp 2 0, tj, 0)) (len := (le w).toNat) hTq hBk hHk hkk hdis hw (by omega) hpa hjo hwa hsr hld hdg hmvb ((le w).toNat + 1) 0 (xa_fl po 3 1, xa_fl sp 2 0, tj, 0) 0 _ _ _ (by omega) (Nat.zero_le _) rfl (sp_arr_0 rfl) ⟨hpo, hsp, htj, sp_z120⟩ (by omega) (by omega) (by omega) hT0 hT1 hT2 hT3 hS0 hS1 hS2 hB0 hB1 hB2 hH0 hH1 hH2 hH3 fr
