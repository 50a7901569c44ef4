/-! Trace -/
def xTr (h : xa_H) (q kb : Nat) (tu lo dr : Nat → Int) (dn : Nat) (al : Int) : Prop := h.1 q = xa_o 8 [xa_r (q + 4), xa_r kb, xa_r (q + 1), xa_r (q + 2), xa_r (q + 3), xa_i ((dn : Nat) : Int), xa_i al] ∧ h.1 (q + 1) = xa_a 183 tu ∧ h.1 (q + 2) = xa_a 61 lo ∧ h.1 (q + 3) = xa_a 61 dr ∧ 2 ≤ q ∧ q + 6 < h.2
def sp_drs (pu : Int) (lo : Nat → Int) : Nat → Int
  | 0 => 0
  | t + 1 => sp_drs pu lo t + pu.tdiv (lo (t + 1))
def sp_drf (dr : Nat → Int) (pu : Int) (lo : Nat → Int) (m : Nat) : Nat → Int := fun i => if 1 ≤ i ∧ i ≤ m then sp_drs pu lo i else dr i
theorem sp_drf_0 (dr : Nat → Int) (pu : Int) (lo : Nat → Int) : sp_drf dr pu lo 0 = dr := by
  funext i
  unfold sp_drf
  rw [if_neg (by omega)]
theorem sp_drf_s (dr : Nat → Int) (pu : Int) (lo : Nat → Int) (m : Nat) : xa_upf (sp_drf dr pu lo m) (m + 1) (sp_drs pu lo (m + 1)) = sp_drf dr pu lo (m + 1) := by
  funext i
  unfold xa_upf sp_drf
  by_cases h : i = m + 1
  · subst h
    rw [if_pos rfl, if_pos (by omega)]
  · rw [if_neg h]
    by_cases h2 : 1 ≤ i ∧ i ≤ m
    · rw [if_pos h2, if_pos (by omega)]
    · rw [if_neg h2, if_neg (by omega)]
def sp_tof (tu dr : Nat → Int) (t p : Int) : Int := tu (t * 3 + p).toNat + dr t.toNat
def sp_fok (fi tu dr : Nat → Int) (dn : Nat) (turn : Int) (m : Nat) : Bool := decide (sp_pic fi ((m : Nat) : Int) 0 ≤ (dn : Int)) && decide (sp_off (turn + sp_tof tu dr (sp_pic fi ((m : Nat) : Int) 0) (sp_pic fi ((m : Nat) : Int) 1)) (sp_pic fi ((m : Nat) : Int) 2) ≤ sp_pic fi ((m : Nat) : Int) 3)
def sp_film (fi tu dr : Nat → Int) (dn : Nat) (turn : Int) : Nat → Bool
  | 0 => true
  | m + 1 => sp_film fi tu dr dn turn m && sp_fok fi tu dr dn turn m
theorem sp_film_no {fi tu dr : Nat → Int} {dn : Nat} {turn : Int} {m : Nat} (h : sp_fok fi tu dr dn turn m = false) : ∀ n, m < n → ¬ sp_film fi tu dr dn turn n = true := by
  intro n
  induction n with
  | zero => intro hn; omega
  | succ n ih =>
    intro hn
    show ¬ (sp_film fi tu dr dn turn n && sp_fok fi tu dr dn turn n) = true
    by_cases e : m = n
    · subst e
      rw [h]
      simp
    · have := ih (by omega)
      simp [this]
/-- pictures such as are told -/
def sp_fiok (fi : Nat → Int) (pc : Nat) : Prop := ∀ m : Nat, m < pc → (0 ≤ sp_pic fi ((m : Nat) : Int) 0 ∧ sp_pic fi ((m : Nat) : Int) 0 ≤ 60) ∧ (0 ≤ sp_pic fi ((m : Nat) : Int) 1 ∧ sp_pic fi ((m : Nat) : Int) 1 ≤ 2) ∧ (0 ≤ sp_pic fi ((m : Nat) : Int) 2 ∧ sp_pic fi ((m : Nat) : Int) 2 ≤ 359) ∧ (0 ≤ sp_pic fi ((m : Nat) : Int) 3 ∧ sp_pic fi ((m : Nat) : Int) 3 ≤ 90)
theorem sp_off_b (t o : Int) : 0 ≤ sp_off t o ∧ sp_off t o ≤ 180 := by
  unfold sp_off
  omega

theorem c_drift_loop {G : xa_G} {h0 : xa_H} {q kb : Nat} {tu lo dr : Nat → Int} {dn : Nat} {al pu : Int} (hq : 2 ≤ q) (hdn : dn ≤ 60) (hlo : ∀ i, 0 ≤ lo i ∧ lo i ≤ 297) (hpu : -9999 ≤ pu ∧ pu ≤ 9999) : ∀ (d : Nat) (m : Nat) (h : xa_H), dn - m < d → (m ≤ dn) → (h.2 = h0.2) → (q + 6 < h.2) → (h.1 q = xa_o 8 [xa_r (q + 4), xa_r kb, xa_r (q + 1), xa_r (q + 2), xa_r (q + 3), xa_i ((dn : Nat) : Int), xa_i al]) → (h.1 (q + 1) = xa_a 183 tu) → (h.1 (q + 2) = xa_a 61 lo) → (h.1 (q + 3) = xa_a 61 (sp_drf dr pu lo m)) → (∀ i, (i < q ∨ q + 4 ≤ i) → h.1 i = h0.1 i) → xa_W G mX8_drift (xa_Z G (fun r h' => r = none ∧ xTr h' q kb tu lo (sp_drf dr pu lo dn) dn al ∧ h'.2 = h0.2 ∧ ∀ i, (i < q ∨ q + 4 ≤ i) → h'.1 i = h0.1 i)) 4 [some (xa_r q), some (xa_i pu), some (xa_i (sp_drs pu lo m)), some (xa_i ((m + 1 : Nat) : Int))] [] h 0 0 := by
  intro d
  induction d with
  | zero => intros; exfalso; omega
  | succ d ih =>
    intro m h hd hm hn0 hqn hT0 hT1 hT2 hT3 fr0
    have hn : h.2 = h.2 := rfl
    have fr : ∀ i, (i < q ∨ q + 4 ≤ i) → h.1 i = h.1 i := fun _ _ => rfl
    refine xa_iload_n (pc := 4) dX8_drift_4 rfl ?_
    refine xa_aload_n (pc := 5) dX8_drift_5 rfl ?_
    refine xa_getfield (pc := 6) dX8_drift_6 flRX8_37 (by omega) (by omega) hT0 rfl ?_
    refine xa_icmp_gt (pc := 9) (tgt := 56) dX8_drift_9 (by decide) ⟨by omega, by omega⟩ ⟨by omega, by omega⟩ (fun c_9 => ?_) (fun c_9 => ?_)
    · skip
      refine xa_return (pc := 56) dX8_drift_56 rfl ?_
      have hme : m = dn := by omega
      subst hme
      exact ⟨rfl, ⟨hT0, hT1, hT2, hT3, by omega, by omega⟩, by omega, fr0⟩
    · skip
      refine xa_iload_n (pc := 12) dX8_drift_12 rfl ?_
      refine xa_aload_n (pc := 13) dX8_drift_13 rfl ?_
      refine xa_getfield (pc := 14) dX8_drift_14 flRX8_18 (by omega) (by omega) hT0 rfl ?_
      refine xa_alen (pc := 17) dX8_drift_17 (by omega) hT3 ?_
      refine xa_top (y := 61) rfl ?_
      refine xa_icmp_ge (pc := 18) (tgt := 56) dX8_drift_18 (by decide) ⟨by omega, by omega⟩ (by decide) (fun c_18 => ?_) (fun c_18 => ?_)
      · skip
        exfalso; omega
      · skip
        refine xa_iload_n (pc := 21) dX8_drift_21 rfl ?_
        refine xa_aload_n (pc := 22) dX8_drift_22 rfl ?_
        refine xa_getfield (pc := 23) dX8_drift_23 flRX8_15 (by omega) (by omega) hT0 rfl ?_
        refine xa_alen (pc := 26) dX8_drift_26 (by omega) hT2 ?_
        refine xa_top (y := 61) rfl ?_
        refine xa_icmp_ge (pc := 27) (tgt := 56) dX8_drift_27 (by decide) ⟨by omega, by omega⟩ (by decide) (fun c_27 => ?_) (fun c_27 => ?_)
        · skip
          exfalso; omega
        · skip
          refine xa_iload_n (pc := 30) dX8_drift_30 rfl ?_
          refine xa_iload_n (pc := 31) dX8_drift_31 rfl ?_
          refine xa_aload_n (pc := 32) dX8_drift_32 rfl ?_
          refine xa_getfield (pc := 33) dX8_drift_33 flRX8_15 (by omega) (by omega) hT0 rfl ?_
          refine xa_iload_n (pc := 36) dX8_drift_36 rfl ?_
          refine xa_ialdw (pc := 37) (m + 1) dX8_drift_37 (by omega) hT2 (by omega) (by omega) (by omega) ?_
          have b_37 := hlo ((m + 1))
          refine xa_callS (pc := 38) (as := [xa_i pu, xa_i (lo (m + 1))]) (rest := [xa_i (sp_drs pu lo m)]) dX8_drift_38 ⟨qX9_cut.1, qX9_cut.2.1, qX9_cut.2.2, by decide, by decide⟩ lkRX8_83 smX9_cut rfl rfl (Nat.le_of_ble_eq_true rfl) (Nat.zero_le _) (Nat.zero_le _) (c_cut _ _ ⟨by omega, by omega⟩ ⟨by omega, by omega⟩) (fun r h' hq => ?_)
          obtain ⟨rfl, hq⟩ := hq
          have hq := hq.symm
          subst hq
          refine xa_iadd (pc := 41) dX8_drift_41 ?_
          refine xa_istoren (pc := 42) [some (xa_r q), some (xa_i pu), some (xa_i ((sp_drs pu lo m) + (pu.tdiv (lo (m + 1))))), some (xa_i ((m + 1 : Nat) : Int))] dX8_drift_42 (by decide) (Nat.le_of_ble_eq_true rfl) rfl rfl ?_
          refine xa_aload_n (pc := 43) dX8_drift_43 rfl ?_
          refine xa_getfield (pc := 44) dX8_drift_44 flRX8_18 (by omega) (by omega) hT0 rfl ?_
          refine xa_iload_n (pc := 47) dX8_drift_47 rfl ?_
          refine xa_iload_n (pc := 48) dX8_drift_48 rfl ?_
          refine xa_iastw (pc := 49) (m + 1) dX8_drift_49 (by omega) (by omega) hT3 (by omega) (by omega) (by omega) (fun h1 nh1 ch1 oh1 => ?_)
          have hT3 : h1.1 (q + 3) = xa_a 61 (xa_upf (sp_drf dr pu lo m) (m + 1) ((sp_drs pu lo m) + (pu.tdiv (lo (m + 1))))) := ch1
          have hT0 : h1.1 q = xa_o 8 [xa_r (q + 4), xa_r kb, xa_r (q + 1), xa_r (q + 2), xa_r (q + 3), xa_i ((dn : Nat) : Int), xa_i al] := (oh1 _ (by omega)).trans hT0
          have hT1 : h1.1 (q + 1) = xa_a 183 tu := (oh1 _ (by omega)).trans hT1
          have hT2 : h1.1 (q + 2) = xa_a 61 lo := (oh1 _ (by omega)).trans hT2
          have hn : h1.2 = h.2 := nh1.trans hn
          have fr : ∀ i, (i < q ∨ q + 4 ≤ i) → h1.1 i = h.1 i := fun i hi => (oh1 i (by omega)).trans (fr i hi)
          refine xa_iincw (pc := 50) (y := ((m + 1 : Nat) : Int) + 1) [some (xa_r q), some (xa_i pu), some (xa_i ((sp_drs pu lo m) + (pu.tdiv (lo (m + 1))))), some (xa_i (((m + 1 : Nat) : Int) + 1))] dX8_drift_50 (by decide) rfl rfl (by omega) rfl ?_
          refine xa_goto (pc := 53) (tgt := 4) dX8_drift_53 (by decide) ?_
          exact ih (m + 1) _ (by omega) (by omega) (by omega) (by omega) hT0 hT1 hT2 (by rw [hT3]; exact congrArg _ (sp_drf_s dr pu lo m)) (fun i hi => (fr i hi).trans (fr0 i hi))
theorem c_drift {G : xa_G} {h : xa_H} (q kb : Nat) (tu lo dr : Nat → Int) (dn : Nat) (al : Int) (pu : Int) (hdn : dn ≤ 60) (hlo : ∀ i, 0 ≤ lo i ∧ lo i ≤ 297) (hpu : -9999 ≤ pu ∧ pu ≤ 9999) (hT : xTr h q kb tu lo dr dn al)  : xa_M G mX8_drift [xa_r q, xa_i pu] h 0 0 (fun r h' => r = none ∧ xTr h' q kb tu lo (sp_drf dr pu lo dn) dn al ∧ h'.2 = h.2 ∧ ∀ i, (i < q ∨ q + 4 ≤ i) → h'.1 i = h.1 i) := by
  refine xa_enter (by decide +kernel) (Nat.le_of_ble_eq_true rfl) ?_
  refine xa_locals (ls' := [some (xa_r q), some (xa_i pu), none, none]) rfl ?_
  obtain ⟨hT0, hT1, hT2, hT3, hTq, hTn⟩ := hT
  refine xa_iconst (pc := 0) dX8_drift_0 ?_
  refine xa_istoren (pc := 1) [some (xa_r q), some (xa_i pu), some (xa_i 0), none] dX8_drift_1 (by decide) (Nat.le_of_ble_eq_true rfl) rfl rfl ?_
  refine xa_iconst (pc := 2) dX8_drift_2 ?_
  refine xa_istoren (pc := 3) [some (xa_r q), some (xa_i pu), some (xa_i 0), some (xa_i 1)] dX8_drift_3 (by decide) (Nat.le_of_ble_eq_true rfl) rfl rfl ?_
  exact c_drift_loop hTq hdn hlo hpu (dn + 1) 0 h (by omega) (by omega) rfl hTn hT0 hT1 hT2 (by rw [sp_drf_0]; exact hT3) (fun _ _ => rfl)
theorem c_turnOf {G : xa_G} {h : xa_H} (q kb : Nat) (tu lo dr : Nat → Int) (dn : Nat) (al : Int) (t p : Int) (ht : 0 ≤ t ∧ t ≤ 60) (hp : 0 ≤ p ∧ p ≤ 2) (hT : xTr h q kb tu lo dr dn al)  : xa_M G mX8_turnOf [xa_r q, xa_i t, xa_i p] h 0 0 (fun r h' => r = some (xa_i (sp_tof tu dr t p)) ∧ h' = h) := by
  refine xa_enter (by decide +kernel) (Nat.le_of_ble_eq_true rfl) ?_
  refine xa_locals (ls' := [some (xa_r q), some (xa_i t), some (xa_i p), none]) rfl ?_
  obtain ⟨hT0, hT1, hT2, hT3, hTq, hTn⟩ := hT
  refine xa_iload_n (pc := 0) dX8_turnOf_0 rfl ?_
  refine xa_iconst (pc := 1) dX8_turnOf_1 ?_
  refine xa_imul (pc := 2) dX8_turnOf_2 ?_
  refine xa_iload_n (pc := 3) dX8_turnOf_3 rfl ?_
  refine xa_iadd (pc := 4) dX8_turnOf_4 ?_
  refine xa_istoren (pc := 5) [some (xa_r q), some (xa_i t), some (xa_i p), some (xa_i ((t * 3) + p))] dX8_turnOf_5 (by decide) (Nat.le_of_ble_eq_true rfl) rfl rfl ?_
  refine xa_iload_n (pc := 6) dX8_turnOf_6 rfl ?_
  refine xa_if_lt (pc := 7) (tgt := 48) dX8_turnOf_7 (by decide) ⟨by omega, by omega⟩ (fun c_7 => ?_) (fun c_7 => ?_)
  · skip
    exfalso; omega
  · skip
    refine xa_iload_n (pc := 10) dX8_turnOf_10 rfl ?_
    refine xa_aload_n (pc := 11) dX8_turnOf_11 rfl ?_
    refine xa_getfield (pc := 12) dX8_turnOf_12 flRX8_18 (by omega) (by omega) hT0 rfl ?_
    refine xa_alen (pc := 15) dX8_turnOf_15 (by omega) hT3 ?_
    refine xa_top (y := 61) rfl ?_
    refine xa_icmp_ge (pc := 16) (tgt := 48) dX8_turnOf_16 (by decide) ⟨by omega, by omega⟩ (by decide) (fun c_16 => ?_) (fun c_16 => ?_)
    · skip
      exfalso; omega
    · skip
      refine xa_iload_n (pc := 19) dX8_turnOf_19 rfl ?_
      refine xa_if_lt (pc := 20) (tgt := 48) dX8_turnOf_20 (by decide) ⟨by omega, by omega⟩ (fun c_20 => ?_) (fun c_20 => ?_)
      · skip
        exfalso; omega
      · skip
        refine xa_iload_n (pc := 23) dX8_turnOf_23 rfl ?_
        refine xa_aload_n (pc := 24) dX8_turnOf_24 rfl ?_
        refine xa_getfield (pc := 25) dX8_turnOf_25 flRX8_9 (by omega) (by omega) hT0 rfl ?_
        refine xa_alen (pc := 28) dX8_turnOf_28 (by omega) hT1 ?_
        refine xa_top (y := 183) rfl ?_
        refine xa_icmp_ge (pc := 29) (tgt := 48) dX8_turnOf_29 (by decide) ⟨by omega, by omega⟩ (by decide) (fun c_29 => ?_) (fun c_29 => ?_)
        · skip
          exfalso; omega
        · skip
          refine xa_aload_n (pc := 32) dX8_turnOf_32 rfl ?_
          refine xa_getfield (pc := 33) dX8_turnOf_33 flRX8_9 (by omega) (by omega) hT0 rfl ?_
          refine xa_iload_n (pc := 36) dX8_turnOf_36 rfl ?_
          refine xa_ialdw (pc := 37) (((t * 3) + p).toNat) dX8_turnOf_37 (by omega) hT1 (by omega) (by omega) rfl ?_
          refine xa_aload_n (pc := 38) dX8_turnOf_38 rfl ?_
          refine xa_getfield (pc := 39) dX8_turnOf_39 flRX8_18 (by omega) (by omega) hT0 rfl ?_
          refine xa_iload_n (pc := 42) dX8_turnOf_42 rfl ?_
          refine xa_ialdw (pc := 43) t.toNat dX8_turnOf_43 (by omega) hT3 (by omega) (by omega) rfl ?_
          refine xa_iadd (pc := 44) dX8_turnOf_44 ?_
          refine xa_goto (pc := 45) (tgt := 49) dX8_turnOf_45 (by decide) ?_
          refine xa_ireturn (pc := 49) dX8_turnOf_49 rfl trivial ?_
          exact ⟨congrArg (fun z => some (xa_i z)) (show (tu (((t * 3) + p).toNat)) + (dr t.toNat) = sp_tof tu dr t p by rfl), rfl⟩
theorem c_closes {G : xa_G} {h : xa_H} (q kb : Nat) (tu lo dr : Nat → Int) (dn : Nat) (al : Int) (po sp : Nat → Int) (tj tb : Int) (ld dg : Nat → Int) (pa jo : Nat) (wa sr pu ri : Int) (hal : al = 0 ∨ al = 1) (hT : xTr h q kb tu lo dr dn al) (hS : xS h (q + 4) kb po sp tj tb) (hB : xB h kb ld dg pa jo wa sr pu ri) (hkk : kb + 3 ≤ q) (hpa : pa ≤ 3) (hjo : jo ≤ 2) (hsp : ∀ i, -2 ≤ sp i ∧ sp i ≤ 12) (hpo : ∀ i, 0 ≤ po i ∧ po i ≤ 2)  : xa_M G mX8_closes [xa_r q] h 0 0 (fun r h' => r = some (xa_i (xa_b (al = 1 ∧ sp_restB po sp pa jo = true))) ∧ h' = h) := by
  refine xa_enter (by decide +kernel) (Nat.le_of_ble_eq_true rfl) ?_
  refine xa_locals (ls' := [some (xa_r q)]) rfl ?_
  obtain ⟨hT0, hT1, hT2, hT3, hTq, hTn⟩ := hT
  obtain ⟨hS0, hS1, hS2, hSk, hSn⟩ := hS
  obtain ⟨hB0, hB1, hB2, hBk, hBn⟩ := hB
  refine xa_aload_n (pc := 0) dX8_closes_0 rfl ?_
  refine xa_getfield (pc := 1) dX8_closes_1 flRX8_68 (by omega) (by omega) hT0 rfl ?_
  refine xa_if_eq (pc := 4) (tgt := 21) dX8_closes_4 (by decide) ⟨by omega, by omega⟩ (fun c_4 => ?_) (fun c_4 => ?_)
  · skip
    refine xa_iconst (pc := 21) dX8_closes_21 ?_
    refine xa_ireturn (pc := 22) dX8_closes_22 rfl (Or.inl rfl) ?_
    exact ⟨congrArg (fun z => some (xa_i z)) (xa_bf (by (first | exact ⟨by omega, by assumption⟩ | (intro z; exact absurd z.1 (by omega)) | (intro z; exact absurd z.2 (by assumption))))), rfl⟩
  · skip
    refine xa_aload_n (pc := 7) dX8_closes_7 rfl ?_
    refine xa_getfield (pc := 8) dX8_closes_8 flRX8_30 (by omega) (by omega) hT0 rfl ?_
    refine xa_callV (pc := 11) (as := []) (rest := []) dX8_closes_11 ⟨qX4_isAtRest.1, qX4_isAtRest.2.1, qX4_isAtRest.2.2, by decide, by decide⟩ lkRX8_86 imX4_isAtRest seX4_isAtRest rfl rfl (by omega) (by omega) hS0 rfl (Nat.le_of_ble_eq_true rfl) (Nat.zero_le _) (Nat.zero_le _) (c_isAtRest _ _ _ _ _ _ _ _ _ _ _ _ _ _ ⟨hS0, hS1, hS2, by omega, by omega⟩ ⟨hB0, hB1, hB2, by omega, by omega⟩ (by omega) hpa hjo hsp hpo) (fun r h' hq => ?_)
    obtain ⟨rfl, hq⟩ := hq
    have hq := hq.symm
    subst hq
    refine xa_if_eq (pc := 14) (tgt := 21) dX8_closes_14 (by decide) xa_okb (fun c_14 => ?_) (fun c_14 => ?_)
    · have c_14 := xa_b0.mp c_14
      refine xa_iconst (pc := 21) dX8_closes_21 ?_
      refine xa_ireturn (pc := 22) dX8_closes_22 rfl (Or.inl rfl) ?_
      exact ⟨congrArg (fun z => some (xa_i z)) (xa_bf (by (first | exact ⟨by omega, by assumption⟩ | (intro z; exact absurd z.1 (by omega)) | (intro z; exact absurd z.2 (by assumption))))), rfl⟩
    · have c_14 := xa_b1.mp c_14
      refine xa_iconst (pc := 17) dX8_closes_17 ?_
      refine xa_goto (pc := 18) (tgt := 22) dX8_closes_18 (by decide) ?_
      refine xa_ireturn (pc := 22) dX8_closes_22 rfl (Or.inr rfl) ?_
      exact ⟨congrArg (fun z => some (xa_i z)) (xa_bt (by (first | exact ⟨by omega, by assumption⟩ | (intro z; exact absurd z.1 (by omega)) | (intro z; exact absurd z.2 (by assumption))))), rfl⟩
theorem c_isFilmed_loop {G : xa_G} {h : xa_H} {q kb kh : Nat} {tu lo dr mv le fi : Nat → Int} {dn pc : Nat} {al turn : Int} (hdn : dn ≤ 60) (hpc : pc ≤ 30) (hturn : 0 ≤ turn ∧ turn ≤ 359) (htu : ∀ i, -100000 ≤ tu i ∧ tu i ≤ 100000) (hdr : ∀ i, -1000000 ≤ dr i ∧ dr i ≤ 1000000) (hfi : sp_fiok fi pc) (hT : xTr h q kb tu lo dr dn al) (hH : xH h kh mv le fi pc) : ∀ (d : Nat) (m : Nat) (g4 g5 : Option xa_V), pc - m < d → (m ≤ pc) → (sp_film fi tu dr dn turn m = true) → xa_W G mX8_isFilmed (xa_Z G (fun r h' => r = some (xa_i (xa_b (sp_film fi tu dr dn turn pc = true))) ∧ h' = h)) 2 [some (xa_r q), some (xa_r kh), some (xa_i turn), some (xa_i ((m : Nat) : Int)), g4, g5] [] h 0 0 := by
  intro d
  induction d with
  | zero => intros; exfalso; omega
  | succ d ih =>
    intro m g4 g5 hd hm hf
    obtain ⟨hT0, hT1, hT2, hT3, hTq, hTn⟩ := hT
    obtain ⟨hH0, hH1, hH2, hH3, hHk, hHn⟩ := hH
    refine xa_iload_n (pc := 2) dX8_isFilmed_2 rfl ?_
    refine xa_aload_n (pc := 3) dX8_isFilmed_3 rfl ?_
    refine xa_getfield (pc := 4) dX8_isFilmed_4 flRX8_90 (by omega) (by omega) hH0 rfl ?_
    refine xa_icmp_ge (pc := 7) (tgt := 73) dX8_isFilmed_7 (by decide) ⟨by omega, by omega⟩ ⟨by omega, by omega⟩ (fun c_7 => ?_) (fun c_7 => ?_)
    · skip
      refine xa_iconst (pc := 73) dX8_isFilmed_73 ?_
      refine xa_ireturn (pc := 74) dX8_isFilmed_74 rfl (Or.inr rfl) ?_
      have hme : m = pc := by omega
      subst hme
      exact ⟨congrArg (fun z => some (xa_i z)) (xa_bt hf), rfl⟩
    · skip
      obtain ⟨w0, w1, w2, w3⟩ := hfi m (by omega)
      refine xa_aload_n (pc := 10) dX8_isFilmed_10 rfl ?_
      refine xa_iload_n (pc := 11) dX8_isFilmed_11 rfl ?_
      refine xa_iconst (pc := 12) dX8_isFilmed_12 ?_
      refine xa_callV (pc := 13) (as := [xa_i ((m : Nat) : Int), xa_i 0]) (rest := []) dX8_isFilmed_13 ⟨qX5_pictureOf.1, qX5_pictureOf.2.1, qX5_pictureOf.2.2, by decide, by decide⟩ lkRX8_93 imX5_pictureOf seX5_pictureOf rfl rfl (by omega) (by omega) hH0 rfl (Nat.le_of_ble_eq_true rfl) (Nat.zero_le _) (Nat.zero_le _) (c_pictureOf _ _ _ _ _ _ _ (by omega) (by omega) ⟨hH0, hH1, hH2, hH3, by omega, by omega⟩) (fun r h' hq => ?_)
      obtain ⟨rfl, hq⟩ := hq
      have hq := hq.symm
      subst hq
      refine xa_istorew (pc := 16) [some (xa_r q), some (xa_r kh), some (xa_i turn), some (xa_i ((m : Nat) : Int)), some (xa_i (sp_pic fi ((m : Nat) : Int) 0)), g5] dX8_isFilmed_16 (by decide) (Nat.le_of_ble_eq_true rfl) rfl rfl ?_
      refine xa_iload (pc := 18) dX8_isFilmed_18 rfl ?_
      refine xa_aload_n (pc := 20) dX8_isFilmed_20 rfl ?_
      refine xa_getfield (pc := 21) dX8_isFilmed_21 flRX8_37 (by omega) (by omega) hT0 rfl ?_
      refine xa_icmp_le (pc := 24) (tgt := 29) dX8_isFilmed_24 (by decide) ⟨by omega, by omega⟩ ⟨by omega, by omega⟩ (fun c_24 => ?_) (fun c_24 => ?_)
      · skip
        refine xa_iload_n (pc := 29) dX8_isFilmed_29 rfl ?_
        refine xa_aload_n (pc := 30) dX8_isFilmed_30 rfl ?_
        refine xa_iload (pc := 31) dX8_isFilmed_31 rfl ?_
        refine xa_aload_n (pc := 33) dX8_isFilmed_33 rfl ?_
        refine xa_iload_n (pc := 34) dX8_isFilmed_34 rfl ?_
        refine xa_iconst (pc := 35) dX8_isFilmed_35 ?_
        refine xa_callV (pc := 36) (as := [xa_i ((m : Nat) : Int), xa_i 1]) (rest := [xa_i (sp_pic fi ((m : Nat) : Int) 0), xa_r q, xa_i turn]) dX8_isFilmed_36 ⟨qX5_pictureOf.1, qX5_pictureOf.2.1, qX5_pictureOf.2.2, by decide, by decide⟩ lkRX8_93 imX5_pictureOf seX5_pictureOf rfl rfl (by omega) (by omega) hH0 rfl (Nat.le_of_ble_eq_true rfl) (Nat.zero_le _) (Nat.zero_le _) (c_pictureOf _ _ _ _ _ _ _ (by omega) (by omega) ⟨hH0, hH1, hH2, hH3, by omega, by omega⟩) (fun r h' hq => ?_)
        obtain ⟨rfl, hq⟩ := hq
        have hq := hq.symm
        subst hq
        have z1 := htu ((sp_pic fi ((m : Nat) : Int) 0) * 3 + sp_pic fi ((m : Nat) : Int) 1).toNat
        have z2 := hdr (sp_pic fi ((m : Nat) : Int) 0).toNat
        have z3 : sp_tof tu dr (sp_pic fi ((m : Nat) : Int) 0) (sp_pic fi ((m : Nat) : Int) 1) = tu ((sp_pic fi ((m : Nat) : Int) 0) * 3 + sp_pic fi ((m : Nat) : Int) 1).toNat + dr (sp_pic fi ((m : Nat) : Int) 0).toNat := rfl
        refine xa_callV (pc := 39) (as := [xa_i (sp_pic fi ((m : Nat) : Int) 0), xa_i (sp_pic fi ((m : Nat) : Int) 1)]) (rest := [xa_i turn]) dX8_isFilmed_39 ⟨qX8_turnOf.1, qX8_turnOf.2.1, qX8_turnOf.2.2, by decide, by decide⟩ lkRX8_96 imX8_turnOf seX8_turnOf rfl rfl (by omega) (by omega) hT0 rfl (Nat.le_of_ble_eq_true rfl) (Nat.zero_le _) (Nat.zero_le _) (c_turnOf _ _ _ _ _ _ _ _ _ (by omega) (by omega) ⟨hT0, hT1, hT2, hT3, by omega, by omega⟩) (fun r h' hq => ?_)
        obtain ⟨rfl, hq⟩ := hq
        have hq := hq.symm
        subst hq
        refine xa_iadd (pc := 42) dX8_isFilmed_42 ?_
        refine xa_istorew (pc := 43) [some (xa_r q), some (xa_r kh), some (xa_i turn), some (xa_i ((m : Nat) : Int)), some (xa_i (sp_pic fi ((m : Nat) : Int) 0)), some (xa_i (turn + (sp_tof tu dr (sp_pic fi ((m : Nat) : Int) 0) (sp_pic fi ((m : Nat) : Int) 1))))] dX8_isFilmed_43 (by decide) (Nat.le_of_ble_eq_true rfl) rfl rfl ?_
        refine xa_iload (pc := 45) dX8_isFilmed_45 rfl ?_
        refine xa_aload_n (pc := 47) dX8_isFilmed_47 rfl ?_
        refine xa_iload_n (pc := 48) dX8_isFilmed_48 rfl ?_
        refine xa_iconst (pc := 49) dX8_isFilmed_49 ?_
        refine xa_callV (pc := 50) (as := [xa_i ((m : Nat) : Int), xa_i 2]) (rest := [xa_i (turn + (sp_tof tu dr (sp_pic fi ((m : Nat) : Int) 0) (sp_pic fi ((m : Nat) : Int) 1)))]) dX8_isFilmed_50 ⟨qX5_pictureOf.1, qX5_pictureOf.2.1, qX5_pictureOf.2.2, by decide, by decide⟩ lkRX8_93 imX5_pictureOf seX5_pictureOf rfl rfl (by omega) (by omega) hH0 rfl (Nat.le_of_ble_eq_true rfl) (Nat.zero_le _) (Nat.zero_le _) (c_pictureOf _ _ _ _ _ _ _ (by omega) (by omega) ⟨hH0, hH1, hH2, hH3, by omega, by omega⟩) (fun r h' hq => ?_)
        obtain ⟨rfl, hq⟩ := hq
        have hq := hq.symm
        subst hq
        refine xa_callS (pc := 53) (as := [xa_i (turn + (sp_tof tu dr (sp_pic fi ((m : Nat) : Int) 0) (sp_pic fi ((m : Nat) : Int) 1))), xa_i (sp_pic fi ((m : Nat) : Int) 2)]) (rest := []) dX8_isFilmed_53 ⟨qX9_off.1, qX9_off.2.1, qX9_off.2.2, by decide, by decide⟩ lkRX8_99 smX9_off rfl rfl (Nat.le_of_ble_eq_true rfl) (Nat.zero_le _) (Nat.zero_le _) (c_off _ _ ⟨by omega, by omega⟩) (fun r h' hq => ?_)
        obtain ⟨rfl, hq⟩ := hq
        have hq := hq.symm
        subst hq
        have z4 := sp_off_b (turn + sp_tof tu dr (sp_pic fi ((m : Nat) : Int) 0) (sp_pic fi ((m : Nat) : Int) 1)) (sp_pic fi ((m : Nat) : Int) 2)
        refine xa_aload_n (pc := 56) dX8_isFilmed_56 rfl ?_
        refine xa_iload_n (pc := 57) dX8_isFilmed_57 rfl ?_
        refine xa_iconst (pc := 58) dX8_isFilmed_58 ?_
        refine xa_callV (pc := 59) (as := [xa_i ((m : Nat) : Int), xa_i 3]) (rest := [xa_i (sp_off (turn + (sp_tof tu dr (sp_pic fi ((m : Nat) : Int) 0) (sp_pic fi ((m : Nat) : Int) 1))) (sp_pic fi ((m : Nat) : Int) 2))]) dX8_isFilmed_59 ⟨qX5_pictureOf.1, qX5_pictureOf.2.1, qX5_pictureOf.2.2, by decide, by decide⟩ lkRX8_93 imX5_pictureOf seX5_pictureOf rfl rfl (by omega) (by omega) hH0 rfl (Nat.le_of_ble_eq_true rfl) (Nat.zero_le _) (Nat.zero_le _) (c_pictureOf _ _ _ _ _ _ _ (by omega) (by omega) ⟨hH0, hH1, hH2, hH3, by omega, by omega⟩) (fun r h' hq => ?_)
        obtain ⟨rfl, hq⟩ := hq
        have hq := hq.symm
        subst hq
        refine xa_icmp_le (pc := 62) (tgt := 67) dX8_isFilmed_62 (by decide) ⟨by omega, by omega⟩ ⟨by omega, by omega⟩ (fun c_62 => ?_) (fun c_62 => ?_)
        · skip
          refine xa_iincw (pc := 67) (y := ((m + 1 : Nat) : Int)) [some (xa_r q), some (xa_r kh), some (xa_i turn), some (xa_i ((m + 1 : Nat) : Int)), some (xa_i (sp_pic fi ((m : Nat) : Int) 0)), some (xa_i (turn + (sp_tof tu dr (sp_pic fi ((m : Nat) : Int) 0) (sp_pic fi ((m : Nat) : Int) 1))))] dX8_isFilmed_67 (by decide) rfl rfl (by omega) rfl ?_
          refine xa_goto (pc := 70) (tgt := 2) dX8_isFilmed_70 (by decide) ?_
          exact ih (m + 1) _ _ (by omega) (by omega) (by show (sp_film fi tu dr dn turn m && sp_fok fi tu dr dn turn m) = true; rw [hf]; unfold sp_fok; rw [decide_eq_true (by omega), decide_eq_true (by omega)]; rfl)
        · skip
          refine xa_iconst (pc := 65) dX8_isFilmed_65 ?_
          refine xa_ireturn (pc := 66) dX8_isFilmed_66 rfl (Or.inl rfl) ?_
          exact ⟨congrArg (fun z => some (xa_i z)) (xa_bf (sp_film_no (m := m) (by unfold sp_fok; rw [decide_eq_false (p := _ ≤ sp_pic fi ((m : Nat) : Int) 3) (by omega)]; simp) pc (by omega))), rfl⟩
      · skip
        refine xa_iconst (pc := 27) dX8_isFilmed_27 ?_
        refine xa_ireturn (pc := 28) dX8_isFilmed_28 rfl (Or.inl rfl) ?_
        exact ⟨congrArg (fun z => some (xa_i z)) (xa_bf (sp_film_no (m := m) (by unfold sp_fok; rw [decide_eq_false (by omega)]; rfl) pc (by omega))), rfl⟩
theorem c_isFilmed {G : xa_G} {h : xa_H} (q kb kh : Nat) (tu lo dr mv le fi : Nat → Int) (dn pc : Nat) (al turn : Int) (hdn : dn ≤ 60) (hpc : pc ≤ 30) (hturn : 0 ≤ turn ∧ turn ≤ 359) (htu : ∀ i, -100000 ≤ tu i ∧ tu i ≤ 100000) (hdr : ∀ i, -1000000 ≤ dr i ∧ dr i ≤ 1000000) (hfi : sp_fiok fi pc) (hT : xTr h q kb tu lo dr dn al) (hH : xH h kh mv le fi pc)  : xa_M G mX8_isFilmed [xa_r q, xa_r kh, xa_i turn] h 0 0 (fun r h' => r = some (xa_i (xa_b (sp_film fi tu dr dn turn pc = true))) ∧ h' = h) := by
  refine xa_enter (by decide +kernel) (Nat.le_of_ble_eq_true rfl) ?_
  refine xa_locals (ls' := [some (xa_r q), some (xa_r kh), some (xa_i turn), none, none, none]) rfl ?_
  refine xa_iconst (pc := 0) dX8_isFilmed_0 ?_
  refine xa_istoren (pc := 1) [some (xa_r q), some (xa_r kh), some (xa_i turn), some (xa_i 0), none, none] dX8_isFilmed_1 (by decide) (Nat.le_of_ble_eq_true rfl) rfl rfl ?_
  exact c_isFilmed_loop hdn hpc hturn htu hdr hfi hT hH (pc + 1) 0 _ _ (by omega) (by omega) rfl
def sp_nt (tu : Nat → Int) (dn : Nat) (u : Int) (B : Int → Int) : Nat → Nat → Int
  | 0 => tu
  | p + 1 => xa_upf (sp_nt tu dn u B p) (dn * 3 + p) (u + B ((p : Nat) : Int))
theorem c_note {G : xa_G} {h : xa_H} (q kb : Nat) (tu lo dr : Nat → Int) (dn : Nat) (al : Int) (po sp : Nat → Int) (tj tb : Int) (ld dg : Nat → Int) (pa jo : Nat) (wa sr pu ri : Int) (u : Int) (hdn : dn ≤ 60) (hT : xTr h q kb tu lo dr dn al) (hS : xS h (q + 4) kb po sp tj tb) (hB : xB h kb ld dg pa jo wa sr pu ri) (hkk : kb + 3 ≤ q) (hpa : pa ≤ 3) (hjo : jo ≤ 2) (hsp : ∀ i, -2 ≤ sp i ∧ sp i ≤ 12) (hpo : ∀ i, 0 ≤ po i ∧ po i ≤ 2)  : xa_M G mX8_note [xa_r q, xa_i u] h 0 0 (fun r h' => r = none ∧ xTr h' q kb (sp_nt tu dn u (sp_bent dg sp jo) pa) (xa_upf lo dn (sp_from ld po pa 0)) dr dn al ∧ h'.2 = h.2 ∧ ∀ i, (i < q + 1 ∨ q + 3 ≤ i) → h'.1 i = h.1 i) := by
  refine xa_enter (by decide +kernel) (Nat.le_of_ble_eq_true rfl) ?_
  refine xa_locals (ls' := [some (xa_r q), some (xa_i u), none, none]) rfl ?_
  have hn : h.2 = h.2 := rfl
  have fr : ∀ i, (i < q + 1 ∨ q + 3 ≤ i) → h.1 i = h.1 i := fun _ _ => rfl
  obtain ⟨hT0, hT1, hT2, hT3, hTq, hTn⟩ := hT
  obtain ⟨hS0, hS1, hS2, hSk, hSn⟩ := hS
  obtain ⟨hB0, hB1, hB2, hBk, hBn⟩ := hB
  refine xa_aload_n (pc := 0) dX8_note_0 rfl ?_
  refine xa_getfield (pc := 1) dX8_note_1 flRX8_37 (by omega) (by omega) hT0 rfl ?_
  refine xa_if_lt (pc := 4) (tgt := 19) dX8_note_4 (by decide) ⟨by omega, by omega⟩ (fun c_4 => ?_) (fun c_4 => ?_)
  · skip
    exfalso; omega
  · skip
    refine xa_aload_n (pc := 7) dX8_note_7 rfl ?_
    refine xa_getfield (pc := 8) dX8_note_8 flRX8_37 (by omega) (by omega) hT0 rfl ?_
    refine xa_aload_n (pc := 11) dX8_note_11 rfl ?_
    refine xa_getfield (pc := 12) dX8_note_12 flRX8_15 (by omega) (by omega) hT0 rfl ?_
    refine xa_alen (pc := 15) dX8_note_15 (by omega) hT2 ?_
    refine xa_top (y := 61) rfl ?_
    refine xa_icmp_lt (pc := 16) (tgt := 20) dX8_note_16 (by decide) ⟨by omega, by omega⟩ (by decide) (fun c_16 => ?_) (fun c_16 => ?_)
    · skip
      refine xa_aload_n (pc := 20) dX8_note_20 rfl ?_
      refine xa_getfield (pc := 21) dX8_note_21 flRX8_15 (by omega) (by omega) hT0 rfl ?_
      refine xa_aload_n (pc := 24) dX8_note_24 rfl ?_
      refine xa_getfield (pc := 25) dX8_note_25 flRX8_37 (by omega) (by omega) hT0 rfl ?_
      refine xa_aload_n (pc := 28) dX8_note_28 rfl ?_
      refine xa_getfield (pc := 29) dX8_note_29 flRX8_30 (by omega) (by omega) hT0 rfl ?_
      refine xa_iconst (pc := 32) dX8_note_32 ?_
      refine xa_callV (pc := 33) (as := [xa_i 0]) (rest := [xa_i ((dn : Nat) : Int), xa_r (q + 2)]) dX8_note_33 ⟨qX4_loadFrom.1, qX4_loadFrom.2.1, qX4_loadFrom.2.2, by decide, by decide⟩ lkRX8_72 imX4_loadFrom seX4_loadFrom rfl rfl (by omega) (by omega) hS0 rfl (Nat.le_of_ble_eq_true rfl) (Nat.zero_le _) (Nat.zero_le _) (c_loadFrom _ _ _ _ _ _ _ _ _ _ _ _ _ _ _ (by omega) ⟨hS0, hS1, hS2, by omega, by omega⟩ ⟨hB0, hB1, hB2, by omega, by omega⟩ (by omega) hpa hjo hpo) (fun r h' hq => ?_)
      obtain ⟨rfl, hq⟩ := hq
      have hq := hq.symm
      subst hq
      refine xa_iastw (pc := 36) dn dX8_note_36 (by omega) (by omega) hT2 (by omega) (by omega) (Int.toNat_natCast _) (fun h1 nh1 ch1 oh1 => ?_)
      have hT2 : h1.1 (q + 2) = xa_a 61 (xa_upf lo dn (sp_from ld po pa 0)) := ch1
      have hT0 : h1.1 q = xa_o 8 [xa_r (q + 4), xa_r kb, xa_r (q + 1), xa_r (q + 2), xa_r (q + 3), xa_i ((dn : Nat) : Int), xa_i al] := (oh1 _ (by omega)).trans hT0
      have hT1 : h1.1 (q + 1) = xa_a 183 tu := (oh1 _ (by omega)).trans hT1
      have hT3 : h1.1 (q + 3) = xa_a 61 dr := (oh1 _ (by omega)).trans hT3
      have hS0 : h1.1 (q + 4) = xa_o 4 [xa_r kb, xa_r (q + 4 + 1), xa_r (q + 4 + 2), xa_i tj, xa_i tb] := (oh1 _ (by omega)).trans hS0
      have hS1 : h1.1 (q + 4 + 1) = xa_a 3 po := (oh1 _ (by omega)).trans hS1
      have hS2 : h1.1 (q + 4 + 2) = xa_a 2 sp := (oh1 _ (by omega)).trans hS2
      have hB0 : h1.1 kb = xa_o 0 [xa_r (kb + 1), xa_r (kb + 2), xa_i ((pa : Nat) : Int), xa_i ((jo : Nat) : Int), xa_i wa, xa_i sr, xa_i pu, xa_i ri] := (oh1 _ (by omega)).trans hB0
      have hB1 : h1.1 (kb + 1) = xa_a 9 ld := (oh1 _ (by omega)).trans hB1
      have hB2 : h1.1 (kb + 2) = xa_a 2 dg := (oh1 _ (by omega)).trans hB2
      have hn : h1.2 = h.2 := nh1.trans hn
      have fr : ∀ i, (i < q + 1 ∨ q + 3 ≤ i) → h1.1 i = h.1 i := fun i hi => (oh1 i (by omega)).trans (fr i hi)
      refine xa_iconst (pc := 37) dX8_note_37 ?_
      refine xa_istoren (pc := 38) [some (xa_r q), some (xa_i u), some (xa_i 0), none] dX8_note_38 (by decide) (Nat.le_of_ble_eq_true rfl) rfl rfl ?_
      refine xa_iload_n (pc := 39) dX8_note_39 rfl ?_
      refine xa_aload_n (pc := 40) dX8_note_40 rfl ?_
      refine xa_getfield (pc := 41) dX8_note_41 flRX8_21 (by omega) (by omega) hT0 rfl ?_
      refine xa_getfield (pc := 44) dX8_note_44 flRX8_75 (by omega) (by omega) hB0 rfl ?_
      refine xa_icmp_ge (pc := 47) (tgt := 90) dX8_note_47 (by decide) (by decide) ⟨by omega, by omega⟩ (fun c_47 => ?_) (fun c_47 => ?_)
      · skip
        refine xa_return (pc := 90) dX8_note_90 rfl ?_
        have hpe : pa = 0 := by omega
        subst hpe
        exact ⟨rfl, ⟨hT0, hT1, hT2, hT3, by omega, by omega⟩, hn, fr⟩
      · skip
        refine xa_aload_n (pc := 50) dX8_note_50 rfl ?_
        refine xa_getfield (pc := 51) dX8_note_51 flRX8_37 (by omega) (by omega) hT0 rfl ?_
        refine xa_iconst (pc := 54) dX8_note_54 ?_
        refine xa_imul (pc := 55) dX8_note_55 ?_
        refine xa_iload_n (pc := 56) dX8_note_56 rfl ?_
        refine xa_iadd (pc := 57) dX8_note_57 ?_
        refine xa_istoren (pc := 58) [some (xa_r q), some (xa_i u), some (xa_i 0), some (xa_i ((((dn : Nat) : Int) * 3) + 0))] dX8_note_58 (by decide) (Nat.le_of_ble_eq_true rfl) rfl rfl ?_
        refine xa_iload_n (pc := 59) dX8_note_59 rfl ?_
        refine xa_aload_n (pc := 60) dX8_note_60 rfl ?_
        refine xa_getfield (pc := 61) dX8_note_61 flRX8_9 (by omega) (by omega) hT0 rfl ?_
        refine xa_alen (pc := 64) dX8_note_64 (by omega) hT1 ?_
        refine xa_top (y := 183) rfl ?_
        refine xa_icmp_ge (pc := 65) (tgt := 84) dX8_note_65 (by decide) ⟨by omega, by omega⟩ (by decide) (fun c_65 => ?_) (fun c_65 => ?_)
        · skip
          exfalso; omega
        · skip
          refine xa_aload_n (pc := 68) dX8_note_68 rfl ?_
          refine xa_getfield (pc := 69) dX8_note_69 flRX8_9 (by omega) (by omega) hT0 rfl ?_
          refine xa_iload_n (pc := 72) dX8_note_72 rfl ?_
          refine xa_iload_n (pc := 73) dX8_note_73 rfl ?_
          refine xa_aload_n (pc := 74) dX8_note_74 rfl ?_
          refine xa_getfield (pc := 75) dX8_note_75 flRX8_30 (by omega) (by omega) hT0 rfl ?_
          refine xa_iload_n (pc := 78) dX8_note_78 rfl ?_
          refine xa_callV (pc := 79) (as := [xa_i 0]) (rest := [xa_i u, xa_i ((((dn : Nat) : Int) * 3) + 0), xa_r (q + 1)]) dX8_note_79 ⟨qX4_bentTo.1, qX4_bentTo.2.1, qX4_bentTo.2.2, by decide, by decide⟩ lkRX8_80 imX4_bentTo seX4_bentTo rfl rfl (by omega) (by omega) hS0 rfl (Nat.le_of_ble_eq_true rfl) (Nat.zero_le _) (Nat.zero_le _) (c_bentTo _ _ _ _ _ _ _ _ _ _ _ _ _ _ _ (by omega) ⟨hS0, hS1, hS2, by omega, by omega⟩ ⟨hB0, hB1, hB2, by omega, by omega⟩ (by omega) hpa hjo hsp) (fun r h' hq => ?_)
          obtain ⟨rfl, hq⟩ := hq
          have hq := hq.symm
          subst hq
          refine xa_iadd (pc := 82) dX8_note_82 ?_
          refine xa_iastw (pc := 83) (dn * 3 + 0) dX8_note_83 (by omega) (by omega) hT1 (by omega) (by omega) (by omega) (fun h2 nh2 ch2 oh2 => ?_)
          have hT1 : h2.1 (q + 1) = xa_a 183 (xa_upf tu (dn * 3 + 0) (u + (sp_bent dg sp jo 0))) := ch2
          have hT0 : h2.1 q = xa_o 8 [xa_r (q + 4), xa_r kb, xa_r (q + 1), xa_r (q + 2), xa_r (q + 3), xa_i ((dn : Nat) : Int), xa_i al] := (oh2 _ (by omega)).trans hT0
          have hT2 : h2.1 (q + 2) = xa_a 61 (xa_upf lo dn (sp_from ld po pa 0)) := (oh2 _ (by omega)).trans hT2
          have hT3 : h2.1 (q + 3) = xa_a 61 dr := (oh2 _ (by omega)).trans hT3
          have hS0 : h2.1 (q + 4) = xa_o 4 [xa_r kb, xa_r (q + 4 + 1), xa_r (q + 4 + 2), xa_i tj, xa_i tb] := (oh2 _ (by omega)).trans hS0
          have hS1 : h2.1 (q + 4 + 1) = xa_a 3 po := (oh2 _ (by omega)).trans hS1
          have hS2 : h2.1 (q + 4 + 2) = xa_a 2 sp := (oh2 _ (by omega)).trans hS2
          have hB0 : h2.1 kb = xa_o 0 [xa_r (kb + 1), xa_r (kb + 2), xa_i ((pa : Nat) : Int), xa_i ((jo : Nat) : Int), xa_i wa, xa_i sr, xa_i pu, xa_i ri] := (oh2 _ (by omega)).trans hB0
          have hB1 : h2.1 (kb + 1) = xa_a 9 ld := (oh2 _ (by omega)).trans hB1
          have hB2 : h2.1 (kb + 2) = xa_a 2 dg := (oh2 _ (by omega)).trans hB2
          have hn : h2.2 = h.2 := nh2.trans hn
          have fr : ∀ i, (i < q + 1 ∨ q + 3 ≤ i) → h2.1 i = h.1 i := fun i hi => (oh2 i (by omega)).trans (fr i hi)
          refine xa_iincw (pc := 84) (y := 1) [some (xa_r q), some (xa_i u), some (xa_i 1), some (xa_i ((((dn : Nat) : Int) * 3) + 0))] dX8_note_84 (by decide) rfl rfl rfl rfl ?_
          refine xa_goto (pc := 87) (tgt := 39) dX8_note_87 (by decide) ?_
          refine xa_iload_n (pc := 39) dX8_note_39 rfl ?_
          refine xa_aload_n (pc := 40) dX8_note_40 rfl ?_
          refine xa_getfield (pc := 41) dX8_note_41 flRX8_21 (by omega) (by omega) hT0 rfl ?_
          refine xa_getfield (pc := 44) dX8_note_44 flRX8_75 (by omega) (by omega) hB0 rfl ?_
          refine xa_icmp_ge (pc := 47) (tgt := 90) dX8_note_47 (by decide) (by decide) ⟨by omega, by omega⟩ (fun c_47 => ?_) (fun c_47 => ?_)
          · skip
            refine xa_return (pc := 90) dX8_note_90 rfl ?_
            have hpe : pa = 1 := by omega
            subst hpe
            exact ⟨rfl, ⟨hT0, hT1, hT2, hT3, by omega, by omega⟩, hn, fr⟩
          · skip
            refine xa_aload_n (pc := 50) dX8_note_50 rfl ?_
            refine xa_getfield (pc := 51) dX8_note_51 flRX8_37 (by omega) (by omega) hT0 rfl ?_
            refine xa_iconst (pc := 54) dX8_note_54 ?_
            refine xa_imul (pc := 55) dX8_note_55 ?_
            refine xa_iload_n (pc := 56) dX8_note_56 rfl ?_
            refine xa_iadd (pc := 57) dX8_note_57 ?_
            refine xa_istoren (pc := 58) [some (xa_r q), some (xa_i u), some (xa_i 1), some (xa_i ((((dn : Nat) : Int) * 3) + 1))] dX8_note_58 (by decide) (Nat.le_of_ble_eq_true rfl) rfl rfl ?_
            refine xa_iload_n (pc := 59) dX8_note_59 rfl ?_
            refine xa_aload_n (pc := 60) dX8_note_60 rfl ?_
            refine xa_getfield (pc := 61) dX8_note_61 flRX8_9 (by omega) (by omega) hT0 rfl ?_
            refine xa_alen (pc := 64) dX8_note_64 (by omega) hT1 ?_
            refine xa_top (y := 183) rfl ?_
            refine xa_icmp_ge (pc := 65) (tgt := 84) dX8_note_65 (by decide) ⟨by omega, by omega⟩ (by decide) (fun c_65 => ?_) (fun c_65 => ?_)
            · skip
              exfalso; omega
            · skip
              refine xa_aload_n (pc := 68) dX8_note_68 rfl ?_
              refine xa_getfield (pc := 69) dX8_note_69 flRX8_9 (by omega) (by omega) hT0 rfl ?_
              refine xa_iload_n (pc := 72) dX8_note_72 rfl ?_
              refine xa_iload_n (pc := 73) dX8_note_73 rfl ?_
              refine xa_aload_n (pc := 74) dX8_note_74 rfl ?_
              refine xa_getfield (pc := 75) dX8_note_75 flRX8_30 (by omega) (by omega) hT0 rfl ?_
              refine xa_iload_n (pc := 78) dX8_note_78 rfl ?_
              refine xa_callV (pc := 79) (as := [xa_i 1]) (rest := [xa_i u, xa_i ((((dn : Nat) : Int) * 3) + 1), xa_r (q + 1)]) dX8_note_79 ⟨qX4_bentTo.1, qX4_bentTo.2.1, qX4_bentTo.2.2, by decide, by decide⟩ lkRX8_80 imX4_bentTo seX4_bentTo rfl rfl (by omega) (by omega) hS0 rfl (Nat.le_of_ble_eq_true rfl) (Nat.zero_le _) (Nat.zero_le _) (c_bentTo _ _ _ _ _ _ _ _ _ _ _ _ _ _ _ (by omega) ⟨hS0, hS1, hS2, by omega, by omega⟩ ⟨hB0, hB1, hB2, by omega, by omega⟩ (by omega) hpa hjo hsp) (fun r h' hq => ?_)
              obtain ⟨rfl, hq⟩ := hq
              have hq := hq.symm
              subst hq
              refine xa_iadd (pc := 82) dX8_note_82 ?_
              refine xa_iastw (pc := 83) (dn * 3 + 1) dX8_note_83 (by omega) (by omega) hT1 (by omega) (by omega) (by omega) (fun h3 nh3 ch3 oh3 => ?_)
              have hT1 : h3.1 (q + 1) = xa_a 183 (xa_upf (xa_upf tu (dn * 3 + 0) (u + (sp_bent dg sp jo 0))) (dn * 3 + 1) (u + (sp_bent dg sp jo 1))) := ch3
              have hT0 : h3.1 q = xa_o 8 [xa_r (q + 4), xa_r kb, xa_r (q + 1), xa_r (q + 2), xa_r (q + 3), xa_i ((dn : Nat) : Int), xa_i al] := (oh3 _ (by omega)).trans hT0
              have hT2 : h3.1 (q + 2) = xa_a 61 (xa_upf lo dn (sp_from ld po pa 0)) := (oh3 _ (by omega)).trans hT2
              have hT3 : h3.1 (q + 3) = xa_a 61 dr := (oh3 _ (by omega)).trans hT3
              have hS0 : h3.1 (q + 4) = xa_o 4 [xa_r kb, xa_r (q + 4 + 1), xa_r (q + 4 + 2), xa_i tj, xa_i tb] := (oh3 _ (by omega)).trans hS0
              have hS1 : h3.1 (q + 4 + 1) = xa_a 3 po := (oh3 _ (by omega)).trans hS1
              have hS2 : h3.1 (q + 4 + 2) = xa_a 2 sp := (oh3 _ (by omega)).trans hS2
              have hB0 : h3.1 kb = xa_o 0 [xa_r (kb + 1), xa_r (kb + 2), xa_i ((pa : Nat) : Int), xa_i ((jo : Nat) : Int), xa_i wa, xa_i sr, xa_i pu, xa_i ri] := (oh3 _ (by omega)).trans hB0
              have hB1 : h3.1 (kb + 1) = xa_a 9 ld := (oh3 _ (by omega)).trans hB1
              have hB2 : h3.1 (kb + 2) = xa_a 2 dg := (oh3 _ (by omega)).trans hB2
              have hn : h3.2 = h.2 := nh3.trans hn
              have fr : ∀ i, (i < q + 1 ∨ q + 3 ≤ i) → h3.1 i = h.1 i := fun i hi => (oh3 i (by omega)).trans (fr i hi)
              refine xa_iincw (pc := 84) (y := 2) [some (xa_r q), some (xa_i u), some (xa_i 2), some (xa_i ((((dn : Nat) : Int) * 3) + 1))] dX8_note_84 (by decide) rfl rfl rfl rfl ?_
              refine xa_goto (pc := 87) (tgt := 39) dX8_note_87 (by decide) ?_
              refine xa_iload_n (pc := 39) dX8_note_39 rfl ?_
              refine xa_aload_n (pc := 40) dX8_note_40 rfl ?_
              refine xa_getfield (pc := 41) dX8_note_41 flRX8_21 (by omega) (by omega) hT0 rfl ?_
              refine xa_getfield (pc := 44) dX8_note_44 flRX8_75 (by omega) (by omega) hB0 rfl ?_
              refine xa_icmp_ge (pc := 47) (tgt := 90) dX8_note_47 (by decide) (by decide) ⟨by omega, by omega⟩ (fun c_47 => ?_) (fun c_47 => ?_)
              · skip
                refine xa_return (pc := 90) dX8_note_90 rfl ?_
                have hpe : pa = 2 := by omega
                subst hpe
                exact ⟨rfl, ⟨hT0, hT1, hT2, hT3, by omega, by omega⟩, hn, fr⟩
              · skip
                refine xa_aload_n (pc := 50) dX8_note_50 rfl ?_
                refine xa_getfield (pc := 51) dX8_note_51 flRX8_37 (by omega) (by omega) hT0 rfl ?_
                refine xa_iconst (pc := 54) dX8_note_54 ?_
                refine xa_imul (pc := 55) dX8_note_55 ?_
                refine xa_iload_n (pc := 56) dX8_note_56 rfl ?_
                refine xa_iadd (pc := 57) dX8_note_57 ?_
                refine xa_istoren (pc := 58) [some (xa_r q), some (xa_i u), some (xa_i 2), some (xa_i ((((dn : Nat) : Int) * 3) + 2))] dX8_note_58 (by decide) (Nat.le_of_ble_eq_true rfl) rfl rfl ?_
                refine xa_iload_n (pc := 59) dX8_note_59 rfl ?_
                refine xa_aload_n (pc := 60) dX8_note_60 rfl ?_
                refine xa_getfield (pc := 61) dX8_note_61 flRX8_9 (by omega) (by omega) hT0 rfl ?_
                refine xa_alen (pc := 64) dX8_note_64 (by omega) hT1 ?_
                refine xa_top (y := 183) rfl ?_
                refine xa_icmp_ge (pc := 65) (tgt := 84) dX8_note_65 (by decide) ⟨by omega, by omega⟩ (by decide) (fun c_65 => ?_) (fun c_65 => ?_)
                · skip
                  exfalso; omega
                · skip
                  refine xa_aload_n (pc := 68) dX8_note_68 rfl ?_
                  refine xa_getfield (pc := 69) dX8_note_69 flRX8_9 (by omega) (by omega) hT0 rfl ?_
                  refine xa_iload_n (pc := 72) dX8_note_72 rfl ?_
                  refine xa_iload_n (pc := 73) dX8_note_73 rfl ?_
                  refine xa_aload_n (pc := 74) dX8_note_74 rfl ?_
                  refine xa_getfield (pc := 75) dX8_note_75 flRX8_30 (by omega) (by omega) hT0 rfl ?_
                  refine xa_iload_n (pc := 78) dX8_note_78 rfl ?_
                  refine xa_callV (pc := 79) (as := [xa_i 2]) (rest := [xa_i u, xa_i ((((dn : Nat) : Int) * 3) + 2), xa_r (q + 1)]) dX8_note_79 ⟨qX4_bentTo.1, qX4_bentTo.2.1, qX4_bentTo.2.2, by decide, by decide⟩ lkRX8_80 imX4_bentTo seX4_bentTo rfl rfl (by omega) (by omega) hS0 rfl (Nat.le_of_ble_eq_true rfl) (Nat.zero_le _) (Nat.zero_le _) (c_bentTo _ _ _ _ _ _ _ _ _ _ _ _ _ _ _ (by omega) ⟨hS0, hS1, hS2, by omega, by omega⟩ ⟨hB0, hB1, hB2, by omega, by omega⟩ (by omega) hpa hjo hsp) (fun r h' hq => ?_)
                  obtain ⟨rfl, hq⟩ := hq
                  have hq := hq.symm
                  subst hq
                  refine xa_iadd (pc := 82) dX8_note_82 ?_
                  refine xa_iastw (pc := 83) (dn * 3 + 2) dX8_note_83 (by omega) (by omega) hT1 (by omega) (by omega) (by omega) (fun h4 nh4 ch4 oh4 => ?_)
                  have hT1 : h4.1 (q + 1) = xa_a 183 (xa_upf (xa_upf (xa_upf tu (dn * 3 + 0) (u + (sp_bent dg sp jo 0))) (dn * 3 + 1) (u + (sp_bent dg sp jo 1))) (dn * 3 + 2) (u + (sp_bent dg sp jo 2))) := ch4
                  have hT0 : h4.1 q = xa_o 8 [xa_r (q + 4), xa_r kb, xa_r (q + 1), xa_r (q + 2), xa_r (q + 3), xa_i ((dn : Nat) : Int), xa_i al] := (oh4 _ (by omega)).trans hT0
                  have hT2 : h4.1 (q + 2) = xa_a 61 (xa_upf lo dn (sp_from ld po pa 0)) := (oh4 _ (by omega)).trans hT2
                  have hT3 : h4.1 (q + 3) = xa_a 61 dr := (oh4 _ (by omega)).trans hT3
                  have hS0 : h4.1 (q + 4) = xa_o 4 [xa_r kb, xa_r (q + 4 + 1), xa_r (q + 4 + 2), xa_i tj, xa_i tb] := (oh4 _ (by omega)).trans hS0
                  have hS1 : h4.1 (q + 4 + 1) = xa_a 3 po := (oh4 _ (by omega)).trans hS1
                  have hS2 : h4.1 (q + 4 + 2) = xa_a 2 sp := (oh4 _ (by omega)).trans hS2
                  have hB0 : h4.1 kb = xa_o 0 [xa_r (kb + 1), xa_r (kb + 2), xa_i ((pa : Nat) : Int), xa_i ((jo : Nat) : Int), xa_i wa, xa_i sr, xa_i pu, xa_i ri] := (oh4 _ (by omega)).trans hB0
                  have hB1 : h4.1 (kb + 1) = xa_a 9 ld := (oh4 _ (by omega)).trans hB1
                  have hB2 : h4.1 (kb + 2) = xa_a 2 dg := (oh4 _ (by omega)).trans hB2
                  have hn : h4.2 = h.2 := nh4.trans hn
                  have fr : ∀ i, (i < q + 1 ∨ q + 3 ≤ i) → h4.1 i = h.1 i := fun i hi => (oh4 i (by omega)).trans (fr i hi)
                  refine xa_iincw (pc := 84) (y := 3) [some (xa_r q), some (xa_i u), some (xa_i 3), some (xa_i ((((dn : Nat) : Int) * 3) + 2))] dX8_note_84 (by decide) rfl rfl rfl rfl ?_
                  refine xa_goto (pc := 87) (tgt := 39) dX8_note_87 (by decide) ?_
                  refine xa_iload_n (pc := 39) dX8_note_39 rfl ?_
                  refine xa_aload_n (pc := 40) dX8_note_40 rfl ?_
                  refine xa_getfield (pc := 41) dX8_note_41 flRX8_21 (by omega) (by omega) hT0 rfl ?_
                  refine xa_getfield (pc := 44) dX8_note_44 flRX8_75 (by omega) (by omega) hB0 rfl ?_
                  refine xa_icmp_ge (pc := 47) (tgt := 90) dX8_note_47 (by decide) (by decide) ⟨by omega, by omega⟩ (fun c_47 => ?_) (fun c_47 => ?_)
                  · skip
                    refine xa_return (pc := 90) dX8_note_90 rfl ?_
                    have hpe : pa = 3 := by omega
                    subst hpe
                    exact ⟨rfl, ⟨hT0, hT1, hT2, hT3, by omega, by omega⟩, hn, fr⟩
                  · skip
                    exfalso; omega
    · skip
      exfalso; omega
