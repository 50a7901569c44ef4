/-! Shape: its rows by place -/
theorem c_poseOf {G : xa_G} {h : xa_H} (k kb : Nat) (po sp : Nat → Int) (tj tb : Int) (p : Int) (j : Nat) (hp : p.toNat = j) (h0 : 0 ≤ p ∧ p < 3) (hk : 2 ≤ k) (hkn : k + 2 < h.2) (hS0 : h.1 k = xa_o 4 [xa_r kb, xa_r (k + 1), xa_r (k + 2), xa_i tj, xa_i tb]) (hS1 : h.1 (k + 1) = xa_a 3 po) (hS2 : h.1 (k + 2) = xa_a 2 sp) : xa_M G mX4_poseOf [xa_r k, xa_i p] h 0 0 (fun r h' => r = some (xa_i (po j)) ∧ h' = h) := by
  refine xa_enter (by decide +kernel) (Nat.le_of_ble_eq_true rfl) ?_
  refine xa_locals (ls' := [some (xa_r k), some (xa_i p)]) rfl ?_
  refine xa_iload_n (pc := 0) dX4_poseOf_0 rfl ?_
  refine xa_if_lt (pc := 1) (tgt := 22) dX4_poseOf_1 (by decide) ⟨by omega, by omega⟩ (fun c_1 => ?_) (fun c_1 => ?_)
  · skip
    exfalso; omega
  · skip
    refine xa_iload_n (pc := 4) dX4_poseOf_4 rfl ?_
    refine xa_aload_n (pc := 5) dX4_poseOf_5 rfl ?_
    refine xa_getfield (pc := 6) dX4_poseOf_6 flRX4_9 (by omega) (by omega) hS0 rfl ?_
    refine xa_alen (pc := 9) dX4_poseOf_9 (by omega) hS1 ?_
    refine xa_top (y := 3) rfl ?_
    refine xa_icmp_ge (pc := 10) (tgt := 22) dX4_poseOf_10 (by decide) ⟨by omega, by omega⟩ (by decide) (fun c_10 => ?_) (fun c_10 => ?_)
    · skip
      exfalso; omega
    · skip
      refine xa_aload_n (pc := 13) dX4_poseOf_13 rfl ?_
      refine xa_getfield (pc := 14) dX4_poseOf_14 flRX4_9 (by omega) (by omega) hS0 rfl ?_
      refine xa_iload_n (pc := 17) dX4_poseOf_17 rfl ?_
      refine xa_ialdw (pc := 18) j dX4_poseOf_18 (by omega) hS1 (by omega) (by omega) hp ?_
      refine xa_goto (pc := 19) (tgt := 23) dX4_poseOf_19 (by decide) ?_
      refine xa_ireturn (pc := 23) dX4_poseOf_23 rfl trivial ?_
      exact ⟨rfl, rfl⟩
theorem c_stepsAt {G : xa_G} {h : xa_H} (k kb : Nat) (po sp : Nat → Int) (tj tb : Int) (p : Int) (j : Nat) (hp : p.toNat = j) (h0 : 0 ≤ p ∧ p < 2) (hk : 2 ≤ k) (hkn : k + 2 < h.2) (hS0 : h.1 k = xa_o 4 [xa_r kb, xa_r (k + 1), xa_r (k + 2), xa_i tj, xa_i tb]) (hS1 : h.1 (k + 1) = xa_a 3 po) (hS2 : h.1 (k + 2) = xa_a 2 sp) : xa_M G mX4_stepsAt [xa_r k, xa_i p] h 0 0 (fun r h' => r = some (xa_i (sp j)) ∧ h' = h) := by
  refine xa_enter (by decide +kernel) (Nat.le_of_ble_eq_true rfl) ?_
  refine xa_locals (ls' := [some (xa_r k), some (xa_i p)]) rfl ?_
  refine xa_iload_n (pc := 0) dX4_stepsAt_0 rfl ?_
  refine xa_if_lt (pc := 1) (tgt := 22) dX4_stepsAt_1 (by decide) ⟨by omega, by omega⟩ (fun c_1 => ?_) (fun c_1 => ?_)
  · skip
    exfalso; omega
  · skip
    refine xa_iload_n (pc := 4) dX4_stepsAt_4 rfl ?_
    refine xa_aload_n (pc := 5) dX4_stepsAt_5 rfl ?_
    refine xa_getfield (pc := 6) dX4_stepsAt_6 flRX4_15 (by omega) (by omega) hS0 rfl ?_
    refine xa_alen (pc := 9) dX4_stepsAt_9 (by omega) hS2 ?_
    refine xa_top (y := 2) rfl ?_
    refine xa_icmp_ge (pc := 10) (tgt := 22) dX4_stepsAt_10 (by decide) ⟨by omega, by omega⟩ (by decide) (fun c_10 => ?_) (fun c_10 => ?_)
    · skip
      exfalso; omega
    · skip
      refine xa_aload_n (pc := 13) dX4_stepsAt_13 rfl ?_
      refine xa_getfield (pc := 14) dX4_stepsAt_14 flRX4_15 (by omega) (by omega) hS0 rfl ?_
      refine xa_iload_n (pc := 17) dX4_stepsAt_17 rfl ?_
      refine xa_ialdw (pc := 18) j dX4_stepsAt_18 (by omega) hS2 (by omega) (by omega) hp ?_
      refine xa_goto (pc := 19) (tgt := 23) dX4_stepsAt_19 (by decide) ?_
      refine xa_ireturn (pc := 23) dX4_stepsAt_23 rfl trivial ?_
      exact ⟨rfl, rfl⟩
theorem c_takePose {G : xa_G} {h : xa_H} (k kb : Nat) (po sp : Nat → Int) (tj tb : Int) (p q : Int) (j : Nat) (hp : p.toNat = j) (h0 : 0 ≤ p ∧ p < 3) (hk : 2 ≤ k) (hkn : k + 2 < h.2) (hS0 : h.1 k = xa_o 4 [xa_r kb, xa_r (k + 1), xa_r (k + 2), xa_i tj, xa_i tb]) (hS1 : h.1 (k + 1) = xa_a 3 po) (hS2 : h.1 (k + 2) = xa_a 2 sp) : xa_M G mX4_takePose [xa_r k, xa_i p, xa_i q] h 0 0 (fun r h' => r = none ∧ h'.1 (k + 1) = xa_a 3 (xa_upf po j q) ∧ h'.2 = h.2 ∧ ∀ i, i ≠ k + 1 → h'.1 i = h.1 i) := by
  refine xa_enter (by decide +kernel) (Nat.le_of_ble_eq_true rfl) ?_
  refine xa_locals (ls' := [some (xa_r k), some (xa_i p), some (xa_i q)]) rfl ?_
  have hn : h.2 = h.2 := rfl
  have fr : ∀ i, i ≠ k + 1 → h.1 i = h.1 i := fun _ _ => rfl
  refine xa_iload_n (pc := 0) dX4_takePose_0 rfl ?_
  refine xa_if_lt (pc := 1) (tgt := 20) dX4_takePose_1 (by decide) ⟨by omega, by omega⟩ (fun c_1 => ?_) (fun c_1 => ?_)
  · skip
    exfalso; omega
  · skip
    refine xa_iload_n (pc := 4) dX4_takePose_4 rfl ?_
    refine xa_aload_n (pc := 5) dX4_takePose_5 rfl ?_
    refine xa_getfield (pc := 6) dX4_takePose_6 flRX4_9 (by omega) (by omega) hS0 rfl ?_
    refine xa_alen (pc := 9) dX4_takePose_9 (by omega) hS1 ?_
    refine xa_top (y := 3) rfl ?_
    refine xa_icmp_ge (pc := 10) (tgt := 20) dX4_takePose_10 (by decide) ⟨by omega, by omega⟩ (by decide) (fun c_10 => ?_) (fun c_10 => ?_)
    · skip
      exfalso; omega
    · skip
      refine xa_aload_n (pc := 13) dX4_takePose_13 rfl ?_
      refine xa_getfield (pc := 14) dX4_takePose_14 flRX4_9 (by omega) (by omega) hS0 rfl ?_
      refine xa_iload_n (pc := 17) dX4_takePose_17 rfl ?_
      refine xa_iload_n (pc := 18) dX4_takePose_18 rfl ?_
      refine xa_iastw (pc := 19) j dX4_takePose_19 (by omega) (by omega) hS1 (by omega) (by omega) hp (fun h1 nh1 ch1 oh1 => ?_)
      have hS1 : h1.1 (k + 1) = xa_a 3 (xa_upf po j q) := ch1
      have hS0 : h1.1 k = xa_o 4 [xa_r kb, xa_r (k + 1), xa_r (k + 2), xa_i tj, xa_i tb] := (oh1 _ (by omega)).trans hS0
      have hS2 : h1.1 (k + 2) = xa_a 2 sp := (oh1 _ (by omega)).trans hS2
      have hn : h1.2 = h.2 := nh1.trans hn
      have fr : ∀ i, i ≠ k + 1 → h1.1 i = h.1 i := fun i hi => (oh1 i (by omega)).trans (fr i hi)
      refine xa_return (pc := 20) dX4_takePose_20 rfl ?_
      exact ⟨rfl, hS1, hn, fr⟩
theorem c_takeSteps {G : xa_G} {h : xa_H} (k kb : Nat) (po sp : Nat → Int) (tj tb : Int) (p q : Int) (j : Nat) (hp : p.toNat = j) (h0 : 0 ≤ p ∧ p < 2) (hk : 2 ≤ k) (hkn : k + 2 < h.2) (hS0 : h.1 k = xa_o 4 [xa_r kb, xa_r (k + 1), xa_r (k + 2), xa_i tj, xa_i tb]) (hS1 : h.1 (k + 1) = xa_a 3 po) (hS2 : h.1 (k + 2) = xa_a 2 sp) : xa_M G mX4_takeSteps [xa_r k, xa_i p, xa_i q] h 0 0 (fun r h' => r = none ∧ h'.1 (k + 2) = xa_a 2 (xa_upf sp j q) ∧ h'.2 = h.2 ∧ ∀ i, i ≠ k + 2 → h'.1 i = h.1 i) := by
  refine xa_enter (by decide +kernel) (Nat.le_of_ble_eq_true rfl) ?_
  refine xa_locals (ls' := [some (xa_r k), some (xa_i p), some (xa_i q)]) rfl ?_
  have hn : h.2 = h.2 := rfl
  have fr : ∀ i, i ≠ k + 2 → h.1 i = h.1 i := fun _ _ => rfl
  refine xa_iload_n (pc := 0) dX4_takeSteps_0 rfl ?_
  refine xa_if_lt (pc := 1) (tgt := 20) dX4_takeSteps_1 (by decide) ⟨by omega, by omega⟩ (fun c_1 => ?_) (fun c_1 => ?_)
  · skip
    exfalso; omega
  · skip
    refine xa_iload_n (pc := 4) dX4_takeSteps_4 rfl ?_
    refine xa_aload_n (pc := 5) dX4_takeSteps_5 rfl ?_
    refine xa_getfield (pc := 6) dX4_takeSteps_6 flRX4_15 (by omega) (by omega) hS0 rfl ?_
    refine xa_alen (pc := 9) dX4_takeSteps_9 (by omega) hS2 ?_
    refine xa_top (y := 2) rfl ?_
    refine xa_icmp_ge (pc := 10) (tgt := 20) dX4_takeSteps_10 (by decide) ⟨by omega, by omega⟩ (by decide) (fun c_10 => ?_) (fun c_10 => ?_)
    · skip
      exfalso; omega
    · skip
      refine xa_aload_n (pc := 13) dX4_takeSteps_13 rfl ?_
      refine xa_getfield (pc := 14) dX4_takeSteps_14 flRX4_15 (by omega) (by omega) hS0 rfl ?_
      refine xa_iload_n (pc := 17) dX4_takeSteps_17 rfl ?_
      refine xa_iload_n (pc := 18) dX4_takeSteps_18 rfl ?_
      refine xa_iastw (pc := 19) j dX4_takeSteps_19 (by omega) (by omega) hS2 (by omega) (by omega) hp (fun h1 nh1 ch1 oh1 => ?_)
      have hS2 : h1.1 (k + 2) = xa_a 2 (xa_upf sp j q) := ch1
      have hS0 : h1.1 k = xa_o 4 [xa_r kb, xa_r (k + 1), xa_r (k + 2), xa_i tj, xa_i tb] := (oh1 _ (by omega)).trans hS0
      have hS1 : h1.1 (k + 1) = xa_a 3 po := (oh1 _ (by omega)).trans hS1
      have hn : h1.2 = h.2 := nh1.trans hn
      have fr : ∀ i, i ≠ k + 2 → h1.1 i = h.1 i := fun i hi => (oh1 i (by omega)).trans (fr i hi)
      refine xa_return (pc := 20) dX4_takeSteps_20 rfl ?_
      exact ⟨rfl, hS2, hn, fr⟩
