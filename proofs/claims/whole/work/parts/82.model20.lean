/-! The model: made -/
set_option maxHeartbeats 4000000 in
theorem c_Model_init {G : xa_G} {h : xa_H} (k : Nat) (hk : 2 ≤ k) (hcn : h.2 = k + 1) (hO : h.1 k = xa_o 10 [xa_i 0, xa_n, xa_n, xa_n, xa_n, xa_n, xa_n, xa_n, xa_n, xa_n, xa_n, xa_n, xa_n, xa_i 0, xa_i 0, xa_i 0, xa_n, xa_i 0, xa_i 0, xa_i 0, xa_i 0, xa_n, xa_n, xa_i 0, xa_n]) : xa_M G mX10_init [xa_r k] h 16 1167656 (fun r h' => r = none ∧ xM h' k (xa_uF (xa_uF (xa_uF (xa_uF (xa_uF (fun _ _ => 0) 2 (xa_upf (fun _ => 0) 0 2)) 3 (xa_upf (xa_upf (xa_upf (xa_upf (xa_upf (xa_upf (fun _ => 0) 0 1) 1 1) 2 1) 3 1) 4 1) 5 1)) 4 (xa_upf (fun _ => 0) 0 1)) 5 (xa_upf (fun _ => 0) 0 10)) 8 (xa_upf (fun _ => 0) 0 10)) (xa_upf (fun _ => 0) 20 (-4)) ∧ h'.2 = k + 17 ∧ ∀ i, i < k → h'.1 i = h.1 i) := by
  refine xa_enter (by decide +kernel) (Nat.le_of_ble_eq_true rfl) ?_
  refine xa_locals (ls' := [some (xa_r k), none]) rfl ?_
  have fr : ∀ i, i < k → h.1 i = h.1 i := fun _ _ => rfl
  refine xa_aload_n (pc := 0) dX10_init_0 rfl ?_
  refine xa_objinit (pc := 1) dX10_init_1 lkRX10_1 zo_1 zo_2 (Nat.le_of_ble_eq_true rfl) (by decide) ?_
  refine xa_aload_n (pc := 4) dX10_init_4 rfl ?_
  refine xa_bipush (pc := 5) dX10_init_5 rfl ?_
  refine xa_newap (pc := 7) (mc0 := 15) (ms0 := 1167536) 120 (k + 1) hcn dX10_init_7 rfl (by decide) rfl rfl (fun h1 nh1 ch1 oh1 => ?_)
  have hO : h1.1 k = xa_o 10 [xa_i 0, xa_n, xa_n, xa_n, xa_n, xa_n, xa_n, xa_n, xa_n, xa_n, xa_n, xa_n, xa_n, xa_i 0, xa_i 0, xa_i 0, xa_n, xa_i 0, xa_i 0, xa_i 0, xa_i 0, xa_n, xa_n, xa_i 0, xa_n] := (oh1 _ (ne_kk (a := 0) (b := 1) (by decide))).trans hO
  have hA1 : h1.1 (k + 1) = xa_a 120 (fun _ => 0) := ch1
  have hcn : h1.2 = k + 2 := nh1
  have fr : ∀ i, i < k → h1.1 i = h.1 i := fun i hi => (oh1 i (by omega)).trans (fr i hi)
  refine xa_putwF (pc := 9) [xa_i 0, xa_r (k + 1), xa_n, xa_n, xa_n, xa_n, xa_n, xa_n, xa_n, xa_n, xa_n, xa_n, xa_n, xa_i 0, xa_i 0, xa_i 0, xa_n, xa_i 0, xa_i 0, xa_i 0, xa_i 0, xa_n, xa_n, xa_i 0, xa_n] dX10_init_9 rfl flRX10_7 plX10_1 (by omega) (by omega) hO trivial rfl rfl (fun h2 nh2 ch2 oh2 => ?_)
  have hO : h2.1 k = xa_o 10 [xa_i 0, xa_r (k + 1), xa_n, xa_n, xa_n, xa_n, xa_n, xa_n, xa_n, xa_n, xa_n, xa_n, xa_n, xa_i 0, xa_i 0, xa_i 0, xa_n, xa_i 0, xa_i 0, xa_i 0, xa_i 0, xa_n, xa_n, xa_i 0, xa_n] := ch2
  have hA1 : h2.1 (k + 1) = xa_a 120 (fun _ => 0) := (oh2 _ (ne_kk (a := 1) (b := 0) (by decide))).trans hA1
  have hcn : h2.2 = k + 2 := nh2.trans hcn
  have fr : ∀ i, i < k → h2.1 i = h.1 i := fun i hi => (oh2 i (by omega)).trans (fr i hi)
  refine xa_aload_n (pc := 12) dX10_init_12 rfl ?_
  refine xa_iconst (pc := 13) dX10_init_13 ?_
  refine xa_newap (pc := 14) (mc0 := 14) (ms0 := 1167534) 2 (k + 2) hcn dX10_init_14 rfl (by decide) rfl rfl (fun h3 nh3 ch3 oh3 => ?_)
  have hO : h3.1 k = xa_o 10 [xa_i 0, xa_r (k + 1), xa_n, xa_n, xa_n, xa_n, xa_n, xa_n, xa_n, xa_n, xa_n, xa_n, xa_n, xa_i 0, xa_i 0, xa_i 0, xa_n, xa_i 0, xa_i 0, xa_i 0, xa_i 0, xa_n, xa_n, xa_i 0, xa_n] := (oh3 _ (ne_kk (a := 0) (b := 2) (by decide))).trans hO
  have hA1 : h3.1 (k + 1) = xa_a 120 (fun _ => 0) := (oh3 _ (ne_kk (a := 1) (b := 2) (by decide))).trans hA1
  have hA2 : h3.1 (k + 2) = xa_a 2 (fun _ => 0) := ch3
  have hcn : h3.2 = k + 3 := nh3
  have fr : ∀ i, i < k → h3.1 i = h.1 i := fun i hi => (oh3 i (by omega)).trans (fr i hi)
  refine xa_putwF (pc := 16) [xa_i 0, xa_r (k + 1), xa_r (k + 2), xa_n, xa_n, xa_n, xa_n, xa_n, xa_n, xa_n, xa_n, xa_n, xa_n, xa_i 0, xa_i 0, xa_i 0, xa_n, xa_i 0, xa_i 0, xa_i 0, xa_i 0, xa_n, xa_n, xa_i 0, xa_n] dX10_init_16 rfl flRX10_13 plX10_2 (by omega) (by omega) hO trivial rfl rfl (fun h4 nh4 ch4 oh4 => ?_)
  have hO : h4.1 k = xa_o 10 [xa_i 0, xa_r (k + 1), xa_r (k + 2), xa_n, xa_n, xa_n, xa_n, xa_n, xa_n, xa_n, xa_n, xa_n, xa_n, xa_i 0, xa_i 0, xa_i 0, xa_n, xa_i 0, xa_i 0, xa_i 0, xa_i 0, xa_n, xa_n, xa_i 0, xa_n] := ch4
  have hA1 : h4.1 (k + 1) = xa_a 120 (fun _ => 0) := (oh4 _ (ne_kk (a := 1) (b := 0) (by decide))).trans hA1
  have hA2 : h4.1 (k + 2) = xa_a 2 (fun _ => 0) := (oh4 _ (ne_kk (a := 2) (b := 0) (by decide))).trans hA2
  have hcn : h4.2 = k + 3 := nh4.trans hcn
  have fr : ∀ i, i < k → h4.1 i = h.1 i := fun i hi => (oh4 i (by omega)).trans (fr i hi)
  refine xa_aload_n (pc := 19) dX10_init_19 rfl ?_
  refine xa_bipush (pc := 20) dX10_init_20 rfl ?_
  refine xa_newap (pc := 22) (mc0 := 13) (ms0 := 1167516) 18 (k + 3) hcn dX10_init_22 rfl (by decide) rfl rfl (fun h5 nh5 ch5 oh5 => ?_)
  have hO : h5.1 k = xa_o 10 [xa_i 0, xa_r (k + 1), xa_r (k + 2), xa_n, xa_n, xa_n, xa_n, xa_n, xa_n, xa_n, xa_n, xa_n, xa_n, xa_i 0, xa_i 0, xa_i 0, xa_n, xa_i 0, xa_i 0, xa_i 0, xa_i 0, xa_n, xa_n, xa_i 0, xa_n] := (oh5 _ (ne_kk (a := 0) (b := 3) (by decide))).trans hO
  have hA1 : h5.1 (k + 1) = xa_a 120 (fun _ => 0) := (oh5 _ (ne_kk (a := 1) (b := 3) (by decide))).trans hA1
  have hA2 : h5.1 (k + 2) = xa_a 2 (fun _ => 0) := (oh5 _ (ne_kk (a := 2) (b := 3) (by decide))).trans hA2
  have hA3 : h5.1 (k + 3) = xa_a 18 (fun _ => 0) := ch5
  have hcn : h5.2 = k + 4 := nh5
  have fr : ∀ i, i < k → h5.1 i = h.1 i := fun i hi => (oh5 i (by omega)).trans (fr i hi)
  refine xa_putwF (pc := 24) [xa_i 0, xa_r (k + 1), xa_r (k + 2), xa_r (k + 3), xa_n, xa_n, xa_n, xa_n, xa_n, xa_n, xa_n, xa_n, xa_n, xa_i 0, xa_i 0, xa_i 0, xa_n, xa_i 0, xa_i 0, xa_i 0, xa_i 0, xa_n, xa_n, xa_i 0, xa_n] dX10_init_24 rfl flRX10_16 plX10_3 (by omega) (by omega) hO trivial rfl rfl (fun h6 nh6 ch6 oh6 => ?_)
  have hO : h6.1 k = xa_o 10 [xa_i 0, xa_r (k + 1), xa_r (k + 2), xa_r (k + 3), xa_n, xa_n, xa_n, xa_n, xa_n, xa_n, xa_n, xa_n, xa_n, xa_i 0, xa_i 0, xa_i 0, xa_n, xa_i 0, xa_i 0, xa_i 0, xa_i 0, xa_n, xa_n, xa_i 0, xa_n] := ch6
  have hA1 : h6.1 (k + 1) = xa_a 120 (fun _ => 0) := (oh6 _ (ne_kk (a := 1) (b := 0) (by decide))).trans hA1
  have hA2 : h6.1 (k + 2) = xa_a 2 (fun _ => 0) := (oh6 _ (ne_kk (a := 2) (b := 0) (by decide))).trans hA2
  have hA3 : h6.1 (k + 3) = xa_a 18 (fun _ => 0) := (oh6 _ (ne_kk (a := 3) (b := 0) (by decide))).trans hA3
  have hcn : h6.2 = k + 4 := nh6.trans hcn
  have fr : ∀ i, i < k → h6.1 i = h.1 i := fun i hi => (oh6 i (by omega)).trans (fr i hi)
  refine xa_aload_n (pc := 27) dX10_init_27 rfl ?_
  refine xa_iconst (pc := 28) dX10_init_28 ?_
  refine xa_newap (pc := 29) (mc0 := 12) (ms0 := 1167514) 2 (k + 4) hcn dX10_init_29 rfl (by decide) rfl rfl (fun h7 nh7 ch7 oh7 => ?_)
  have hO : h7.1 k = xa_o 10 [xa_i 0, xa_r (k + 1), xa_r (k + 2), xa_r (k + 3), xa_n, xa_n, xa_n, xa_n, xa_n, xa_n, xa_n, xa_n, xa_n, xa_i 0, xa_i 0, xa_i 0, xa_n, xa_i 0, xa_i 0, xa_i 0, xa_i 0, xa_n, xa_n, xa_i 0, xa_n] := (oh7 _ (ne_kk (a := 0) (b := 4) (by decide))).trans hO
  have hA1 : h7.1 (k + 1) = xa_a 120 (fun _ => 0) := (oh7 _ (ne_kk (a := 1) (b := 4) (by decide))).trans hA1
  have hA2 : h7.1 (k + 2) = xa_a 2 (fun _ => 0) := (oh7 _ (ne_kk (a := 2) (b := 4) (by decide))).trans hA2
  have hA3 : h7.1 (k + 3) = xa_a 18 (fun _ => 0) := (oh7 _ (ne_kk (a := 3) (b := 4) (by decide))).trans hA3
  have hA4 : h7.1 (k + 4) = xa_a 2 (fun _ => 0) := ch7
  have hcn : h7.2 = k + 5 := nh7
  have fr : ∀ i, i < k → h7.1 i = h.1 i := fun i hi => (oh7 i (by omega)).trans (fr i hi)
  refine xa_putwF (pc := 31) [xa_i 0, xa_r (k + 1), xa_r (k + 2), xa_r (k + 3), xa_r (k + 4), xa_n, xa_n, xa_n, xa_n, xa_n, xa_n, xa_n, xa_n, xa_i 0, xa_i 0, xa_i 0, xa_n, xa_i 0, xa_i 0, xa_i 0, xa_i 0, xa_n, xa_n, xa_i 0, xa_n] dX10_init_31 rfl flRX10_19 plX10_4 (by omega) (by omega) hO trivial rfl rfl (fun h8 nh8 ch8 oh8 => ?_)
  have hO : h8.1 k = xa_o 10 [xa_i 0, xa_r (k + 1), xa_r (k + 2), xa_r (k + 3), xa_r (k + 4), xa_n, xa_n, xa_n, xa_n, xa_n, xa_n, xa_n, xa_n, xa_i 0, xa_i 0, xa_i 0, xa_n, xa_i 0, xa_i 0, xa_i 0, xa_i 0, xa_n, xa_n, xa_i 0, xa_n] := ch8
  have hA1 : h8.1 (k + 1) = xa_a 120 (fun _ => 0) := (oh8 _ (ne_kk (a := 1) (b := 0) (by decide))).trans hA1
  have hA2 : h8.1 (k + 2) = xa_a 2 (fun _ => 0) := (oh8 _ (ne_kk (a := 2) (b := 0) (by decide))).trans hA2
  have hA3 : h8.1 (k + 3) = xa_a 18 (fun _ => 0) := (oh8 _ (ne_kk (a := 3) (b := 0) (by decide))).trans hA3
  have hA4 : h8.1 (k + 4) = xa_a 2 (fun _ => 0) := (oh8 _ (ne_kk (a := 4) (b := 0) (by decide))).trans hA4
  have hcn : h8.2 = k + 5 := nh8.trans hcn
  have fr : ∀ i, i < k → h8.1 i = h.1 i := fun i hi => (oh8 i (by omega)).trans (fr i hi)
  refine xa_aload_n (pc := 34) dX10_init_34 rfl ?_
  refine xa_iconst (pc := 35) dX10_init_35 ?_
  refine xa_newap (pc := 36) (mc0 := 11) (ms0 := 1167510) 4 (k + 5) hcn dX10_init_36 rfl (by decide) rfl rfl (fun h9 nh9 ch9 oh9 => ?_)
  have hO : h9.1 k = xa_o 10 [xa_i 0, xa_r (k + 1), xa_r (k + 2), xa_r (k + 3), xa_r (k + 4), xa_n, xa_n, xa_n, xa_n, xa_n, xa_n, xa_n, xa_n, xa_i 0, xa_i 0, xa_i 0, xa_n, xa_i 0, xa_i 0, xa_i 0, xa_i 0, xa_n, xa_n, xa_i 0, xa_n] := (oh9 _ (ne_kk (a := 0) (b := 5) (by decide))).trans hO
  have hA1 : h9.1 (k + 1) = xa_a 120 (fun _ => 0) := (oh9 _ (ne_kk (a := 1) (b := 5) (by decide))).trans hA1
  have hA2 : h9.1 (k + 2) = xa_a 2 (fun _ => 0) := (oh9 _ (ne_kk (a := 2) (b := 5) (by decide))).trans hA2
  have hA3 : h9.1 (k + 3) = xa_a 18 (fun _ => 0) := (oh9 _ (ne_kk (a := 3) (b := 5) (by decide))).trans hA3
  have hA4 : h9.1 (k + 4) = xa_a 2 (fun _ => 0) := (oh9 _ (ne_kk (a := 4) (b := 5) (by decide))).trans hA4
  have hA5 : h9.1 (k + 5) = xa_a 4 (fun _ => 0) := ch9
  have hcn : h9.2 = k + 6 := nh9
  have fr : ∀ i, i < k → h9.1 i = h.1 i := fun i hi => (oh9 i (by omega)).trans (fr i hi)
  refine xa_putwF (pc := 38) [xa_i 0, xa_r (k + 1), xa_r (k + 2), xa_r (k + 3), xa_r (k + 4), xa_r (k + 5), xa_n, xa_n, xa_n, xa_n, xa_n, xa_n, xa_n, xa_i 0, xa_i 0, xa_i 0, xa_n, xa_i 0, xa_i 0, xa_i 0, xa_i 0, xa_n, xa_n, xa_i 0, xa_n] dX10_init_38 rfl flRX10_22 plX10_5 (by omega) (by omega) hO trivial rfl rfl (fun h10 nh10 ch10 oh10 => ?_)
  have hO : h10.1 k = xa_o 10 [xa_i 0, xa_r (k + 1), xa_r (k + 2), xa_r (k + 3), xa_r (k + 4), xa_r (k + 5), xa_n, xa_n, xa_n, xa_n, xa_n, xa_n, xa_n, xa_i 0, xa_i 0, xa_i 0, xa_n, xa_i 0, xa_i 0, xa_i 0, xa_i 0, xa_n, xa_n, xa_i 0, xa_n] := ch10
  have hA1 : h10.1 (k + 1) = xa_a 120 (fun _ => 0) := (oh10 _ (ne_kk (a := 1) (b := 0) (by decide))).trans hA1
  have hA2 : h10.1 (k + 2) = xa_a 2 (fun _ => 0) := (oh10 _ (ne_kk (a := 2) (b := 0) (by decide))).trans hA2
  have hA3 : h10.1 (k + 3) = xa_a 18 (fun _ => 0) := (oh10 _ (ne_kk (a := 3) (b := 0) (by decide))).trans hA3
  have hA4 : h10.1 (k + 4) = xa_a 2 (fun _ => 0) := (oh10 _ (ne_kk (a := 4) (b := 0) (by decide))).trans hA4
  have hA5 : h10.1 (k + 5) = xa_a 4 (fun _ => 0) := (oh10 _ (ne_kk (a := 5) (b := 0) (by decide))).trans hA5
  have hcn : h10.2 = k + 6 := nh10.trans hcn
  have fr : ∀ i, i < k → h10.1 i = h.1 i := fun i hi => (oh10 i (by omega)).trans (fr i hi)
  refine xa_aload_n (pc := 41) dX10_init_41 rfl ?_
  refine xa_iconst (pc := 42) dX10_init_42 ?_
  refine xa_newap (pc := 43) (mc0 := 10) (ms0 := 1167506) 4 (k + 6) hcn dX10_init_43 rfl (by decide) rfl rfl (fun h11 nh11 ch11 oh11 => ?_)
  have hO : h11.1 k = xa_o 10 [xa_i 0, xa_r (k + 1), xa_r (k + 2), xa_r (k + 3), xa_r (k + 4), xa_r (k + 5), xa_n, xa_n, xa_n, xa_n, xa_n, xa_n, xa_n, xa_i 0, xa_i 0, xa_i 0, xa_n, xa_i 0, xa_i 0, xa_i 0, xa_i 0, xa_n, xa_n, xa_i 0, xa_n] := (oh11 _ (ne_kk (a := 0) (b := 6) (by decide))).trans hO
  have hA1 : h11.1 (k + 1) = xa_a 120 (fun _ => 0) := (oh11 _ (ne_kk (a := 1) (b := 6) (by decide))).trans hA1
  have hA2 : h11.1 (k + 2) = xa_a 2 (fun _ => 0) := (oh11 _ (ne_kk (a := 2) (b := 6) (by decide))).trans hA2
  have hA3 : h11.1 (k + 3) = xa_a 18 (fun _ => 0) := (oh11 _ (ne_kk (a := 3) (b := 6) (by decide))).trans hA3
  have hA4 : h11.1 (k + 4) = xa_a 2 (fun _ => 0) := (oh11 _ (ne_kk (a := 4) (b := 6) (by decide))).trans hA4
  have hA5 : h11.1 (k + 5) = xa_a 4 (fun _ => 0) := (oh11 _ (ne_kk (a := 5) (b := 6) (by decide))).trans hA5
  have hA6 : h11.1 (k + 6) = xa_a 4 (fun _ => 0) := ch11
  have hcn : h11.2 = k + 7 := nh11
  have fr : ∀ i, i < k → h11.1 i = h.1 i := fun i hi => (oh11 i (by omega)).trans (fr i hi)
  refine xa_putwF (pc := 45) [xa_i 0, xa_r (k + 1), xa_r (k + 2), xa_r (k + 3), xa_r (k + 4), xa_r (k + 5), xa_r (k + 6), xa_n, xa_n, xa_n, xa_n, xa_n, xa_n, xa_i 0, xa_i 0, xa_i 0, xa_n, xa_i 0, xa_i 0, xa_i 0, xa_i 0, xa_n, xa_n, xa_i 0, xa_n] dX10_init_45 rfl flRX10_25 plX10_6 (by omega) (by omega) hO trivial rfl rfl (fun h12 nh12 ch12 oh12 => ?_)
  have hO : h12.1 k = xa_o 10 [xa_i 0, xa_r (k + 1), xa_r (k + 2), xa_r (k + 3), xa_r (k + 4), xa_r (k + 5), xa_r (k + 6), xa_n, xa_n, xa_n, xa_n, xa_n, xa_n, xa_i 0, xa_i 0, xa_i 0, xa_n, xa_i 0, xa_i 0, xa_i 0, xa_i 0, xa_n, xa_n, xa_i 0, xa_n] := ch12
  have hA1 : h12.1 (k + 1) = xa_a 120 (fun _ => 0) := (oh12 _ (ne_kk (a := 1) (b := 0) (by decide))).trans hA1
  have hA2 : h12.1 (k + 2) = xa_a 2 (fun _ => 0) := (oh12 _ (ne_kk (a := 2) (b := 0) (by decide))).trans hA2
  have hA3 : h12.1 (k + 3) = xa_a 18 (fun _ => 0) := (oh12 _ (ne_kk (a := 3) (b := 0) (by decide))).trans hA3
  have hA4 : h12.1 (k + 4) = xa_a 2 (fun _ => 0) := (oh12 _ (ne_kk (a := 4) (b := 0) (by decide))).trans hA4
  have hA5 : h12.1 (k + 5) = xa_a 4 (fun _ => 0) := (oh12 _ (ne_kk (a := 5) (b := 0) (by decide))).trans hA5
  have hA6 : h12.1 (k + 6) = xa_a 4 (fun _ => 0) := (oh12 _ (ne_kk (a := 6) (b := 0) (by decide))).trans hA6
  have hcn : h12.2 = k + 7 := nh12.trans hcn
  have fr : ∀ i, i < k → h12.1 i = h.1 i := fun i hi => (oh12 i (by omega)).trans (fr i hi)
  refine xa_aload_n (pc := 48) dX10_init_48 rfl ?_
  refine xa_iconst (pc := 49) dX10_init_49 ?_
  refine xa_newap (pc := 50) (mc0 := 9) (ms0 := 1167504) 2 (k + 7) hcn dX10_init_50 rfl (by decide) rfl rfl (fun h13 nh13 ch13 oh13 => ?_)
  have hO : h13.1 k = xa_o 10 [xa_i 0, xa_r (k + 1), xa_r (k + 2), xa_r (k + 3), xa_r (k + 4), xa_r (k + 5), xa_r (k + 6), xa_n, xa_n, xa_n, xa_n, xa_n, xa_n, xa_i 0, xa_i 0, xa_i 0, xa_n, xa_i 0, xa_i 0, xa_i 0, xa_i 0, xa_n, xa_n, xa_i 0, xa_n] := (oh13 _ (ne_kk (a := 0) (b := 7) (by decide))).trans hO
  have hA1 : h13.1 (k + 1) = xa_a 120 (fun _ => 0) := (oh13 _ (ne_kk (a := 1) (b := 7) (by decide))).trans hA1
  have hA2 : h13.1 (k + 2) = xa_a 2 (fun _ => 0) := (oh13 _ (ne_kk (a := 2) (b := 7) (by decide))).trans hA2
  have hA3 : h13.1 (k + 3) = xa_a 18 (fun _ => 0) := (oh13 _ (ne_kk (a := 3) (b := 7) (by decide))).trans hA3
  have hA4 : h13.1 (k + 4) = xa_a 2 (fun _ => 0) := (oh13 _ (ne_kk (a := 4) (b := 7) (by decide))).trans hA4
  have hA5 : h13.1 (k + 5) = xa_a 4 (fun _ => 0) := (oh13 _ (ne_kk (a := 5) (b := 7) (by decide))).trans hA5
  have hA6 : h13.1 (k + 6) = xa_a 4 (fun _ => 0) := (oh13 _ (ne_kk (a := 6) (b := 7) (by decide))).trans hA6
  have hA7 : h13.1 (k + 7) = xa_a 2 (fun _ => 0) := ch13
  have hcn : h13.2 = k + 8 := nh13
  have fr : ∀ i, i < k → h13.1 i = h.1 i := fun i hi => (oh13 i (by omega)).trans (fr i hi)
  refine xa_putwF (pc := 52) [xa_i 0, xa_r (k + 1), xa_r (k + 2), xa_r (k + 3), xa_r (k + 4), xa_r (k + 5), xa_r (k + 6), xa_r (k + 7), xa_n, xa_n, xa_n, xa_n, xa_n, xa_i 0, xa_i 0, xa_i 0, xa_n, xa_i 0, xa_i 0, xa_i 0, xa_i 0, xa_n, xa_n, xa_i 0, xa_n] dX10_init_52 rfl flRX10_28 plX10_7 (by omega) (by omega) hO trivial rfl rfl (fun h14 nh14 ch14 oh14 => ?_)
  have hO : h14.1 k = xa_o 10 [xa_i 0, xa_r (k + 1), xa_r (k + 2), xa_r (k + 3), xa_r (k + 4), xa_r (k + 5), xa_r (k + 6), xa_r (k + 7), xa_n, xa_n, xa_n, xa_n, xa_n, xa_i 0, xa_i 0, xa_i 0, xa_n, xa_i 0, xa_i 0, xa_i 0, xa_i 0, xa_n, xa_n, xa_i 0, xa_n] := ch14
  have hA1 : h14.1 (k + 1) = xa_a 120 (fun _ => 0) := (oh14 _ (ne_kk (a := 1) (b := 0) (by decide))).trans hA1
  have hA2 : h14.1 (k + 2) = xa_a 2 (fun _ => 0) := (oh14 _ (ne_kk (a := 2) (b := 0) (by decide))).trans hA2
  have hA3 : h14.1 (k + 3) = xa_a 18 (fun _ => 0) := (oh14 _ (ne_kk (a := 3) (b := 0) (by decide))).trans hA3
  have hA4 : h14.1 (k + 4) = xa_a 2 (fun _ => 0) := (oh14 _ (ne_kk (a := 4) (b := 0) (by decide))).trans hA4
  have hA5 : h14.1 (k + 5) = xa_a 4 (fun _ => 0) := (oh14 _ (ne_kk (a := 5) (b := 0) (by decide))).trans hA5
  have hA6 : h14.1 (k + 6) = xa_a 4 (fun _ => 0) := (oh14 _ (ne_kk (a := 6) (b := 0) (by decide))).trans hA6
  have hA7 : h14.1 (k + 7) = xa_a 2 (fun _ => 0) := (oh14 _ (ne_kk (a := 7) (b := 0) (by decide))).trans hA7
  have hcn : h14.2 = k + 8 := nh14.trans hcn
  have fr : ∀ i, i < k → h14.1 i = h.1 i := fun i hi => (oh14 i (by omega)).trans (fr i hi)
  refine xa_aload_n (pc := 55) dX10_init_55 rfl ?_
  refine xa_iconst (pc := 56) dX10_init_56 ?_
  refine xa_newap (pc := 57) (mc0 := 8) (ms0 := 1167502) 2 (k + 8) hcn dX10_init_57 rfl (by decide) rfl rfl (fun h15 nh15 ch15 oh15 => ?_)
  have hO : h15.1 k = xa_o 10 [xa_i 0, xa_r (k + 1), xa_r (k + 2), xa_r (k + 3), xa_r (k + 4), xa_r (k + 5), xa_r (k + 6), xa_r (k + 7), xa_n, xa_n, xa_n, xa_n, xa_n, xa_i 0, xa_i 0, xa_i 0, xa_n, xa_i 0, xa_i 0, xa_i 0, xa_i 0, xa_n, xa_n, xa_i 0, xa_n] := (oh15 _ (ne_kk (a := 0) (b := 8) (by decide))).trans hO
  have hA1 : h15.1 (k + 1) = xa_a 120 (fun _ => 0) := (oh15 _ (ne_kk (a := 1) (b := 8) (by decide))).trans hA1
  have hA2 : h15.1 (k + 2) = xa_a 2 (fun _ => 0) := (oh15 _ (ne_kk (a := 2) (b := 8) (by decide))).trans hA2
  have hA3 : h15.1 (k + 3) = xa_a 18 (fun _ => 0) := (oh15 _ (ne_kk (a := 3) (b := 8) (by decide))).trans hA3
  have hA4 : h15.1 (k + 4) = xa_a 2 (fun _ => 0) := (oh15 _ (ne_kk (a := 4) (b := 8) (by decide))).trans hA4
  have hA5 : h15.1 (k + 5) = xa_a 4 (fun _ => 0) := (oh15 _ (ne_kk (a := 5) (b := 8) (by decide))).trans hA5
  have hA6 : h15.1 (k + 6) = xa_a 4 (fun _ => 0) := (oh15 _ (ne_kk (a := 6) (b := 8) (by decide))).trans hA6
  have hA7 : h15.1 (k + 7) = xa_a 2 (fun _ => 0) := (oh15 _ (ne_kk (a := 7) (b := 8) (by decide))).trans hA7
  have hA8 : h15.1 (k + 8) = xa_a 2 (fun _ => 0) := ch15
  have hcn : h15.2 = k + 9 := nh15
  have fr : ∀ i, i < k → h15.1 i = h.1 i := fun i hi => (oh15 i (by omega)).trans (fr i hi)
  refine xa_putwF (pc := 59) [xa_i 0, xa_r (k + 1), xa_r (k + 2), xa_r (k + 3), xa_r (k + 4), xa_r (k + 5), xa_r (k + 6), xa_r (k + 7), xa_r (k + 8), xa_n, xa_n, xa_n, xa_n, xa_i 0, xa_i 0, xa_i 0, xa_n, xa_i 0, xa_i 0, xa_i 0, xa_i 0, xa_n, xa_n, xa_i 0, xa_n] dX10_init_59 rfl flRX10_31 plX10_8 (by omega) (by omega) hO trivial rfl rfl (fun h16 nh16 ch16 oh16 => ?_)
  have hO : h16.1 k = xa_o 10 [xa_i 0, xa_r (k + 1), xa_r (k + 2), xa_r (k + 3), xa_r (k + 4), xa_r (k + 5), xa_r (k + 6), xa_r (k + 7), xa_r (k + 8), xa_n, xa_n, xa_n, xa_n, xa_i 0, xa_i 0, xa_i 0, xa_n, xa_i 0, xa_i 0, xa_i 0, xa_i 0, xa_n, xa_n, xa_i 0, xa_n] := ch16
  have hA1 : h16.1 (k + 1) = xa_a 120 (fun _ => 0) := (oh16 _ (ne_kk (a := 1) (b := 0) (by decide))).trans hA1
  have hA2 : h16.1 (k + 2) = xa_a 2 (fun _ => 0) := (oh16 _ (ne_kk (a := 2) (b := 0) (by decide))).trans hA2
  have hA3 : h16.1 (k + 3) = xa_a 18 (fun _ => 0) := (oh16 _ (ne_kk (a := 3) (b := 0) (by decide))).trans hA3
  have hA4 : h16.1 (k + 4) = xa_a 2 (fun _ => 0) := (oh16 _ (ne_kk (a := 4) (b := 0) (by decide))).trans hA4
  have hA5 : h16.1 (k + 5) = xa_a 4 (fun _ => 0) := (oh16 _ (ne_kk (a := 5) (b := 0) (by decide))).trans hA5
  have hA6 : h16.1 (k + 6) = xa_a 4 (fun _ => 0) := (oh16 _ (ne_kk (a := 6) (b := 0) (by decide))).trans hA6
  have hA7 : h16.1 (k + 7) = xa_a 2 (fun _ => 0) := (oh16 _ (ne_kk (a := 7) (b := 0) (by decide))).trans hA7
  have hA8 : h16.1 (k + 8) = xa_a 2 (fun _ => 0) := (oh16 _ (ne_kk (a := 8) (b := 0) (by decide))).trans hA8
  have hcn : h16.2 = k + 9 := nh16.trans hcn
  have fr : ∀ i, i < k → h16.1 i = h.1 i := fun i hi => (oh16 i (by omega)).trans (fr i hi)
  refine xa_aload_n (pc := 62) dX10_init_62 rfl ?_
  refine xa_bipush (pc := 63) dX10_init_63 rfl ?_
  refine xa_newap (pc := 65) (mc0 := 7) (ms0 := 1167490) 12 (k + 9) hcn dX10_init_65 rfl (by decide) rfl rfl (fun h17 nh17 ch17 oh17 => ?_)
  have hO : h17.1 k = xa_o 10 [xa_i 0, xa_r (k + 1), xa_r (k + 2), xa_r (k + 3), xa_r (k + 4), xa_r (k + 5), xa_r (k + 6), xa_r (k + 7), xa_r (k + 8), xa_n, xa_n, xa_n, xa_n, xa_i 0, xa_i 0, xa_i 0, xa_n, xa_i 0, xa_i 0, xa_i 0, xa_i 0, xa_n, xa_n, xa_i 0, xa_n] := (oh17 _ (ne_kk (a := 0) (b := 9) (by decide))).trans hO
  have hA1 : h17.1 (k + 1) = xa_a 120 (fun _ => 0) := (oh17 _ (ne_kk (a := 1) (b := 9) (by decide))).trans hA1
  have hA2 : h17.1 (k + 2) = xa_a 2 (fun _ => 0) := (oh17 _ (ne_kk (a := 2) (b := 9) (by decide))).trans hA2
  have hA3 : h17.1 (k + 3) = xa_a 18 (fun _ => 0) := (oh17 _ (ne_kk (a := 3) (b := 9) (by decide))).trans hA3
  have hA4 : h17.1 (k + 4) = xa_a 2 (fun _ => 0) := (oh17 _ (ne_kk (a := 4) (b := 9) (by decide))).trans hA4
  have hA5 : h17.1 (k + 5) = xa_a 4 (fun _ => 0) := (oh17 _ (ne_kk (a := 5) (b := 9) (by decide))).trans hA5
  have hA6 : h17.1 (k + 6) = xa_a 4 (fun _ => 0) := (oh17 _ (ne_kk (a := 6) (b := 9) (by decide))).trans hA6
  have hA7 : h17.1 (k + 7) = xa_a 2 (fun _ => 0) := (oh17 _ (ne_kk (a := 7) (b := 9) (by decide))).trans hA7
  have hA8 : h17.1 (k + 8) = xa_a 2 (fun _ => 0) := (oh17 _ (ne_kk (a := 8) (b := 9) (by decide))).trans hA8
  have hA9 : h17.1 (k + 9) = xa_a 12 (fun _ => 0) := ch17
  have hcn : h17.2 = k + 10 := nh17
  have fr : ∀ i, i < k → h17.1 i = h.1 i := fun i hi => (oh17 i (by omega)).trans (fr i hi)
  refine xa_putwF (pc := 67) [xa_i 0, xa_r (k + 1), xa_r (k + 2), xa_r (k + 3), xa_r (k + 4), xa_r (k + 5), xa_r (k + 6), xa_r (k + 7), xa_r (k + 8), xa_r (k + 9), xa_n, xa_n, xa_n, xa_i 0, xa_i 0, xa_i 0, xa_n, xa_i 0, xa_i 0, xa_i 0, xa_i 0, xa_n, xa_n, xa_i 0, xa_n] dX10_init_67 rfl flRX10_34 plX10_9 (by omega) (by omega) hO trivial rfl rfl (fun h18 nh18 ch18 oh18 => ?_)
  have hO : h18.1 k = xa_o 10 [xa_i 0, xa_r (k + 1), xa_r (k + 2), xa_r (k + 3), xa_r (k + 4), xa_r (k + 5), xa_r (k + 6), xa_r (k + 7), xa_r (k + 8), xa_r (k + 9), xa_n, xa_n, xa_n, xa_i 0, xa_i 0, xa_i 0, xa_n, xa_i 0, xa_i 0, xa_i 0, xa_i 0, xa_n, xa_n, xa_i 0, xa_n] := ch18
  have hA1 : h18.1 (k + 1) = xa_a 120 (fun _ => 0) := (oh18 _ (ne_kk (a := 1) (b := 0) (by decide))).trans hA1
  have hA2 : h18.1 (k + 2) = xa_a 2 (fun _ => 0) := (oh18 _ (ne_kk (a := 2) (b := 0) (by decide))).trans hA2
  have hA3 : h18.1 (k + 3) = xa_a 18 (fun _ => 0) := (oh18 _ (ne_kk (a := 3) (b := 0) (by decide))).trans hA3
  have hA4 : h18.1 (k + 4) = xa_a 2 (fun _ => 0) := (oh18 _ (ne_kk (a := 4) (b := 0) (by decide))).trans hA4
  have hA5 : h18.1 (k + 5) = xa_a 4 (fun _ => 0) := (oh18 _ (ne_kk (a := 5) (b := 0) (by decide))).trans hA5
  have hA6 : h18.1 (k + 6) = xa_a 4 (fun _ => 0) := (oh18 _ (ne_kk (a := 6) (b := 0) (by decide))).trans hA6
  have hA7 : h18.1 (k + 7) = xa_a 2 (fun _ => 0) := (oh18 _ (ne_kk (a := 7) (b := 0) (by decide))).trans hA7
  have hA8 : h18.1 (k + 8) = xa_a 2 (fun _ => 0) := (oh18 _ (ne_kk (a := 8) (b := 0) (by decide))).trans hA8
  have hA9 : h18.1 (k + 9) = xa_a 12 (fun _ => 0) := (oh18 _ (ne_kk (a := 9) (b := 0) (by decide))).trans hA9
  have hcn : h18.2 = k + 10 := nh18.trans hcn
  have fr : ∀ i, i < k → h18.1 i = h.1 i := fun i hi => (oh18 i (by omega)).trans (fr i hi)
  refine xa_aload_n (pc := 70) dX10_init_70 rfl ?_
  refine xa_sipush (pc := 71) dX10_init_71 rfl ?_
  refine xa_newap (pc := 74) (mc0 := 6) (ms0 := 1166770) 720 (k + 10) hcn dX10_init_74 rfl (by decide) rfl rfl (fun h19 nh19 ch19 oh19 => ?_)
  have hO : h19.1 k = xa_o 10 [xa_i 0, xa_r (k + 1), xa_r (k + 2), xa_r (k + 3), xa_r (k + 4), xa_r (k + 5), xa_r (k + 6), xa_r (k + 7), xa_r (k + 8), xa_r (k + 9), xa_n, xa_n, xa_n, xa_i 0, xa_i 0, xa_i 0, xa_n, xa_i 0, xa_i 0, xa_i 0, xa_i 0, xa_n, xa_n, xa_i 0, xa_n] := (oh19 _ (ne_kk (a := 0) (b := 10) (by decide))).trans hO
  have hA1 : h19.1 (k + 1) = xa_a 120 (fun _ => 0) := (oh19 _ (ne_kk (a := 1) (b := 10) (by decide))).trans hA1
  have hA2 : h19.1 (k + 2) = xa_a 2 (fun _ => 0) := (oh19 _ (ne_kk (a := 2) (b := 10) (by decide))).trans hA2
  have hA3 : h19.1 (k + 3) = xa_a 18 (fun _ => 0) := (oh19 _ (ne_kk (a := 3) (b := 10) (by decide))).trans hA3
  have hA4 : h19.1 (k + 4) = xa_a 2 (fun _ => 0) := (oh19 _ (ne_kk (a := 4) (b := 10) (by decide))).trans hA4
  have hA5 : h19.1 (k + 5) = xa_a 4 (fun _ => 0) := (oh19 _ (ne_kk (a := 5) (b := 10) (by decide))).trans hA5
  have hA6 : h19.1 (k + 6) = xa_a 4 (fun _ => 0) := (oh19 _ (ne_kk (a := 6) (b := 10) (by decide))).trans hA6
  have hA7 : h19.1 (k + 7) = xa_a 2 (fun _ => 0) := (oh19 _ (ne_kk (a := 7) (b := 10) (by decide))).trans hA7
  have hA8 : h19.1 (k + 8) = xa_a 2 (fun _ => 0) := (oh19 _ (ne_kk (a := 8) (b := 10) (by decide))).trans hA8
  have hA9 : h19.1 (k + 9) = xa_a 12 (fun _ => 0) := (oh19 _ (ne_kk (a := 9) (b := 10) (by decide))).trans hA9
  have hA10 : h19.1 (k + 10) = xa_a 720 (fun _ => 0) := ch19
  have hcn : h19.2 = k + 11 := nh19
  have fr : ∀ i, i < k → h19.1 i = h.1 i := fun i hi => (oh19 i (by omega)).trans (fr i hi)
  refine xa_putwF (pc := 76) [xa_i 0, xa_r (k + 1), xa_r (k + 2), xa_r (k + 3), xa_r (k + 4), xa_r (k + 5), xa_r (k + 6), xa_r (k + 7), xa_r (k + 8), xa_r (k + 9), xa_r (k + 10), xa_n, xa_n, xa_i 0, xa_i 0, xa_i 0, xa_n, xa_i 0, xa_i 0, xa_i 0, xa_i 0, xa_n, xa_n, xa_i 0, xa_n] dX10_init_76 rfl flRX10_37 plX10_10 (by omega) (by omega) hO trivial rfl rfl (fun h20 nh20 ch20 oh20 => ?_)
  have hO : h20.1 k = xa_o 10 [xa_i 0, xa_r (k + 1), xa_r (k + 2), xa_r (k + 3), xa_r (k + 4), xa_r (k + 5), xa_r (k + 6), xa_r (k + 7), xa_r (k + 8), xa_r (k + 9), xa_r (k + 10), xa_n, xa_n, xa_i 0, xa_i 0, xa_i 0, xa_n, xa_i 0, xa_i 0, xa_i 0, xa_i 0, xa_n, xa_n, xa_i 0, xa_n] := ch20
  have hA1 : h20.1 (k + 1) = xa_a 120 (fun _ => 0) := (oh20 _ (ne_kk (a := 1) (b := 0) (by decide))).trans hA1
  have hA2 : h20.1 (k + 2) = xa_a 2 (fun _ => 0) := (oh20 _ (ne_kk (a := 2) (b := 0) (by decide))).trans hA2
  have hA3 : h20.1 (k + 3) = xa_a 18 (fun _ => 0) := (oh20 _ (ne_kk (a := 3) (b := 0) (by decide))).trans hA3
  have hA4 : h20.1 (k + 4) = xa_a 2 (fun _ => 0) := (oh20 _ (ne_kk (a := 4) (b := 0) (by decide))).trans hA4
  have hA5 : h20.1 (k + 5) = xa_a 4 (fun _ => 0) := (oh20 _ (ne_kk (a := 5) (b := 0) (by decide))).trans hA5
  have hA6 : h20.1 (k + 6) = xa_a 4 (fun _ => 0) := (oh20 _ (ne_kk (a := 6) (b := 0) (by decide))).trans hA6
  have hA7 : h20.1 (k + 7) = xa_a 2 (fun _ => 0) := (oh20 _ (ne_kk (a := 7) (b := 0) (by decide))).trans hA7
  have hA8 : h20.1 (k + 8) = xa_a 2 (fun _ => 0) := (oh20 _ (ne_kk (a := 8) (b := 0) (by decide))).trans hA8
  have hA9 : h20.1 (k + 9) = xa_a 12 (fun _ => 0) := (oh20 _ (ne_kk (a := 9) (b := 0) (by decide))).trans hA9
  have hA10 : h20.1 (k + 10) = xa_a 720 (fun _ => 0) := (oh20 _ (ne_kk (a := 10) (b := 0) (by decide))).trans hA10
  have hcn : h20.2 = k + 11 := nh20.trans hcn
  have fr : ∀ i, i < k → h20.1 i = h.1 i := fun i hi => (oh20 i (by omega)).trans (fr i hi)
  refine xa_aload_n (pc := 79) dX10_init_79 rfl ?_
  refine xa_iconst (pc := 80) dX10_init_80 ?_
  refine xa_newap (pc := 81) (mc0 := 5) (ms0 := 1166767) 3 (k + 11) hcn dX10_init_81 rfl (by decide) rfl rfl (fun h21 nh21 ch21 oh21 => ?_)
  have hO : h21.1 k = xa_o 10 [xa_i 0, xa_r (k + 1), xa_r (k + 2), xa_r (k + 3), xa_r (k + 4), xa_r (k + 5), xa_r (k + 6), xa_r (k + 7), xa_r (k + 8), xa_r (k + 9), xa_r (k + 10), xa_n, xa_n, xa_i 0, xa_i 0, xa_i 0, xa_n, xa_i 0, xa_i 0, xa_i 0, xa_i 0, xa_n, xa_n, xa_i 0, xa_n] := (oh21 _ (ne_kk (a := 0) (b := 11) (by decide))).trans hO
  have hA1 : h21.1 (k + 1) = xa_a 120 (fun _ => 0) := (oh21 _ (ne_kk (a := 1) (b := 11) (by decide))).trans hA1
  have hA2 : h21.1 (k + 2) = xa_a 2 (fun _ => 0) := (oh21 _ (ne_kk (a := 2) (b := 11) (by decide))).trans hA2
  have hA3 : h21.1 (k + 3) = xa_a 18 (fun _ => 0) := (oh21 _ (ne_kk (a := 3) (b := 11) (by decide))).trans hA3
  have hA4 : h21.1 (k + 4) = xa_a 2 (fun _ => 0) := (oh21 _ (ne_kk (a := 4) (b := 11) (by decide))).trans hA4
  have hA5 : h21.1 (k + 5) = xa_a 4 (fun _ => 0) := (oh21 _ (ne_kk (a := 5) (b := 11) (by decide))).trans hA5
  have hA6 : h21.1 (k + 6) = xa_a 4 (fun _ => 0) := (oh21 _ (ne_kk (a := 6) (b := 11) (by decide))).trans hA6
  have hA7 : h21.1 (k + 7) = xa_a 2 (fun _ => 0) := (oh21 _ (ne_kk (a := 7) (b := 11) (by decide))).trans hA7
  have hA8 : h21.1 (k + 8) = xa_a 2 (fun _ => 0) := (oh21 _ (ne_kk (a := 8) (b := 11) (by decide))).trans hA8
  have hA9 : h21.1 (k + 9) = xa_a 12 (fun _ => 0) := (oh21 _ (ne_kk (a := 9) (b := 11) (by decide))).trans hA9
  have hA10 : h21.1 (k + 10) = xa_a 720 (fun _ => 0) := (oh21 _ (ne_kk (a := 10) (b := 11) (by decide))).trans hA10
  have hA11 : h21.1 (k + 11) = xa_a 3 (fun _ => 0) := ch21
  have hcn : h21.2 = k + 12 := nh21
  have fr : ∀ i, i < k → h21.1 i = h.1 i := fun i hi => (oh21 i (by omega)).trans (fr i hi)
  refine xa_putwF (pc := 83) [xa_i 0, xa_r (k + 1), xa_r (k + 2), xa_r (k + 3), xa_r (k + 4), xa_r (k + 5), xa_r (k + 6), xa_r (k + 7), xa_r (k + 8), xa_r (k + 9), xa_r (k + 10), xa_r (k + 11), xa_n, xa_i 0, xa_i 0, xa_i 0, xa_n, xa_i 0, xa_i 0, xa_i 0, xa_i 0, xa_n, xa_n, xa_i 0, xa_n] dX10_init_83 rfl flRX10_40 plX10_11 (by omega) (by omega) hO trivial rfl rfl (fun h22 nh22 ch22 oh22 => ?_)
  have hO : h22.1 k = xa_o 10 [xa_i 0, xa_r (k + 1), xa_r (k + 2), xa_r (k + 3), xa_r (k + 4), xa_r (k + 5), xa_r (k + 6), xa_r (k + 7), xa_r (k + 8), xa_r (k + 9), xa_r (k + 10), xa_r (k + 11), xa_n, xa_i 0, xa_i 0, xa_i 0, xa_n, xa_i 0, xa_i 0, xa_i 0, xa_i 0, xa_n, xa_n, xa_i 0, xa_n] := ch22
  have hA1 : h22.1 (k + 1) = xa_a 120 (fun _ => 0) := (oh22 _ (ne_kk (a := 1) (b := 0) (by decide))).trans hA1
  have hA2 : h22.1 (k + 2) = xa_a 2 (fun _ => 0) := (oh22 _ (ne_kk (a := 2) (b := 0) (by decide))).trans hA2
  have hA3 : h22.1 (k + 3) = xa_a 18 (fun _ => 0) := (oh22 _ (ne_kk (a := 3) (b := 0) (by decide))).trans hA3
  have hA4 : h22.1 (k + 4) = xa_a 2 (fun _ => 0) := (oh22 _ (ne_kk (a := 4) (b := 0) (by decide))).trans hA4
  have hA5 : h22.1 (k + 5) = xa_a 4 (fun _ => 0) := (oh22 _ (ne_kk (a := 5) (b := 0) (by decide))).trans hA5
  have hA6 : h22.1 (k + 6) = xa_a 4 (fun _ => 0) := (oh22 _ (ne_kk (a := 6) (b := 0) (by decide))).trans hA6
  have hA7 : h22.1 (k + 7) = xa_a 2 (fun _ => 0) := (oh22 _ (ne_kk (a := 7) (b := 0) (by decide))).trans hA7
  have hA8 : h22.1 (k + 8) = xa_a 2 (fun _ => 0) := (oh22 _ (ne_kk (a := 8) (b := 0) (by decide))).trans hA8
  have hA9 : h22.1 (k + 9) = xa_a 12 (fun _ => 0) := (oh22 _ (ne_kk (a := 9) (b := 0) (by decide))).trans hA9
  have hA10 : h22.1 (k + 10) = xa_a 720 (fun _ => 0) := (oh22 _ (ne_kk (a := 10) (b := 0) (by decide))).trans hA10
  have hA11 : h22.1 (k + 11) = xa_a 3 (fun _ => 0) := (oh22 _ (ne_kk (a := 11) (b := 0) (by decide))).trans hA11
  have hcn : h22.2 = k + 12 := nh22.trans hcn
  have fr : ∀ i, i < k → h22.1 i = h.1 i := fun i hi => (oh22 i (by omega)).trans (fr i hi)
  refine xa_aload_n (pc := 86) dX10_init_86 rfl ?_
  refine xa_sipush (pc := 87) dX10_init_87 rfl ?_
  refine xa_newap (pc := 90) (mc0 := 4) (ms0 := 1166407) 360 (k + 12) hcn dX10_init_90 rfl (by decide) rfl rfl (fun h23 nh23 ch23 oh23 => ?_)
  have hO : h23.1 k = xa_o 10 [xa_i 0, xa_r (k + 1), xa_r (k + 2), xa_r (k + 3), xa_r (k + 4), xa_r (k + 5), xa_r (k + 6), xa_r (k + 7), xa_r (k + 8), xa_r (k + 9), xa_r (k + 10), xa_r (k + 11), xa_n, xa_i 0, xa_i 0, xa_i 0, xa_n, xa_i 0, xa_i 0, xa_i 0, xa_i 0, xa_n, xa_n, xa_i 0, xa_n] := (oh23 _ (ne_kk (a := 0) (b := 12) (by decide))).trans hO
  have hA1 : h23.1 (k + 1) = xa_a 120 (fun _ => 0) := (oh23 _ (ne_kk (a := 1) (b := 12) (by decide))).trans hA1
  have hA2 : h23.1 (k + 2) = xa_a 2 (fun _ => 0) := (oh23 _ (ne_kk (a := 2) (b := 12) (by decide))).trans hA2
  have hA3 : h23.1 (k + 3) = xa_a 18 (fun _ => 0) := (oh23 _ (ne_kk (a := 3) (b := 12) (by decide))).trans hA3
  have hA4 : h23.1 (k + 4) = xa_a 2 (fun _ => 0) := (oh23 _ (ne_kk (a := 4) (b := 12) (by decide))).trans hA4
  have hA5 : h23.1 (k + 5) = xa_a 4 (fun _ => 0) := (oh23 _ (ne_kk (a := 5) (b := 12) (by decide))).trans hA5
  have hA6 : h23.1 (k + 6) = xa_a 4 (fun _ => 0) := (oh23 _ (ne_kk (a := 6) (b := 12) (by decide))).trans hA6
  have hA7 : h23.1 (k + 7) = xa_a 2 (fun _ => 0) := (oh23 _ (ne_kk (a := 7) (b := 12) (by decide))).trans hA7
  have hA8 : h23.1 (k + 8) = xa_a 2 (fun _ => 0) := (oh23 _ (ne_kk (a := 8) (b := 12) (by decide))).trans hA8
  have hA9 : h23.1 (k + 9) = xa_a 12 (fun _ => 0) := (oh23 _ (ne_kk (a := 9) (b := 12) (by decide))).trans hA9
  have hA10 : h23.1 (k + 10) = xa_a 720 (fun _ => 0) := (oh23 _ (ne_kk (a := 10) (b := 12) (by decide))).trans hA10
  have hA11 : h23.1 (k + 11) = xa_a 3 (fun _ => 0) := (oh23 _ (ne_kk (a := 11) (b := 12) (by decide))).trans hA11
  have hA12 : h23.1 (k + 12) = xa_a 360 (fun _ => 0) := ch23
  have hcn : h23.2 = k + 13 := nh23
  have fr : ∀ i, i < k → h23.1 i = h.1 i := fun i hi => (oh23 i (by omega)).trans (fr i hi)
  refine xa_putwF (pc := 92) [xa_i 0, xa_r (k + 1), xa_r (k + 2), xa_r (k + 3), xa_r (k + 4), xa_r (k + 5), xa_r (k + 6), xa_r (k + 7), xa_r (k + 8), xa_r (k + 9), xa_r (k + 10), xa_r (k + 11), xa_r (k + 12), xa_i 0, xa_i 0, xa_i 0, xa_n, xa_i 0, xa_i 0, xa_i 0, xa_i 0, xa_n, xa_n, xa_i 0, xa_n] dX10_init_92 rfl flRX10_43 plX10_12 (by omega) (by omega) hO trivial rfl rfl (fun h24 nh24 ch24 oh24 => ?_)
  have hO : h24.1 k = xa_o 10 [xa_i 0, xa_r (k + 1), xa_r (k + 2), xa_r (k + 3), xa_r (k + 4), xa_r (k + 5), xa_r (k + 6), xa_r (k + 7), xa_r (k + 8), xa_r (k + 9), xa_r (k + 10), xa_r (k + 11), xa_r (k + 12), xa_i 0, xa_i 0, xa_i 0, xa_n, xa_i 0, xa_i 0, xa_i 0, xa_i 0, xa_n, xa_n, xa_i 0, xa_n] := ch24
  have hA1 : h24.1 (k + 1) = xa_a 120 (fun _ => 0) := (oh24 _ (ne_kk (a := 1) (b := 0) (by decide))).trans hA1
  have hA2 : h24.1 (k + 2) = xa_a 2 (fun _ => 0) := (oh24 _ (ne_kk (a := 2) (b := 0) (by decide))).trans hA2
  have hA3 : h24.1 (k + 3) = xa_a 18 (fun _ => 0) := (oh24 _ (ne_kk (a := 3) (b := 0) (by decide))).trans hA3
  have hA4 : h24.1 (k + 4) = xa_a 2 (fun _ => 0) := (oh24 _ (ne_kk (a := 4) (b := 0) (by decide))).trans hA4
  have hA5 : h24.1 (k + 5) = xa_a 4 (fun _ => 0) := (oh24 _ (ne_kk (a := 5) (b := 0) (by decide))).trans hA5
  have hA6 : h24.1 (k + 6) = xa_a 4 (fun _ => 0) := (oh24 _ (ne_kk (a := 6) (b := 0) (by decide))).trans hA6
  have hA7 : h24.1 (k + 7) = xa_a 2 (fun _ => 0) := (oh24 _ (ne_kk (a := 7) (b := 0) (by decide))).trans hA7
  have hA8 : h24.1 (k + 8) = xa_a 2 (fun _ => 0) := (oh24 _ (ne_kk (a := 8) (b := 0) (by decide))).trans hA8
  have hA9 : h24.1 (k + 9) = xa_a 12 (fun _ => 0) := (oh24 _ (ne_kk (a := 9) (b := 0) (by decide))).trans hA9
  have hA10 : h24.1 (k + 10) = xa_a 720 (fun _ => 0) := (oh24 _ (ne_kk (a := 10) (b := 0) (by decide))).trans hA10
  have hA11 : h24.1 (k + 11) = xa_a 3 (fun _ => 0) := (oh24 _ (ne_kk (a := 11) (b := 0) (by decide))).trans hA11
  have hA12 : h24.1 (k + 12) = xa_a 360 (fun _ => 0) := (oh24 _ (ne_kk (a := 12) (b := 0) (by decide))).trans hA12
  have hcn : h24.2 = k + 13 := nh24.trans hcn
  have fr : ∀ i, i < k → h24.1 i = h.1 i := fun i hi => (oh24 i (by omega)).trans (fr i hi)
  refine xa_aload_n (pc := 95) dX10_init_95 rfl ?_
  refine xa_iconst (pc := 96) dX10_init_96 ?_
  refine xa_newap (pc := 97) (mc0 := 3) (ms0 := 1166404) 3 (k + 13) hcn dX10_init_97 rfl (by decide) rfl rfl (fun h25 nh25 ch25 oh25 => ?_)
  have hO : h25.1 k = xa_o 10 [xa_i 0, xa_r (k + 1), xa_r (k + 2), xa_r (k + 3), xa_r (k + 4), xa_r (k + 5), xa_r (k + 6), xa_r (k + 7), xa_r (k + 8), xa_r (k + 9), xa_r (k + 10), xa_r (k + 11), xa_r (k + 12), xa_i 0, xa_i 0, xa_i 0, xa_n, xa_i 0, xa_i 0, xa_i 0, xa_i 0, xa_n, xa_n, xa_i 0, xa_n] := (oh25 _ (ne_kk (a := 0) (b := 13) (by decide))).trans hO
  have hA1 : h25.1 (k + 1) = xa_a 120 (fun _ => 0) := (oh25 _ (ne_kk (a := 1) (b := 13) (by decide))).trans hA1
  have hA2 : h25.1 (k + 2) = xa_a 2 (fun _ => 0) := (oh25 _ (ne_kk (a := 2) (b := 13) (by decide))).trans hA2
  have hA3 : h25.1 (k + 3) = xa_a 18 (fun _ => 0) := (oh25 _ (ne_kk (a := 3) (b := 13) (by decide))).trans hA3
  have hA4 : h25.1 (k + 4) = xa_a 2 (fun _ => 0) := (oh25 _ (ne_kk (a := 4) (b := 13) (by decide))).trans hA4
  have hA5 : h25.1 (k + 5) = xa_a 4 (fun _ => 0) := (oh25 _ (ne_kk (a := 5) (b := 13) (by decide))).trans hA5
  have hA6 : h25.1 (k + 6) = xa_a 4 (fun _ => 0) := (oh25 _ (ne_kk (a := 6) (b := 13) (by decide))).trans hA6
  have hA7 : h25.1 (k + 7) = xa_a 2 (fun _ => 0) := (oh25 _ (ne_kk (a := 7) (b := 13) (by decide))).trans hA7
  have hA8 : h25.1 (k + 8) = xa_a 2 (fun _ => 0) := (oh25 _ (ne_kk (a := 8) (b := 13) (by decide))).trans hA8
  have hA9 : h25.1 (k + 9) = xa_a 12 (fun _ => 0) := (oh25 _ (ne_kk (a := 9) (b := 13) (by decide))).trans hA9
  have hA10 : h25.1 (k + 10) = xa_a 720 (fun _ => 0) := (oh25 _ (ne_kk (a := 10) (b := 13) (by decide))).trans hA10
  have hA11 : h25.1 (k + 11) = xa_a 3 (fun _ => 0) := (oh25 _ (ne_kk (a := 11) (b := 13) (by decide))).trans hA11
  have hA12 : h25.1 (k + 12) = xa_a 360 (fun _ => 0) := (oh25 _ (ne_kk (a := 12) (b := 13) (by decide))).trans hA12
  have hA13 : h25.1 (k + 13) = xa_a 3 (fun _ => 0) := ch25
  have hcn : h25.2 = k + 14 := nh25
  have fr : ∀ i, i < k → h25.1 i = h.1 i := fun i hi => (oh25 i (by omega)).trans (fr i hi)
  refine xa_putwF (pc := 99) [xa_i 0, xa_r (k + 1), xa_r (k + 2), xa_r (k + 3), xa_r (k + 4), xa_r (k + 5), xa_r (k + 6), xa_r (k + 7), xa_r (k + 8), xa_r (k + 9), xa_r (k + 10), xa_r (k + 11), xa_r (k + 12), xa_i 0, xa_i 0, xa_i 0, xa_r (k + 13), xa_i 0, xa_i 0, xa_i 0, xa_i 0, xa_n, xa_n, xa_i 0, xa_n] dX10_init_99 rfl flRX10_46 plX10_16 (by omega) (by omega) hO trivial rfl rfl (fun h26 nh26 ch26 oh26 => ?_)
  have hO : h26.1 k = xa_o 10 [xa_i 0, xa_r (k + 1), xa_r (k + 2), xa_r (k + 3), xa_r (k + 4), xa_r (k + 5), xa_r (k + 6), xa_r (k + 7), xa_r (k + 8), xa_r (k + 9), xa_r (k + 10), xa_r (k + 11), xa_r (k + 12), xa_i 0, xa_i 0, xa_i 0, xa_r (k + 13), xa_i 0, xa_i 0, xa_i 0, xa_i 0, xa_n, xa_n, xa_i 0, xa_n] := ch26
  have hA1 : h26.1 (k + 1) = xa_a 120 (fun _ => 0) := (oh26 _ (ne_kk (a := 1) (b := 0) (by decide))).trans hA1
  have hA2 : h26.1 (k + 2) = xa_a 2 (fun _ => 0) := (oh26 _ (ne_kk (a := 2) (b := 0) (by decide))).trans hA2
  have hA3 : h26.1 (k + 3) = xa_a 18 (fun _ => 0) := (oh26 _ (ne_kk (a := 3) (b := 0) (by decide))).trans hA3
  have hA4 : h26.1 (k + 4) = xa_a 2 (fun _ => 0) := (oh26 _ (ne_kk (a := 4) (b := 0) (by decide))).trans hA4
  have hA5 : h26.1 (k + 5) = xa_a 4 (fun _ => 0) := (oh26 _ (ne_kk (a := 5) (b := 0) (by decide))).trans hA5
  have hA6 : h26.1 (k + 6) = xa_a 4 (fun _ => 0) := (oh26 _ (ne_kk (a := 6) (b := 0) (by decide))).trans hA6
  have hA7 : h26.1 (k + 7) = xa_a 2 (fun _ => 0) := (oh26 _ (ne_kk (a := 7) (b := 0) (by decide))).trans hA7
  have hA8 : h26.1 (k + 8) = xa_a 2 (fun _ => 0) := (oh26 _ (ne_kk (a := 8) (b := 0) (by decide))).trans hA8
  have hA9 : h26.1 (k + 9) = xa_a 12 (fun _ => 0) := (oh26 _ (ne_kk (a := 9) (b := 0) (by decide))).trans hA9
  have hA10 : h26.1 (k + 10) = xa_a 720 (fun _ => 0) := (oh26 _ (ne_kk (a := 10) (b := 0) (by decide))).trans hA10
  have hA11 : h26.1 (k + 11) = xa_a 3 (fun _ => 0) := (oh26 _ (ne_kk (a := 11) (b := 0) (by decide))).trans hA11
  have hA12 : h26.1 (k + 12) = xa_a 360 (fun _ => 0) := (oh26 _ (ne_kk (a := 12) (b := 0) (by decide))).trans hA12
  have hA13 : h26.1 (k + 13) = xa_a 3 (fun _ => 0) := (oh26 _ (ne_kk (a := 13) (b := 0) (by decide))).trans hA13
  have hcn : h26.2 = k + 14 := nh26.trans hcn
  have fr : ∀ i, i < k → h26.1 i = h.1 i := fun i hi => (oh26 i (by omega)).trans (fr i hi)
  refine xa_aload_n (pc := 102) dX10_init_102 rfl ?_
  refine xa_bipush (pc := 103) dX10_init_103 rfl ?_
  refine xa_putw (pc := 105) [xa_i 0, xa_r (k + 1), xa_r (k + 2), xa_r (k + 3), xa_r (k + 4), xa_r (k + 5), xa_r (k + 6), xa_r (k + 7), xa_r (k + 8), xa_r (k + 9), xa_r (k + 10), xa_r (k + 11), xa_r (k + 12), xa_i 0, xa_i 0, xa_i 0, xa_r (k + 13), xa_i 0, xa_i 0, xa_i 0, xa_i (-4), xa_n, xa_n, xa_i 0, xa_n] dX10_init_105 flRX10_49 plX10_20 (by omega) (by omega) hO trivial rfl (fun h27 nh27 ch27 oh27 => ?_)
  have hO : h27.1 k = xa_o 10 [xa_i 0, xa_r (k + 1), xa_r (k + 2), xa_r (k + 3), xa_r (k + 4), xa_r (k + 5), xa_r (k + 6), xa_r (k + 7), xa_r (k + 8), xa_r (k + 9), xa_r (k + 10), xa_r (k + 11), xa_r (k + 12), xa_i 0, xa_i 0, xa_i 0, xa_r (k + 13), xa_i 0, xa_i 0, xa_i 0, xa_i (-4), xa_n, xa_n, xa_i 0, xa_n] := ch27
  have hA1 : h27.1 (k + 1) = xa_a 120 (fun _ => 0) := (oh27 _ (ne_kk (a := 1) (b := 0) (by decide))).trans hA1
  have hA2 : h27.1 (k + 2) = xa_a 2 (fun _ => 0) := (oh27 _ (ne_kk (a := 2) (b := 0) (by decide))).trans hA2
  have hA3 : h27.1 (k + 3) = xa_a 18 (fun _ => 0) := (oh27 _ (ne_kk (a := 3) (b := 0) (by decide))).trans hA3
  have hA4 : h27.1 (k + 4) = xa_a 2 (fun _ => 0) := (oh27 _ (ne_kk (a := 4) (b := 0) (by decide))).trans hA4
  have hA5 : h27.1 (k + 5) = xa_a 4 (fun _ => 0) := (oh27 _ (ne_kk (a := 5) (b := 0) (by decide))).trans hA5
  have hA6 : h27.1 (k + 6) = xa_a 4 (fun _ => 0) := (oh27 _ (ne_kk (a := 6) (b := 0) (by decide))).trans hA6
  have hA7 : h27.1 (k + 7) = xa_a 2 (fun _ => 0) := (oh27 _ (ne_kk (a := 7) (b := 0) (by decide))).trans hA7
  have hA8 : h27.1 (k + 8) = xa_a 2 (fun _ => 0) := (oh27 _ (ne_kk (a := 8) (b := 0) (by decide))).trans hA8
  have hA9 : h27.1 (k + 9) = xa_a 12 (fun _ => 0) := (oh27 _ (ne_kk (a := 9) (b := 0) (by decide))).trans hA9
  have hA10 : h27.1 (k + 10) = xa_a 720 (fun _ => 0) := (oh27 _ (ne_kk (a := 10) (b := 0) (by decide))).trans hA10
  have hA11 : h27.1 (k + 11) = xa_a 3 (fun _ => 0) := (oh27 _ (ne_kk (a := 11) (b := 0) (by decide))).trans hA11
  have hA12 : h27.1 (k + 12) = xa_a 360 (fun _ => 0) := (oh27 _ (ne_kk (a := 12) (b := 0) (by decide))).trans hA12
  have hA13 : h27.1 (k + 13) = xa_a 3 (fun _ => 0) := (oh27 _ (ne_kk (a := 13) (b := 0) (by decide))).trans hA13
  have hcn : h27.2 = k + 14 := nh27.trans hcn
  have fr : ∀ i, i < k → h27.1 i = h.1 i := fun i hi => (oh27 i (by omega)).trans (fr i hi)
  refine xa_aload_n (pc := 108) dX10_init_108 rfl ?_
  refine xa_ldc (pc := 109) (n := 583200) dX10_init_109 ctRX10_53 rfl ?_
  refine xa_newap (pc := 111) (mc0 := 2) (ms0 := 583204) 583200 (k + 14) hcn dX10_init_111 rfl (by decide) rfl rfl (fun h28 nh28 ch28 oh28 => ?_)
  have hO : h28.1 k = xa_o 10 [xa_i 0, xa_r (k + 1), xa_r (k + 2), xa_r (k + 3), xa_r (k + 4), xa_r (k + 5), xa_r (k + 6), xa_r (k + 7), xa_r (k + 8), xa_r (k + 9), xa_r (k + 10), xa_r (k + 11), xa_r (k + 12), xa_i 0, xa_i 0, xa_i 0, xa_r (k + 13), xa_i 0, xa_i 0, xa_i 0, xa_i (-4), xa_n, xa_n, xa_i 0, xa_n] := (oh28 _ (ne_kk (a := 0) (b := 14) (by decide))).trans hO
  have hA1 : h28.1 (k + 1) = xa_a 120 (fun _ => 0) := (oh28 _ (ne_kk (a := 1) (b := 14) (by decide))).trans hA1
  have hA2 : h28.1 (k + 2) = xa_a 2 (fun _ => 0) := (oh28 _ (ne_kk (a := 2) (b := 14) (by decide))).trans hA2
  have hA3 : h28.1 (k + 3) = xa_a 18 (fun _ => 0) := (oh28 _ (ne_kk (a := 3) (b := 14) (by decide))).trans hA3
  have hA4 : h28.1 (k + 4) = xa_a 2 (fun _ => 0) := (oh28 _ (ne_kk (a := 4) (b := 14) (by decide))).trans hA4
  have hA5 : h28.1 (k + 5) = xa_a 4 (fun _ => 0) := (oh28 _ (ne_kk (a := 5) (b := 14) (by decide))).trans hA5
  have hA6 : h28.1 (k + 6) = xa_a 4 (fun _ => 0) := (oh28 _ (ne_kk (a := 6) (b := 14) (by decide))).trans hA6
  have hA7 : h28.1 (k + 7) = xa_a 2 (fun _ => 0) := (oh28 _ (ne_kk (a := 7) (b := 14) (by decide))).trans hA7
  have hA8 : h28.1 (k + 8) = xa_a 2 (fun _ => 0) := (oh28 _ (ne_kk (a := 8) (b := 14) (by decide))).trans hA8
  have hA9 : h28.1 (k + 9) = xa_a 12 (fun _ => 0) := (oh28 _ (ne_kk (a := 9) (b := 14) (by decide))).trans hA9
  have hA10 : h28.1 (k + 10) = xa_a 720 (fun _ => 0) := (oh28 _ (ne_kk (a := 10) (b := 14) (by decide))).trans hA10
  have hA11 : h28.1 (k + 11) = xa_a 3 (fun _ => 0) := (oh28 _ (ne_kk (a := 11) (b := 14) (by decide))).trans hA11
  have hA12 : h28.1 (k + 12) = xa_a 360 (fun _ => 0) := (oh28 _ (ne_kk (a := 12) (b := 14) (by decide))).trans hA12
  have hA13 : h28.1 (k + 13) = xa_a 3 (fun _ => 0) := (oh28 _ (ne_kk (a := 13) (b := 14) (by decide))).trans hA13
  have hA14 : h28.1 (k + 14) = xa_a 583200 (fun _ => 0) := ch28
  have hcn : h28.2 = k + 15 := nh28
  have fr : ∀ i, i < k → h28.1 i = h.1 i := fun i hi => (oh28 i (by omega)).trans (fr i hi)
  refine xa_putwF (pc := 113) [xa_i 0, xa_r (k + 1), xa_r (k + 2), xa_r (k + 3), xa_r (k + 4), xa_r (k + 5), xa_r (k + 6), xa_r (k + 7), xa_r (k + 8), xa_r (k + 9), xa_r (k + 10), xa_r (k + 11), xa_r (k + 12), xa_i 0, xa_i 0, xa_i 0, xa_r (k + 13), xa_i 0, xa_i 0, xa_i 0, xa_i (-4), xa_r (k + 14), xa_n, xa_i 0, xa_n] dX10_init_113 rfl flRX10_54 plX10_21 (by omega) (by omega) hO trivial rfl rfl (fun h29 nh29 ch29 oh29 => ?_)
  have hO : h29.1 k = xa_o 10 [xa_i 0, xa_r (k + 1), xa_r (k + 2), xa_r (k + 3), xa_r (k + 4), xa_r (k + 5), xa_r (k + 6), xa_r (k + 7), xa_r (k + 8), xa_r (k + 9), xa_r (k + 10), xa_r (k + 11), xa_r (k + 12), xa_i 0, xa_i 0, xa_i 0, xa_r (k + 13), xa_i 0, xa_i 0, xa_i 0, xa_i (-4), xa_r (k + 14), xa_n, xa_i 0, xa_n] := ch29
  have hA1 : h29.1 (k + 1) = xa_a 120 (fun _ => 0) := (oh29 _ (ne_kk (a := 1) (b := 0) (by decide))).trans hA1
  have hA2 : h29.1 (k + 2) = xa_a 2 (fun _ => 0) := (oh29 _ (ne_kk (a := 2) (b := 0) (by decide))).trans hA2
  have hA3 : h29.1 (k + 3) = xa_a 18 (fun _ => 0) := (oh29 _ (ne_kk (a := 3) (b := 0) (by decide))).trans hA3
  have hA4 : h29.1 (k + 4) = xa_a 2 (fun _ => 0) := (oh29 _ (ne_kk (a := 4) (b := 0) (by decide))).trans hA4
  have hA5 : h29.1 (k + 5) = xa_a 4 (fun _ => 0) := (oh29 _ (ne_kk (a := 5) (b := 0) (by decide))).trans hA5
  have hA6 : h29.1 (k + 6) = xa_a 4 (fun _ => 0) := (oh29 _ (ne_kk (a := 6) (b := 0) (by decide))).trans hA6
  have hA7 : h29.1 (k + 7) = xa_a 2 (fun _ => 0) := (oh29 _ (ne_kk (a := 7) (b := 0) (by decide))).trans hA7
  have hA8 : h29.1 (k + 8) = xa_a 2 (fun _ => 0) := (oh29 _ (ne_kk (a := 8) (b := 0) (by decide))).trans hA8
  have hA9 : h29.1 (k + 9) = xa_a 12 (fun _ => 0) := (oh29 _ (ne_kk (a := 9) (b := 0) (by decide))).trans hA9
  have hA10 : h29.1 (k + 10) = xa_a 720 (fun _ => 0) := (oh29 _ (ne_kk (a := 10) (b := 0) (by decide))).trans hA10
  have hA11 : h29.1 (k + 11) = xa_a 3 (fun _ => 0) := (oh29 _ (ne_kk (a := 11) (b := 0) (by decide))).trans hA11
  have hA12 : h29.1 (k + 12) = xa_a 360 (fun _ => 0) := (oh29 _ (ne_kk (a := 12) (b := 0) (by decide))).trans hA12
  have hA13 : h29.1 (k + 13) = xa_a 3 (fun _ => 0) := (oh29 _ (ne_kk (a := 13) (b := 0) (by decide))).trans hA13
  have hA14 : h29.1 (k + 14) = xa_a 583200 (fun _ => 0) := (oh29 _ (ne_kk (a := 14) (b := 0) (by decide))).trans hA14
  have hcn : h29.2 = k + 15 := nh29.trans hcn
  have fr : ∀ i, i < k → h29.1 i = h.1 i := fun i hi => (oh29 i (by omega)).trans (fr i hi)
  refine xa_aload_n (pc := 116) dX10_init_116 rfl ?_
  refine xa_ldc (pc := 117) (n := 583200) dX10_init_117 ctRX10_53 rfl ?_
  refine xa_newap (pc := 119) (mc0 := 1) (ms0 := 4) 583200 (k + 15) hcn dX10_init_119 rfl (by decide) rfl rfl (fun h30 nh30 ch30 oh30 => ?_)
  have hO : h30.1 k = xa_o 10 [xa_i 0, xa_r (k + 1), xa_r (k + 2), xa_r (k + 3), xa_r (k + 4), xa_r (k + 5), xa_r (k + 6), xa_r (k + 7), xa_r (k + 8), xa_r (k + 9), xa_r (k + 10), xa_r (k + 11), xa_r (k + 12), xa_i 0, xa_i 0, xa_i 0, xa_r (k + 13), xa_i 0, xa_i 0, xa_i 0, xa_i (-4), xa_r (k + 14), xa_n, xa_i 0, xa_n] := (oh30 _ (ne_kk (a := 0) (b := 15) (by decide))).trans hO
  have hA1 : h30.1 (k + 1) = xa_a 120 (fun _ => 0) := (oh30 _ (ne_kk (a := 1) (b := 15) (by decide))).trans hA1
  have hA2 : h30.1 (k + 2) = xa_a 2 (fun _ => 0) := (oh30 _ (ne_kk (a := 2) (b := 15) (by decide))).trans hA2
  have hA3 : h30.1 (k + 3) = xa_a 18 (fun _ => 0) := (oh30 _ (ne_kk (a := 3) (b := 15) (by decide))).trans hA3
  have hA4 : h30.1 (k + 4) = xa_a 2 (fun _ => 0) := (oh30 _ (ne_kk (a := 4) (b := 15) (by decide))).trans hA4
  have hA5 : h30.1 (k + 5) = xa_a 4 (fun _ => 0) := (oh30 _ (ne_kk (a := 5) (b := 15) (by decide))).trans hA5
  have hA6 : h30.1 (k + 6) = xa_a 4 (fun _ => 0) := (oh30 _ (ne_kk (a := 6) (b := 15) (by decide))).trans hA6
  have hA7 : h30.1 (k + 7) = xa_a 2 (fun _ => 0) := (oh30 _ (ne_kk (a := 7) (b := 15) (by decide))).trans hA7
  have hA8 : h30.1 (k + 8) = xa_a 2 (fun _ => 0) := (oh30 _ (ne_kk (a := 8) (b := 15) (by decide))).trans hA8
  have hA9 : h30.1 (k + 9) = xa_a 12 (fun _ => 0) := (oh30 _ (ne_kk (a := 9) (b := 15) (by decide))).trans hA9
  have hA10 : h30.1 (k + 10) = xa_a 720 (fun _ => 0) := (oh30 _ (ne_kk (a := 10) (b := 15) (by decide))).trans hA10
  have hA11 : h30.1 (k + 11) = xa_a 3 (fun _ => 0) := (oh30 _ (ne_kk (a := 11) (b := 15) (by decide))).trans hA11
  have hA12 : h30.1 (k + 12) = xa_a 360 (fun _ => 0) := (oh30 _ (ne_kk (a := 12) (b := 15) (by decide))).trans hA12
  have hA13 : h30.1 (k + 13) = xa_a 3 (fun _ => 0) := (oh30 _ (ne_kk (a := 13) (b := 15) (by decide))).trans hA13
  have hA14 : h30.1 (k + 14) = xa_a 583200 (fun _ => 0) := (oh30 _ (ne_kk (a := 14) (b := 15) (by decide))).trans hA14
  have hA15 : h30.1 (k + 15) = xa_a 583200 (fun _ => 0) := ch30
  have hcn : h30.2 = k + 16 := nh30
  have fr : ∀ i, i < k → h30.1 i = h.1 i := fun i hi => (oh30 i (by omega)).trans (fr i hi)
  refine xa_putwF (pc := 121) [xa_i 0, xa_r (k + 1), xa_r (k + 2), xa_r (k + 3), xa_r (k + 4), xa_r (k + 5), xa_r (k + 6), xa_r (k + 7), xa_r (k + 8), xa_r (k + 9), xa_r (k + 10), xa_r (k + 11), xa_r (k + 12), xa_i 0, xa_i 0, xa_i 0, xa_r (k + 13), xa_i 0, xa_i 0, xa_i 0, xa_i (-4), xa_r (k + 14), xa_r (k + 15), xa_i 0, xa_n] dX10_init_121 rfl flRX10_57 plX10_22 (by omega) (by omega) hO trivial rfl rfl (fun h31 nh31 ch31 oh31 => ?_)
  have hO : h31.1 k = xa_o 10 [xa_i 0, xa_r (k + 1), xa_r (k + 2), xa_r (k + 3), xa_r (k + 4), xa_r (k + 5), xa_r (k + 6), xa_r (k + 7), xa_r (k + 8), xa_r (k + 9), xa_r (k + 10), xa_r (k + 11), xa_r (k + 12), xa_i 0, xa_i 0, xa_i 0, xa_r (k + 13), xa_i 0, xa_i 0, xa_i 0, xa_i (-4), xa_r (k + 14), xa_r (k + 15), xa_i 0, xa_n] := ch31
  have hA1 : h31.1 (k + 1) = xa_a 120 (fun _ => 0) := (oh31 _ (ne_kk (a := 1) (b := 0) (by decide))).trans hA1
  have hA2 : h31.1 (k + 2) = xa_a 2 (fun _ => 0) := (oh31 _ (ne_kk (a := 2) (b := 0) (by decide))).trans hA2
  have hA3 : h31.1 (k + 3) = xa_a 18 (fun _ => 0) := (oh31 _ (ne_kk (a := 3) (b := 0) (by decide))).trans hA3
  have hA4 : h31.1 (k + 4) = xa_a 2 (fun _ => 0) := (oh31 _ (ne_kk (a := 4) (b := 0) (by decide))).trans hA4
  have hA5 : h31.1 (k + 5) = xa_a 4 (fun _ => 0) := (oh31 _ (ne_kk (a := 5) (b := 0) (by decide))).trans hA5
  have hA6 : h31.1 (k + 6) = xa_a 4 (fun _ => 0) := (oh31 _ (ne_kk (a := 6) (b := 0) (by decide))).trans hA6
  have hA7 : h31.1 (k + 7) = xa_a 2 (fun _ => 0) := (oh31 _ (ne_kk (a := 7) (b := 0) (by decide))).trans hA7
  have hA8 : h31.1 (k + 8) = xa_a 2 (fun _ => 0) := (oh31 _ (ne_kk (a := 8) (b := 0) (by decide))).trans hA8
  have hA9 : h31.1 (k + 9) = xa_a 12 (fun _ => 0) := (oh31 _ (ne_kk (a := 9) (b := 0) (by decide))).trans hA9
  have hA10 : h31.1 (k + 10) = xa_a 720 (fun _ => 0) := (oh31 _ (ne_kk (a := 10) (b := 0) (by decide))).trans hA10
  have hA11 : h31.1 (k + 11) = xa_a 3 (fun _ => 0) := (oh31 _ (ne_kk (a := 11) (b := 0) (by decide))).trans hA11
  have hA12 : h31.1 (k + 12) = xa_a 360 (fun _ => 0) := (oh31 _ (ne_kk (a := 12) (b := 0) (by decide))).trans hA12
  have hA13 : h31.1 (k + 13) = xa_a 3 (fun _ => 0) := (oh31 _ (ne_kk (a := 13) (b := 0) (by decide))).trans hA13
  have hA14 : h31.1 (k + 14) = xa_a 583200 (fun _ => 0) := (oh31 _ (ne_kk (a := 14) (b := 0) (by decide))).trans hA14
  have hA15 : h31.1 (k + 15) = xa_a 583200 (fun _ => 0) := (oh31 _ (ne_kk (a := 15) (b := 0) (by decide))).trans hA15
  have hcn : h31.2 = k + 16 := nh31.trans hcn
  have fr : ∀ i, i < k → h31.1 i = h.1 i := fun i hi => (oh31 i (by omega)).trans (fr i hi)
  refine xa_aload_n (pc := 124) dX10_init_124 rfl ?_
  refine xa_iconst (pc := 125) dX10_init_125 ?_
  refine xa_newap (pc := 126) (mc0 := 0) (ms0 := 0) 4 (k + 16) hcn dX10_init_126 rfl (by decide) rfl rfl (fun h32 nh32 ch32 oh32 => ?_)
  have hO : h32.1 k = xa_o 10 [xa_i 0, xa_r (k + 1), xa_r (k + 2), xa_r (k + 3), xa_r (k + 4), xa_r (k + 5), xa_r (k + 6), xa_r (k + 7), xa_r (k + 8), xa_r (k + 9), xa_r (k + 10), xa_r (k + 11), xa_r (k + 12), xa_i 0, xa_i 0, xa_i 0, xa_r (k + 13), xa_i 0, xa_i 0, xa_i 0, xa_i (-4), xa_r (k + 14), xa_r (k + 15), xa_i 0, xa_n] := (oh32 _ (ne_kk (a := 0) (b := 16) (by decide))).trans hO
  have hA1 : h32.1 (k + 1) = xa_a 120 (fun _ => 0) := (oh32 _ (ne_kk (a := 1) (b := 16) (by decide))).trans hA1
  have hA2 : h32.1 (k + 2) = xa_a 2 (fun _ => 0) := (oh32 _ (ne_kk (a := 2) (b := 16) (by decide))).trans hA2
  have hA3 : h32.1 (k + 3) = xa_a 18 (fun _ => 0) := (oh32 _ (ne_kk (a := 3) (b := 16) (by decide))).trans hA3
  have hA4 : h32.1 (k + 4) = xa_a 2 (fun _ => 0) := (oh32 _ (ne_kk (a := 4) (b := 16) (by decide))).trans hA4
  have hA5 : h32.1 (k + 5) = xa_a 4 (fun _ => 0) := (oh32 _ (ne_kk (a := 5) (b := 16) (by decide))).trans hA5
  have hA6 : h32.1 (k + 6) = xa_a 4 (fun _ => 0) := (oh32 _ (ne_kk (a := 6) (b := 16) (by decide))).trans hA6
  have hA7 : h32.1 (k + 7) = xa_a 2 (fun _ => 0) := (oh32 _ (ne_kk (a := 7) (b := 16) (by decide))).trans hA7
  have hA8 : h32.1 (k + 8) = xa_a 2 (fun _ => 0) := (oh32 _ (ne_kk (a := 8) (b := 16) (by decide))).trans hA8
  have hA9 : h32.1 (k + 9) = xa_a 12 (fun _ => 0) := (oh32 _ (ne_kk (a := 9) (b := 16) (by decide))).trans hA9
  have hA10 : h32.1 (k + 10) = xa_a 720 (fun _ => 0) := (oh32 _ (ne_kk (a := 10) (b := 16) (by decide))).trans hA10
  have hA11 : h32.1 (k + 11) = xa_a 3 (fun _ => 0) := (oh32 _ (ne_kk (a := 11) (b := 16) (by decide))).trans hA11
  have hA12 : h32.1 (k + 12) = xa_a 360 (fun _ => 0) := (oh32 _ (ne_kk (a := 12) (b := 16) (by decide))).trans hA12
  have hA13 : h32.1 (k + 13) = xa_a 3 (fun _ => 0) := (oh32 _ (ne_kk (a := 13) (b := 16) (by decide))).trans hA13
  have hA14 : h32.1 (k + 14) = xa_a 583200 (fun _ => 0) := (oh32 _ (ne_kk (a := 14) (b := 16) (by decide))).trans hA14
  have hA15 : h32.1 (k + 15) = xa_a 583200 (fun _ => 0) := (oh32 _ (ne_kk (a := 15) (b := 16) (by decide))).trans hA15
  have hA16 : h32.1 (k + 16) = xa_a 4 (fun _ => 0) := ch32
  have hcn : h32.2 = k + 17 := nh32
  have fr : ∀ i, i < k → h32.1 i = h.1 i := fun i hi => (oh32 i (by omega)).trans (fr i hi)
  refine xa_putwF (pc := 128) [xa_i 0, xa_r (k + 1), xa_r (k + 2), xa_r (k + 3), xa_r (k + 4), xa_r (k + 5), xa_r (k + 6), xa_r (k + 7), xa_r (k + 8), xa_r (k + 9), xa_r (k + 10), xa_r (k + 11), xa_r (k + 12), xa_i 0, xa_i 0, xa_i 0, xa_r (k + 13), xa_i 0, xa_i 0, xa_i 0, xa_i (-4), xa_r (k + 14), xa_r (k + 15), xa_i 0, xa_r (k + 16)] dX10_init_128 rfl flRX10_60 plX10_24 (by omega) (by omega) hO trivial rfl rfl (fun h33 nh33 ch33 oh33 => ?_)
  have hO : h33.1 k = xa_o 10 [xa_i 0, xa_r (k + 1), xa_r (k + 2), xa_r (k + 3), xa_r (k + 4), xa_r (k + 5), xa_r (k + 6), xa_r (k + 7), xa_r (k + 8), xa_r (k + 9), xa_r (k + 10), xa_r (k + 11), xa_r (k + 12), xa_i 0, xa_i 0, xa_i 0, xa_r (k + 13), xa_i 0, xa_i 0, xa_i 0, xa_i (-4), xa_r (k + 14), xa_r (k + 15), xa_i 0, xa_r (k + 16)] := ch33
  have hA1 : h33.1 (k + 1) = xa_a 120 (fun _ => 0) := (oh33 _ (ne_kk (a := 1) (b := 0) (by decide))).trans hA1
  have hA2 : h33.1 (k + 2) = xa_a 2 (fun _ => 0) := (oh33 _ (ne_kk (a := 2) (b := 0) (by decide))).trans hA2
  have hA3 : h33.1 (k + 3) = xa_a 18 (fun _ => 0) := (oh33 _ (ne_kk (a := 3) (b := 0) (by decide))).trans hA3
  have hA4 : h33.1 (k + 4) = xa_a 2 (fun _ => 0) := (oh33 _ (ne_kk (a := 4) (b := 0) (by decide))).trans hA4
  have hA5 : h33.1 (k + 5) = xa_a 4 (fun _ => 0) := (oh33 _ (ne_kk (a := 5) (b := 0) (by decide))).trans hA5
  have hA6 : h33.1 (k + 6) = xa_a 4 (fun _ => 0) := (oh33 _ (ne_kk (a := 6) (b := 0) (by decide))).trans hA6
  have hA7 : h33.1 (k + 7) = xa_a 2 (fun _ => 0) := (oh33 _ (ne_kk (a := 7) (b := 0) (by decide))).trans hA7
  have hA8 : h33.1 (k + 8) = xa_a 2 (fun _ => 0) := (oh33 _ (ne_kk (a := 8) (b := 0) (by decide))).trans hA8
  have hA9 : h33.1 (k + 9) = xa_a 12 (fun _ => 0) := (oh33 _ (ne_kk (a := 9) (b := 0) (by decide))).trans hA9
  have hA10 : h33.1 (k + 10) = xa_a 720 (fun _ => 0) := (oh33 _ (ne_kk (a := 10) (b := 0) (by decide))).trans hA10
  have hA11 : h33.1 (k + 11) = xa_a 3 (fun _ => 0) := (oh33 _ (ne_kk (a := 11) (b := 0) (by decide))).trans hA11
  have hA12 : h33.1 (k + 12) = xa_a 360 (fun _ => 0) := (oh33 _ (ne_kk (a := 12) (b := 0) (by decide))).trans hA12
  have hA13 : h33.1 (k + 13) = xa_a 3 (fun _ => 0) := (oh33 _ (ne_kk (a := 13) (b := 0) (by decide))).trans hA13
  have hA14 : h33.1 (k + 14) = xa_a 583200 (fun _ => 0) := (oh33 _ (ne_kk (a := 14) (b := 0) (by decide))).trans hA14
  have hA15 : h33.1 (k + 15) = xa_a 583200 (fun _ => 0) := (oh33 _ (ne_kk (a := 15) (b := 0) (by decide))).trans hA15
  have hA16 : h33.1 (k + 16) = xa_a 4 (fun _ => 0) := (oh33 _ (ne_kk (a := 16) (b := 0) (by decide))).trans hA16
  have hcn : h33.2 = k + 17 := nh33.trans hcn
  have fr : ∀ i, i < k → h33.1 i = h.1 i := fun i hi => (oh33 i (by omega)).trans (fr i hi)
  refine xa_iconst (pc := 131) dX10_init_131 ?_
  refine xa_istoren (pc := 132) [some (xa_r k), some (xa_i 0)] dX10_init_132 (by decide) (Nat.le_of_ble_eq_true rfl) rfl rfl ?_
  refine xa_iload_n (pc := 133) dX10_init_133 rfl ?_
  refine xa_bipush (pc := 134) dX10_init_134 rfl ?_
  refine xa_icmp_ge (pc := 136) (tgt := 152) dX10_init_136 (by decide) (by decide) (by decide) (fun c_136 => ?_) (fun c_136 => ?_)
  · skip
    exfalso; omega
  · skip
    refine xa_aload_n (pc := 139) dX10_init_139 rfl ?_
    refine xa_getfield (pc := 140) dX10_init_140 flRX10_16 (by omega) (by omega) hO rfl ?_
    refine xa_iload_n (pc := 143) dX10_init_143 rfl ?_
    refine xa_iconst (pc := 144) dX10_init_144 ?_
    refine xa_iastw (pc := 145) 0 dX10_init_145 (by omega) (by omega) hA3 (by omega) (by omega) rfl (fun h34 nh34 ch34 oh34 => ?_)
    have hA3 : h34.1 (k + 3) = xa_a 18 (xa_upf (fun _ => 0) 0 1) := ch34
    have hO : h34.1 k = xa_o 10 [xa_i 0, xa_r (k + 1), xa_r (k + 2), xa_r (k + 3), xa_r (k + 4), xa_r (k + 5), xa_r (k + 6), xa_r (k + 7), xa_r (k + 8), xa_r (k + 9), xa_r (k + 10), xa_r (k + 11), xa_r (k + 12), xa_i 0, xa_i 0, xa_i 0, xa_r (k + 13), xa_i 0, xa_i 0, xa_i 0, xa_i (-4), xa_r (k + 14), xa_r (k + 15), xa_i 0, xa_r (k + 16)] := (oh34 _ (ne_kk (a := 0) (b := 3) (by decide))).trans hO
    have hA1 : h34.1 (k + 1) = xa_a 120 (fun _ => 0) := (oh34 _ (ne_kk (a := 1) (b := 3) (by decide))).trans hA1
    have hA2 : h34.1 (k + 2) = xa_a 2 (fun _ => 0) := (oh34 _ (ne_kk (a := 2) (b := 3) (by decide))).trans hA2
    have hA4 : h34.1 (k + 4) = xa_a 2 (fun _ => 0) := (oh34 _ (ne_kk (a := 4) (b := 3) (by decide))).trans hA4
    have hA5 : h34.1 (k + 5) = xa_a 4 (fun _ => 0) := (oh34 _ (ne_kk (a := 5) (b := 3) (by decide))).trans hA5
    have hA6 : h34.1 (k + 6) = xa_a 4 (fun _ => 0) := (oh34 _ (ne_kk (a := 6) (b := 3) (by decide))).trans hA6
    have hA7 : h34.1 (k + 7) = xa_a 2 (fun _ => 0) := (oh34 _ (ne_kk (a := 7) (b := 3) (by decide))).trans hA7
    have hA8 : h34.1 (k + 8) = xa_a 2 (fun _ => 0) := (oh34 _ (ne_kk (a := 8) (b := 3) (by decide))).trans hA8
    have hA9 : h34.1 (k + 9) = xa_a 12 (fun _ => 0) := (oh34 _ (ne_kk (a := 9) (b := 3) (by decide))).trans hA9
    have hA10 : h34.1 (k + 10) = xa_a 720 (fun _ => 0) := (oh34 _ (ne_kk (a := 10) (b := 3) (by decide))).trans hA10
    have hA11 : h34.1 (k + 11) = xa_a 3 (fun _ => 0) := (oh34 _ (ne_kk (a := 11) (b := 3) (by decide))).trans hA11
    have hA12 : h34.1 (k + 12) = xa_a 360 (fun _ => 0) := (oh34 _ (ne_kk (a := 12) (b := 3) (by decide))).trans hA12
    have hA13 : h34.1 (k + 13) = xa_a 3 (fun _ => 0) := (oh34 _ (ne_kk (a := 13) (b := 3) (by decide))).trans hA13
    have hA14 : h34.1 (k + 14) = xa_a 583200 (fun _ => 0) := (oh34 _ (ne_kk (a := 14) (b := 3) (by decide))).trans hA14
    have hA15 : h34.1 (k + 15) = xa_a 583200 (fun _ => 0) := (oh34 _ (ne_kk (a := 15) (b := 3) (by decide))).trans hA15
    have hA16 : h34.1 (k + 16) = xa_a 4 (fun _ => 0) := (oh34 _ (ne_kk (a := 16) (b := 3) (by decide))).trans hA16
    have hcn : h34.2 = k + 17 := nh34.trans hcn
    have fr : ∀ i, i < k → h34.1 i = h.1 i := fun i hi => (oh34 i (by omega)).trans (fr i hi)
    refine xa_iincw (pc := 146) (y := 1) [some (xa_r k), some (xa_i 1)] dX10_init_146 (by decide) rfl rfl rfl rfl ?_
    refine xa_goto (pc := 149) (tgt := 133) dX10_init_149 (by decide) ?_
    refine xa_iload_n (pc := 133) dX10_init_133 rfl ?_
    refine xa_bipush (pc := 134) dX10_init_134 rfl ?_
    refine xa_icmp_ge (pc := 136) (tgt := 152) dX10_init_136 (by decide) (by decide) (by decide) (fun c_136 => ?_) (fun c_136 => ?_)
    · skip
      exfalso; omega
    · skip
      refine xa_aload_n (pc := 139) dX10_init_139 rfl ?_
      refine xa_getfield (pc := 140) dX10_init_140 flRX10_16 (by omega) (by omega) hO rfl ?_
      refine xa_iload_n (pc := 143) dX10_init_143 rfl ?_
      refine xa_iconst (pc := 144) dX10_init_144 ?_
      refine xa_iastw (pc := 145) 1 dX10_init_145 (by omega) (by omega) hA3 (by omega) (by omega) rfl (fun h35 nh35 ch35 oh35 => ?_)
      have hA3 : h35.1 (k + 3) = xa_a 18 (xa_upf (xa_upf (fun _ => 0) 0 1) 1 1) := ch35
      have hO : h35.1 k = xa_o 10 [xa_i 0, xa_r (k + 1), xa_r (k + 2), xa_r (k + 3), xa_r (k + 4), xa_r (k + 5), xa_r (k + 6), xa_r (k + 7), xa_r (k + 8), xa_r (k + 9), xa_r (k + 10), xa_r (k + 11), xa_r (k + 12), xa_i 0, xa_i 0, xa_i 0, xa_r (k + 13), xa_i 0, xa_i 0, xa_i 0, xa_i (-4), xa_r (k + 14), xa_r (k + 15), xa_i 0, xa_r (k + 16)] := (oh35 _ (ne_kk (a := 0) (b := 3) (by decide))).trans hO
      have hA1 : h35.1 (k + 1) = xa_a 120 (fun _ => 0) := (oh35 _ (ne_kk (a := 1) (b := 3) (by decide))).trans hA1
      have hA2 : h35.1 (k + 2) = xa_a 2 (fun _ => 0) := (oh35 _ (ne_kk (a := 2) (b := 3) (by decide))).trans hA2
      have hA4 : h35.1 (k + 4) = xa_a 2 (fun _ => 0) := (oh35 _ (ne_kk (a := 4) (b := 3) (by decide))).trans hA4
      have hA5 : h35.1 (k + 5) = xa_a 4 (fun _ => 0) := (oh35 _ (ne_kk (a := 5) (b := 3) (by decide))).trans hA5
      have hA6 : h35.1 (k + 6) = xa_a 4 (fun _ => 0) := (oh35 _ (ne_kk (a := 6) (b := 3) (by decide))).trans hA6
      have hA7 : h35.1 (k + 7) = xa_a 2 (fun _ => 0) := (oh35 _ (ne_kk (a := 7) (b := 3) (by decide))).trans hA7
      have hA8 : h35.1 (k + 8) = xa_a 2 (fun _ => 0) := (oh35 _ (ne_kk (a := 8) (b := 3) (by decide))).trans hA8
      have hA9 : h35.1 (k + 9) = xa_a 12 (fun _ => 0) := (oh35 _ (ne_kk (a := 9) (b := 3) (by decide))).trans hA9
      have hA10 : h35.1 (k + 10) = xa_a 720 (fun _ => 0) := (oh35 _ (ne_kk (a := 10) (b := 3) (by decide))).trans hA10
      have hA11 : h35.1 (k + 11) = xa_a 3 (fun _ => 0) := (oh35 _ (ne_kk (a := 11) (b := 3) (by decide))).trans hA11
      have hA12 : h35.1 (k + 12) = xa_a 360 (fun _ => 0) := (oh35 _ (ne_kk (a := 12) (b := 3) (by decide))).trans hA12
      have hA13 : h35.1 (k + 13) = xa_a 3 (fun _ => 0) := (oh35 _ (ne_kk (a := 13) (b := 3) (by decide))).trans hA13
      have hA14 : h35.1 (k + 14) = xa_a 583200 (fun _ => 0) := (oh35 _ (ne_kk (a := 14) (b := 3) (by decide))).trans hA14
      have hA15 : h35.1 (k + 15) = xa_a 583200 (fun _ => 0) := (oh35 _ (ne_kk (a := 15) (b := 3) (by decide))).trans hA15
      have hA16 : h35.1 (k + 16) = xa_a 4 (fun _ => 0) := (oh35 _ (ne_kk (a := 16) (b := 3) (by decide))).trans hA16
      have hcn : h35.2 = k + 17 := nh35.trans hcn
      have fr : ∀ i, i < k → h35.1 i = h.1 i := fun i hi => (oh35 i (by omega)).trans (fr i hi)
      refine xa_iincw (pc := 146) (y := 2) [some (xa_r k), some (xa_i 2)] dX10_init_146 (by decide) rfl rfl rfl rfl ?_
      refine xa_goto (pc := 149) (tgt := 133) dX10_init_149 (by decide) ?_
      refine xa_iload_n (pc := 133) dX10_init_133 rfl ?_
      refine xa_bipush (pc := 134) dX10_init_134 rfl ?_
      refine xa_icmp_ge (pc := 136) (tgt := 152) dX10_init_136 (by decide) (by decide) (by decide) (fun c_136 => ?_) (fun c_136 => ?_)
      · skip
        exfalso; omega
      · skip
        refine xa_aload_n (pc := 139) dX10_init_139 rfl ?_
        refine xa_getfield (pc := 140) dX10_init_140 flRX10_16 (by omega) (by omega) hO rfl ?_
        refine xa_iload_n (pc := 143) dX10_init_143 rfl ?_
        refine xa_iconst (pc := 144) dX10_init_144 ?_
        refine xa_iastw (pc := 145) 2 dX10_init_145 (by omega) (by omega) hA3 (by omega) (by omega) rfl (fun h36 nh36 ch36 oh36 => ?_)
        have hA3 : h36.1 (k + 3) = xa_a 18 (xa_upf (xa_upf (xa_upf (fun _ => 0) 0 1) 1 1) 2 1) := ch36
        have hO : h36.1 k = xa_o 10 [xa_i 0, xa_r (k + 1), xa_r (k + 2), xa_r (k + 3), xa_r (k + 4), xa_r (k + 5), xa_r (k + 6), xa_r (k + 7), xa_r (k + 8), xa_r (k + 9), xa_r (k + 10), xa_r (k + 11), xa_r (k + 12), xa_i 0, xa_i 0, xa_i 0, xa_r (k + 13), xa_i 0, xa_i 0, xa_i 0, xa_i (-4), xa_r (k + 14), xa_r (k + 15), xa_i 0, xa_r (k + 16)] := (oh36 _ (ne_kk (a := 0) (b := 3) (by decide))).trans hO
        have hA1 : h36.1 (k + 1) = xa_a 120 (fun _ => 0) := (oh36 _ (ne_kk (a := 1) (b := 3) (by decide))).trans hA1
        have hA2 : h36.1 (k + 2) = xa_a 2 (fun _ => 0) := (oh36 _ (ne_kk (a := 2) (b := 3) (by decide))).trans hA2
        have hA4 : h36.1 (k + 4) = xa_a 2 (fun _ => 0) := (oh36 _ (ne_kk (a := 4) (b := 3) (by decide))).trans hA4
        have hA5 : h36.1 (k + 5) = xa_a 4 (fun _ => 0) := (oh36 _ (ne_kk (a := 5) (b := 3) (by decide))).trans hA5
        have hA6 : h36.1 (k + 6) = xa_a 4 (fun _ => 0) := (oh36 _ (ne_kk (a := 6) (b := 3) (by decide))).trans hA6
        have hA7 : h36.1 (k + 7) = xa_a 2 (fun _ => 0) := (oh36 _ (ne_kk (a := 7) (b := 3) (by decide))).trans hA7
        have hA8 : h36.1 (k + 8) = xa_a 2 (fun _ => 0) := (oh36 _ (ne_kk (a := 8) (b := 3) (by decide))).trans hA8
        have hA9 : h36.1 (k + 9) = xa_a 12 (fun _ => 0) := (oh36 _ (ne_kk (a := 9) (b := 3) (by decide))).trans hA9
        have hA10 : h36.1 (k + 10) = xa_a 720 (fun _ => 0) := (oh36 _ (ne_kk (a := 10) (b := 3) (by decide))).trans hA10
        have hA11 : h36.1 (k + 11) = xa_a 3 (fun _ => 0) := (oh36 _ (ne_kk (a := 11) (b := 3) (by decide))).trans hA11
        have hA12 : h36.1 (k + 12) = xa_a 360 (fun _ => 0) := (oh36 _ (ne_kk (a := 12) (b := 3) (by decide))).trans hA12
        have hA13 : h36.1 (k + 13) = xa_a 3 (fun _ => 0) := (oh36 _ (ne_kk (a := 13) (b := 3) (by decide))).trans hA13
        have hA14 : h36.1 (k + 14) = xa_a 583200 (fun _ => 0) := (oh36 _ (ne_kk (a := 14) (b := 3) (by decide))).trans hA14
        have hA15 : h36.1 (k + 15) = xa_a 583200 (fun _ => 0) := (oh36 _ (ne_kk (a := 15) (b := 3) (by decide))).trans hA15
        have hA16 : h36.1 (k + 16) = xa_a 4 (fun _ => 0) := (oh36 _ (ne_kk (a := 16) (b := 3) (by decide))).trans hA16
        have hcn : h36.2 = k + 17 := nh36.trans hcn
        have fr : ∀ i, i < k → h36.1 i = h.1 i := fun i hi => (oh36 i (by omega)).trans (fr i hi)
        refine xa_iincw (pc := 146) (y := 3) [some (xa_r k), some (xa_i 3)] dX10_init_146 (by decide) rfl rfl rfl rfl ?_
        refine xa_goto (pc := 149) (tgt := 133) dX10_init_149 (by decide) ?_
        refine xa_iload_n (pc := 133) dX10_init_133 rfl ?_
        refine xa_bipush (pc := 134) dX10_init_134 rfl ?_
        refine xa_icmp_ge (pc := 136) (tgt := 152) dX10_init_136 (by decide) (by decide) (by decide) (fun c_136 => ?_) (fun c_136 => ?_)
        · skip
          exfalso; omega
        · skip
          refine xa_aload_n (pc := 139) dX10_init_139 rfl ?_
          refine xa_getfield (pc := 140) dX10_init_140 flRX10_16 (by omega) (by omega) hO rfl ?_
          refine xa_iload_n (pc := 143) dX10_init_143 rfl ?_
          refine xa_iconst (pc := 144) dX10_init_144 ?_
          refine xa_iastw (pc := 145) 3 dX10_init_145 (by omega) (by omega) hA3 (by omega) (by omega) rfl (fun h37 nh37 ch37 oh37 => ?_)
          have hA3 : h37.1 (k + 3) = xa_a 18 (xa_upf (xa_upf (xa_upf (xa_upf (fun _ => 0) 0 1) 1 1) 2 1) 3 1) := ch37
          have hO : h37.1 k = xa_o 10 [xa_i 0, xa_r (k + 1), xa_r (k + 2), xa_r (k + 3), xa_r (k + 4), xa_r (k + 5), xa_r (k + 6), xa_r (k + 7), xa_r (k + 8), xa_r (k + 9), xa_r (k + 10), xa_r (k + 11), xa_r (k + 12), xa_i 0, xa_i 0, xa_i 0, xa_r (k + 13), xa_i 0, xa_i 0, xa_i 0, xa_i (-4), xa_r (k + 14), xa_r (k + 15), xa_i 0, xa_r (k + 16)] := (oh37 _ (ne_kk (a := 0) (b := 3) (by decide))).trans hO
          have hA1 : h37.1 (k + 1) = xa_a 120 (fun _ => 0) := (oh37 _ (ne_kk (a := 1) (b := 3) (by decide))).trans hA1
          have hA2 : h37.1 (k + 2) = xa_a 2 (fun _ => 0) := (oh37 _ (ne_kk (a := 2) (b := 3) (by decide))).trans hA2
          have hA4 : h37.1 (k + 4) = xa_a 2 (fun _ => 0) := (oh37 _ (ne_kk (a := 4) (b := 3) (by decide))).trans hA4
          have hA5 : h37.1 (k + 5) = xa_a 4 (fun _ => 0) := (oh37 _ (ne_kk (a := 5) (b := 3) (by decide))).trans hA5
          have hA6 : h37.1 (k + 6) = xa_a 4 (fun _ => 0) := (oh37 _ (ne_kk (a := 6) (b := 3) (by decide))).trans hA6
          have hA7 : h37.1 (k + 7) = xa_a 2 (fun _ => 0) := (oh37 _ (ne_kk (a := 7) (b := 3) (by decide))).trans hA7
          have hA8 : h37.1 (k + 8) = xa_a 2 (fun _ => 0) := (oh37 _ (ne_kk (a := 8) (b := 3) (by decide))).trans hA8
          have hA9 : h37.1 (k + 9) = xa_a 12 (fun _ => 0) := (oh37 _ (ne_kk (a := 9) (b := 3) (by decide))).trans hA9
          have hA10 : h37.1 (k + 10) = xa_a 720 (fun _ => 0) := (oh37 _ (ne_kk (a := 10) (b := 3) (by decide))).trans hA10
          have hA11 : h37.1 (k + 11) = xa_a 3 (fun _ => 0) := (oh37 _ (ne_kk (a := 11) (b := 3) (by decide))).trans hA11
          have hA12 : h37.1 (k + 12) = xa_a 360 (fun _ => 0) := (oh37 _ (ne_kk (a := 12) (b := 3) (by decide))).trans hA12
          have hA13 : h37.1 (k + 13) = xa_a 3 (fun _ => 0) := (oh37 _ (ne_kk (a := 13) (b := 3) (by decide))).trans hA13
          have hA14 : h37.1 (k + 14) = xa_a 583200 (fun _ => 0) := (oh37 _ (ne_kk (a := 14) (b := 3) (by decide))).trans hA14
          have hA15 : h37.1 (k + 15) = xa_a 583200 (fun _ => 0) := (oh37 _ (ne_kk (a := 15) (b := 3) (by decide))).trans hA15
          have hA16 : h37.1 (k + 16) = xa_a 4 (fun _ => 0) := (oh37 _ (ne_kk (a := 16) (b := 3) (by decide))).trans hA16
          have hcn : h37.2 = k + 17 := nh37.trans hcn
          have fr : ∀ i, i < k → h37.1 i = h.1 i := fun i hi => (oh37 i (by omega)).trans (fr i hi)
          refine xa_iincw (pc := 146) (y := 4) [some (xa_r k), some (xa_i 4)] dX10_init_146 (by decide) rfl rfl rfl rfl ?_
          refine xa_goto (pc := 149) (tgt := 133) dX10_init_149 (by decide) ?_
          refine xa_iload_n (pc := 133) dX10_init_133 rfl ?_
          refine xa_bipush (pc := 134) dX10_init_134 rfl ?_
          refine xa_icmp_ge (pc := 136) (tgt := 152) dX10_init_136 (by decide) (by decide) (by decide) (fun c_136 => ?_) (fun c_136 => ?_)
          · skip
            exfalso; omega
          · skip
            refine xa_aload_n (pc := 139) dX10_init_139 rfl ?_
            refine xa_getfield (pc := 140) dX10_init_140 flRX10_16 (by omega) (by omega) hO rfl ?_
            refine xa_iload_n (pc := 143) dX10_init_143 rfl ?_
            refine xa_iconst (pc := 144) dX10_init_144 ?_
            refine xa_iastw (pc := 145) 4 dX10_init_145 (by omega) (by omega) hA3 (by omega) (by omega) rfl (fun h38 nh38 ch38 oh38 => ?_)
            have hA3 : h38.1 (k + 3) = xa_a 18 (xa_upf (xa_upf (xa_upf (xa_upf (xa_upf (fun _ => 0) 0 1) 1 1) 2 1) 3 1) 4 1) := ch38
            have hO : h38.1 k = xa_o 10 [xa_i 0, xa_r (k + 1), xa_r (k + 2), xa_r (k + 3), xa_r (k + 4), xa_r (k + 5), xa_r (k + 6), xa_r (k + 7), xa_r (k + 8), xa_r (k + 9), xa_r (k + 10), xa_r (k + 11), xa_r (k + 12), xa_i 0, xa_i 0, xa_i 0, xa_r (k + 13), xa_i 0, xa_i 0, xa_i 0, xa_i (-4), xa_r (k + 14), xa_r (k + 15), xa_i 0, xa_r (k + 16)] := (oh38 _ (ne_kk (a := 0) (b := 3) (by decide))).trans hO
            have hA1 : h38.1 (k + 1) = xa_a 120 (fun _ => 0) := (oh38 _ (ne_kk (a := 1) (b := 3) (by decide))).trans hA1
            have hA2 : h38.1 (k + 2) = xa_a 2 (fun _ => 0) := (oh38 _ (ne_kk (a := 2) (b := 3) (by decide))).trans hA2
            have hA4 : h38.1 (k + 4) = xa_a 2 (fun _ => 0) := (oh38 _ (ne_kk (a := 4) (b := 3) (by decide))).trans hA4
            have hA5 : h38.1 (k + 5) = xa_a 4 (fun _ => 0) := (oh38 _ (ne_kk (a := 5) (b := 3) (by decide))).trans hA5
            have hA6 : h38.1 (k + 6) = xa_a 4 (fun _ => 0) := (oh38 _ (ne_kk (a := 6) (b := 3) (by decide))).trans hA6
            have hA7 : h38.1 (k + 7) = xa_a 2 (fun _ => 0) := (oh38 _ (ne_kk (a := 7) (b := 3) (by decide))).trans hA7
            have hA8 : h38.1 (k + 8) = xa_a 2 (fun _ => 0) := (oh38 _ (ne_kk (a := 8) (b := 3) (by decide))).trans hA8
            have hA9 : h38.1 (k + 9) = xa_a 12 (fun _ => 0) := (oh38 _ (ne_kk (a := 9) (b := 3) (by decide))).trans hA9
            have hA10 : h38.1 (k + 10) = xa_a 720 (fun _ => 0) := (oh38 _ (ne_kk (a := 10) (b := 3) (by decide))).trans hA10
            have hA11 : h38.1 (k + 11) = xa_a 3 (fun _ => 0) := (oh38 _ (ne_kk (a := 11) (b := 3) (by decide))).trans hA11
            have hA12 : h38.1 (k + 12) = xa_a 360 (fun _ => 0) := (oh38 _ (ne_kk (a := 12) (b := 3) (by decide))).trans hA12
            have hA13 : h38.1 (k + 13) = xa_a 3 (fun _ => 0) := (oh38 _ (ne_kk (a := 13) (b := 3) (by decide))).trans hA13
            have hA14 : h38.1 (k + 14) = xa_a 583200 (fun _ => 0) := (oh38 _ (ne_kk (a := 14) (b := 3) (by decide))).trans hA14
            have hA15 : h38.1 (k + 15) = xa_a 583200 (fun _ => 0) := (oh38 _ (ne_kk (a := 15) (b := 3) (by decide))).trans hA15
            have hA16 : h38.1 (k + 16) = xa_a 4 (fun _ => 0) := (oh38 _ (ne_kk (a := 16) (b := 3) (by decide))).trans hA16
            have hcn : h38.2 = k + 17 := nh38.trans hcn
            have fr : ∀ i, i < k → h38.1 i = h.1 i := fun i hi => (oh38 i (by omega)).trans (fr i hi)
            refine xa_iincw (pc := 146) (y := 5) [some (xa_r k), some (xa_i 5)] dX10_init_146 (by decide) rfl rfl rfl rfl ?_
            refine xa_goto (pc := 149) (tgt := 133) dX10_init_149 (by decide) ?_
            refine xa_iload_n (pc := 133) dX10_init_133 rfl ?_
            refine xa_bipush (pc := 134) dX10_init_134 rfl ?_
            refine xa_icmp_ge (pc := 136) (tgt := 152) dX10_init_136 (by decide) (by decide) (by decide) (fun c_136 => ?_) (fun c_136 => ?_)
            · skip
              exfalso; omega
            · skip
              refine xa_aload_n (pc := 139) dX10_init_139 rfl ?_
              refine xa_getfield (pc := 140) dX10_init_140 flRX10_16 (by omega) (by omega) hO rfl ?_
              refine xa_iload_n (pc := 143) dX10_init_143 rfl ?_
              refine xa_iconst (pc := 144) dX10_init_144 ?_
              refine xa_iastw (pc := 145) 5 dX10_init_145 (by omega) (by omega) hA3 (by omega) (by omega) rfl (fun h39 nh39 ch39 oh39 => ?_)
              have hA3 : h39.1 (k + 3) = xa_a 18 (xa_upf (xa_upf (xa_upf (xa_upf (xa_upf (xa_upf (fun _ => 0) 0 1) 1 1) 2 1) 3 1) 4 1) 5 1) := ch39
              have hO : h39.1 k = xa_o 10 [xa_i 0, xa_r (k + 1), xa_r (k + 2), xa_r (k + 3), xa_r (k + 4), xa_r (k + 5), xa_r (k + 6), xa_r (k + 7), xa_r (k + 8), xa_r (k + 9), xa_r (k + 10), xa_r (k + 11), xa_r (k + 12), xa_i 0, xa_i 0, xa_i 0, xa_r (k + 13), xa_i 0, xa_i 0, xa_i 0, xa_i (-4), xa_r (k + 14), xa_r (k + 15), xa_i 0, xa_r (k + 16)] := (oh39 _ (ne_kk (a := 0) (b := 3) (by decide))).trans hO
              have hA1 : h39.1 (k + 1) = xa_a 120 (fun _ => 0) := (oh39 _ (ne_kk (a := 1) (b := 3) (by decide))).trans hA1
              have hA2 : h39.1 (k + 2) = xa_a 2 (fun _ => 0) := (oh39 _ (ne_kk (a := 2) (b := 3) (by decide))).trans hA2
              have hA4 : h39.1 (k + 4) = xa_a 2 (fun _ => 0) := (oh39 _ (ne_kk (a := 4) (b := 3) (by decide))).trans hA4
              have hA5 : h39.1 (k + 5) = xa_a 4 (fun _ => 0) := (oh39 _ (ne_kk (a := 5) (b := 3) (by decide))).trans hA5
              have hA6 : h39.1 (k + 6) = xa_a 4 (fun _ => 0) := (oh39 _ (ne_kk (a := 6) (b := 3) (by decide))).trans hA6
              have hA7 : h39.1 (k + 7) = xa_a 2 (fun _ => 0) := (oh39 _ (ne_kk (a := 7) (b := 3) (by decide))).trans hA7
              have hA8 : h39.1 (k + 8) = xa_a 2 (fun _ => 0) := (oh39 _ (ne_kk (a := 8) (b := 3) (by decide))).trans hA8
              have hA9 : h39.1 (k + 9) = xa_a 12 (fun _ => 0) := (oh39 _ (ne_kk (a := 9) (b := 3) (by decide))).trans hA9
              have hA10 : h39.1 (k + 10) = xa_a 720 (fun _ => 0) := (oh39 _ (ne_kk (a := 10) (b := 3) (by decide))).trans hA10
              have hA11 : h39.1 (k + 11) = xa_a 3 (fun _ => 0) := (oh39 _ (ne_kk (a := 11) (b := 3) (by decide))).trans hA11
              have hA12 : h39.1 (k + 12) = xa_a 360 (fun _ => 0) := (oh39 _ (ne_kk (a := 12) (b := 3) (by decide))).trans hA12
              have hA13 : h39.1 (k + 13) = xa_a 3 (fun _ => 0) := (oh39 _ (ne_kk (a := 13) (b := 3) (by decide))).trans hA13
              have hA14 : h39.1 (k + 14) = xa_a 583200 (fun _ => 0) := (oh39 _ (ne_kk (a := 14) (b := 3) (by decide))).trans hA14
              have hA15 : h39.1 (k + 15) = xa_a 583200 (fun _ => 0) := (oh39 _ (ne_kk (a := 15) (b := 3) (by decide))).trans hA15
              have hA16 : h39.1 (k + 16) = xa_a 4 (fun _ => 0) := (oh39 _ (ne_kk (a := 16) (b := 3) (by decide))).trans hA16
              have hcn : h39.2 = k + 17 := nh39.trans hcn
              have fr : ∀ i, i < k → h39.1 i = h.1 i := fun i hi => (oh39 i (by omega)).trans (fr i hi)
              refine xa_iincw (pc := 146) (y := 6) [some (xa_r k), some (xa_i 6)] dX10_init_146 (by decide) rfl rfl rfl rfl ?_
              refine xa_goto (pc := 149) (tgt := 133) dX10_init_149 (by decide) ?_
              refine xa_iload_n (pc := 133) dX10_init_133 rfl ?_
              refine xa_bipush (pc := 134) dX10_init_134 rfl ?_
              refine xa_icmp_ge (pc := 136) (tgt := 152) dX10_init_136 (by decide) (by decide) (by decide) (fun c_136 => ?_) (fun c_136 => ?_)
              · skip
                refine xa_aload_n (pc := 152) dX10_init_152 rfl ?_
                refine xa_getfield (pc := 153) dX10_init_153 flRX10_13 (by omega) (by omega) hO rfl ?_
                refine xa_iconst (pc := 156) dX10_init_156 ?_
                refine xa_iconst (pc := 157) dX10_init_157 ?_
                refine xa_iastw (pc := 158) 0 dX10_init_158 (by omega) (by omega) hA2 (by omega) (by omega) rfl (fun h40 nh40 ch40 oh40 => ?_)
                have hA2 : h40.1 (k + 2) = xa_a 2 (xa_upf (fun _ => 0) 0 2) := ch40
                have hO : h40.1 k = xa_o 10 [xa_i 0, xa_r (k + 1), xa_r (k + 2), xa_r (k + 3), xa_r (k + 4), xa_r (k + 5), xa_r (k + 6), xa_r (k + 7), xa_r (k + 8), xa_r (k + 9), xa_r (k + 10), xa_r (k + 11), xa_r (k + 12), xa_i 0, xa_i 0, xa_i 0, xa_r (k + 13), xa_i 0, xa_i 0, xa_i 0, xa_i (-4), xa_r (k + 14), xa_r (k + 15), xa_i 0, xa_r (k + 16)] := (oh40 _ (ne_kk (a := 0) (b := 2) (by decide))).trans hO
                have hA1 : h40.1 (k + 1) = xa_a 120 (fun _ => 0) := (oh40 _ (ne_kk (a := 1) (b := 2) (by decide))).trans hA1
                have hA3 : h40.1 (k + 3) = xa_a 18 (xa_upf (xa_upf (xa_upf (xa_upf (xa_upf (xa_upf (fun _ => 0) 0 1) 1 1) 2 1) 3 1) 4 1) 5 1) := (oh40 _ (ne_kk (a := 3) (b := 2) (by decide))).trans hA3
                have hA4 : h40.1 (k + 4) = xa_a 2 (fun _ => 0) := (oh40 _ (ne_kk (a := 4) (b := 2) (by decide))).trans hA4
                have hA5 : h40.1 (k + 5) = xa_a 4 (fun _ => 0) := (oh40 _ (ne_kk (a := 5) (b := 2) (by decide))).trans hA5
                have hA6 : h40.1 (k + 6) = xa_a 4 (fun _ => 0) := (oh40 _ (ne_kk (a := 6) (b := 2) (by decide))).trans hA6
                have hA7 : h40.1 (k + 7) = xa_a 2 (fun _ => 0) := (oh40 _ (ne_kk (a := 7) (b := 2) (by decide))).trans hA7
                have hA8 : h40.1 (k + 8) = xa_a 2 (fun _ => 0) := (oh40 _ (ne_kk (a := 8) (b := 2) (by decide))).trans hA8
                have hA9 : h40.1 (k + 9) = xa_a 12 (fun _ => 0) := (oh40 _ (ne_kk (a := 9) (b := 2) (by decide))).trans hA9
                have hA10 : h40.1 (k + 10) = xa_a 720 (fun _ => 0) := (oh40 _ (ne_kk (a := 10) (b := 2) (by decide))).trans hA10
                have hA11 : h40.1 (k + 11) = xa_a 3 (fun _ => 0) := (oh40 _ (ne_kk (a := 11) (b := 2) (by decide))).trans hA11
                have hA12 : h40.1 (k + 12) = xa_a 360 (fun _ => 0) := (oh40 _ (ne_kk (a := 12) (b := 2) (by decide))).trans hA12
                have hA13 : h40.1 (k + 13) = xa_a 3 (fun _ => 0) := (oh40 _ (ne_kk (a := 13) (b := 2) (by decide))).trans hA13
                have hA14 : h40.1 (k + 14) = xa_a 583200 (fun _ => 0) := (oh40 _ (ne_kk (a := 14) (b := 2) (by decide))).trans hA14
                have hA15 : h40.1 (k + 15) = xa_a 583200 (fun _ => 0) := (oh40 _ (ne_kk (a := 15) (b := 2) (by decide))).trans hA15
                have hA16 : h40.1 (k + 16) = xa_a 4 (fun _ => 0) := (oh40 _ (ne_kk (a := 16) (b := 2) (by decide))).trans hA16
                have hcn : h40.2 = k + 17 := nh40.trans hcn
                have fr : ∀ i, i < k → h40.1 i = h.1 i := fun i hi => (oh40 i (by omega)).trans (fr i hi)
                refine xa_aload_n (pc := 159) dX10_init_159 rfl ?_
                refine xa_getfield (pc := 160) dX10_init_160 flRX10_19 (by omega) (by omega) hO rfl ?_
                refine xa_iconst (pc := 163) dX10_init_163 ?_
                refine xa_iconst (pc := 164) dX10_init_164 ?_
                refine xa_iastw (pc := 165) 0 dX10_init_165 (by omega) (by omega) hA4 (by omega) (by omega) rfl (fun h41 nh41 ch41 oh41 => ?_)
                have hA4 : h41.1 (k + 4) = xa_a 2 (xa_upf (fun _ => 0) 0 1) := ch41
                have hO : h41.1 k = xa_o 10 [xa_i 0, xa_r (k + 1), xa_r (k + 2), xa_r (k + 3), xa_r (k + 4), xa_r (k + 5), xa_r (k + 6), xa_r (k + 7), xa_r (k + 8), xa_r (k + 9), xa_r (k + 10), xa_r (k + 11), xa_r (k + 12), xa_i 0, xa_i 0, xa_i 0, xa_r (k + 13), xa_i 0, xa_i 0, xa_i 0, xa_i (-4), xa_r (k + 14), xa_r (k + 15), xa_i 0, xa_r (k + 16)] := (oh41 _ (ne_kk (a := 0) (b := 4) (by decide))).trans hO
                have hA1 : h41.1 (k + 1) = xa_a 120 (fun _ => 0) := (oh41 _ (ne_kk (a := 1) (b := 4) (by decide))).trans hA1
                have hA2 : h41.1 (k + 2) = xa_a 2 (xa_upf (fun _ => 0) 0 2) := (oh41 _ (ne_kk (a := 2) (b := 4) (by decide))).trans hA2
                have hA3 : h41.1 (k + 3) = xa_a 18 (xa_upf (xa_upf (xa_upf (xa_upf (xa_upf (xa_upf (fun _ => 0) 0 1) 1 1) 2 1) 3 1) 4 1) 5 1) := (oh41 _ (ne_kk (a := 3) (b := 4) (by decide))).trans hA3
                have hA5 : h41.1 (k + 5) = xa_a 4 (fun _ => 0) := (oh41 _ (ne_kk (a := 5) (b := 4) (by decide))).trans hA5
                have hA6 : h41.1 (k + 6) = xa_a 4 (fun _ => 0) := (oh41 _ (ne_kk (a := 6) (b := 4) (by decide))).trans hA6
                have hA7 : h41.1 (k + 7) = xa_a 2 (fun _ => 0) := (oh41 _ (ne_kk (a := 7) (b := 4) (by decide))).trans hA7
                have hA8 : h41.1 (k + 8) = xa_a 2 (fun _ => 0) := (oh41 _ (ne_kk (a := 8) (b := 4) (by decide))).trans hA8
                have hA9 : h41.1 (k + 9) = xa_a 12 (fun _ => 0) := (oh41 _ (ne_kk (a := 9) (b := 4) (by decide))).trans hA9
                have hA10 : h41.1 (k + 10) = xa_a 720 (fun _ => 0) := (oh41 _ (ne_kk (a := 10) (b := 4) (by decide))).trans hA10
                have hA11 : h41.1 (k + 11) = xa_a 3 (fun _ => 0) := (oh41 _ (ne_kk (a := 11) (b := 4) (by decide))).trans hA11
                have hA12 : h41.1 (k + 12) = xa_a 360 (fun _ => 0) := (oh41 _ (ne_kk (a := 12) (b := 4) (by decide))).trans hA12
                have hA13 : h41.1 (k + 13) = xa_a 3 (fun _ => 0) := (oh41 _ (ne_kk (a := 13) (b := 4) (by decide))).trans hA13
                have hA14 : h41.1 (k + 14) = xa_a 583200 (fun _ => 0) := (oh41 _ (ne_kk (a := 14) (b := 4) (by decide))).trans hA14
                have hA15 : h41.1 (k + 15) = xa_a 583200 (fun _ => 0) := (oh41 _ (ne_kk (a := 15) (b := 4) (by decide))).trans hA15
                have hA16 : h41.1 (k + 16) = xa_a 4 (fun _ => 0) := (oh41 _ (ne_kk (a := 16) (b := 4) (by decide))).trans hA16
                have hcn : h41.2 = k + 17 := nh41.trans hcn
                have fr : ∀ i, i < k → h41.1 i = h.1 i := fun i hi => (oh41 i (by omega)).trans (fr i hi)
                refine xa_aload_n (pc := 166) dX10_init_166 rfl ?_
                refine xa_getfield (pc := 167) dX10_init_167 flRX10_22 (by omega) (by omega) hO rfl ?_
                refine xa_iconst (pc := 170) dX10_init_170 ?_
                refine xa_bipush (pc := 171) dX10_init_171 rfl ?_
                refine xa_iastw (pc := 173) 0 dX10_init_173 (by omega) (by omega) hA5 (by omega) (by omega) rfl (fun h42 nh42 ch42 oh42 => ?_)
                have hA5 : h42.1 (k + 5) = xa_a 4 (xa_upf (fun _ => 0) 0 10) := ch42
                have hO : h42.1 k = xa_o 10 [xa_i 0, xa_r (k + 1), xa_r (k + 2), xa_r (k + 3), xa_r (k + 4), xa_r (k + 5), xa_r (k + 6), xa_r (k + 7), xa_r (k + 8), xa_r (k + 9), xa_r (k + 10), xa_r (k + 11), xa_r (k + 12), xa_i 0, xa_i 0, xa_i 0, xa_r (k + 13), xa_i 0, xa_i 0, xa_i 0, xa_i (-4), xa_r (k + 14), xa_r (k + 15), xa_i 0, xa_r (k + 16)] := (oh42 _ (ne_kk (a := 0) (b := 5) (by decide))).trans hO
                have hA1 : h42.1 (k + 1) = xa_a 120 (fun _ => 0) := (oh42 _ (ne_kk (a := 1) (b := 5) (by decide))).trans hA1
                have hA2 : h42.1 (k + 2) = xa_a 2 (xa_upf (fun _ => 0) 0 2) := (oh42 _ (ne_kk (a := 2) (b := 5) (by decide))).trans hA2
                have hA3 : h42.1 (k + 3) = xa_a 18 (xa_upf (xa_upf (xa_upf (xa_upf (xa_upf (xa_upf (fun _ => 0) 0 1) 1 1) 2 1) 3 1) 4 1) 5 1) := (oh42 _ (ne_kk (a := 3) (b := 5) (by decide))).trans hA3
                have hA4 : h42.1 (k + 4) = xa_a 2 (xa_upf (fun _ => 0) 0 1) := (oh42 _ (ne_kk (a := 4) (b := 5) (by decide))).trans hA4
                have hA6 : h42.1 (k + 6) = xa_a 4 (fun _ => 0) := (oh42 _ (ne_kk (a := 6) (b := 5) (by decide))).trans hA6
                have hA7 : h42.1 (k + 7) = xa_a 2 (fun _ => 0) := (oh42 _ (ne_kk (a := 7) (b := 5) (by decide))).trans hA7
                have hA8 : h42.1 (k + 8) = xa_a 2 (fun _ => 0) := (oh42 _ (ne_kk (a := 8) (b := 5) (by decide))).trans hA8
                have hA9 : h42.1 (k + 9) = xa_a 12 (fun _ => 0) := (oh42 _ (ne_kk (a := 9) (b := 5) (by decide))).trans hA9
                have hA10 : h42.1 (k + 10) = xa_a 720 (fun _ => 0) := (oh42 _ (ne_kk (a := 10) (b := 5) (by decide))).trans hA10
                have hA11 : h42.1 (k + 11) = xa_a 3 (fun _ => 0) := (oh42 _ (ne_kk (a := 11) (b := 5) (by decide))).trans hA11
                have hA12 : h42.1 (k + 12) = xa_a 360 (fun _ => 0) := (oh42 _ (ne_kk (a := 12) (b := 5) (by decide))).trans hA12
                have hA13 : h42.1 (k + 13) = xa_a 3 (fun _ => 0) := (oh42 _ (ne_kk (a := 13) (b := 5) (by decide))).trans hA13
                have hA14 : h42.1 (k + 14) = xa_a 583200 (fun _ => 0) := (oh42 _ (ne_kk (a := 14) (b := 5) (by decide))).trans hA14
                have hA15 : h42.1 (k + 15) = xa_a 583200 (fun _ => 0) := (oh42 _ (ne_kk (a := 15) (b := 5) (by decide))).trans hA15
                have hA16 : h42.1 (k + 16) = xa_a 4 (fun _ => 0) := (oh42 _ (ne_kk (a := 16) (b := 5) (by decide))).trans hA16
                have hcn : h42.2 = k + 17 := nh42.trans hcn
                have fr : ∀ i, i < k → h42.1 i = h.1 i := fun i hi => (oh42 i (by omega)).trans (fr i hi)
                refine xa_aload_n (pc := 174) dX10_init_174 rfl ?_
                refine xa_getfield (pc := 175) dX10_init_175 flRX10_31 (by omega) (by omega) hO rfl ?_
                refine xa_iconst (pc := 178) dX10_init_178 ?_
                refine xa_bipush (pc := 179) dX10_init_179 rfl ?_
                refine xa_iastw (pc := 181) 0 dX10_init_181 (by omega) (by omega) hA8 (by omega) (by omega) rfl (fun h43 nh43 ch43 oh43 => ?_)
                have hA8 : h43.1 (k + 8) = xa_a 2 (xa_upf (fun _ => 0) 0 10) := ch43
                have hO : h43.1 k = xa_o 10 [xa_i 0, xa_r (k + 1), xa_r (k + 2), xa_r (k + 3), xa_r (k + 4), xa_r (k + 5), xa_r (k + 6), xa_r (k + 7), xa_r (k + 8), xa_r (k + 9), xa_r (k + 10), xa_r (k + 11), xa_r (k + 12), xa_i 0, xa_i 0, xa_i 0, xa_r (k + 13), xa_i 0, xa_i 0, xa_i 0, xa_i (-4), xa_r (k + 14), xa_r (k + 15), xa_i 0, xa_r (k + 16)] := (oh43 _ (ne_kk (a := 0) (b := 8) (by decide))).trans hO
                have hA1 : h43.1 (k + 1) = xa_a 120 (fun _ => 0) := (oh43 _ (ne_kk (a := 1) (b := 8) (by decide))).trans hA1
                have hA2 : h43.1 (k + 2) = xa_a 2 (xa_upf (fun _ => 0) 0 2) := (oh43 _ (ne_kk (a := 2) (b := 8) (by decide))).trans hA2
                have hA3 : h43.1 (k + 3) = xa_a 18 (xa_upf (xa_upf (xa_upf (xa_upf (xa_upf (xa_upf (fun _ => 0) 0 1) 1 1) 2 1) 3 1) 4 1) 5 1) := (oh43 _ (ne_kk (a := 3) (b := 8) (by decide))).trans hA3
                have hA4 : h43.1 (k + 4) = xa_a 2 (xa_upf (fun _ => 0) 0 1) := (oh43 _ (ne_kk (a := 4) (b := 8) (by decide))).trans hA4
                have hA5 : h43.1 (k + 5) = xa_a 4 (xa_upf (fun _ => 0) 0 10) := (oh43 _ (ne_kk (a := 5) (b := 8) (by decide))).trans hA5
                have hA6 : h43.1 (k + 6) = xa_a 4 (fun _ => 0) := (oh43 _ (ne_kk (a := 6) (b := 8) (by decide))).trans hA6
                have hA7 : h43.1 (k + 7) = xa_a 2 (fun _ => 0) := (oh43 _ (ne_kk (a := 7) (b := 8) (by decide))).trans hA7
                have hA9 : h43.1 (k + 9) = xa_a 12 (fun _ => 0) := (oh43 _ (ne_kk (a := 9) (b := 8) (by decide))).trans hA9
                have hA10 : h43.1 (k + 10) = xa_a 720 (fun _ => 0) := (oh43 _ (ne_kk (a := 10) (b := 8) (by decide))).trans hA10
                have hA11 : h43.1 (k + 11) = xa_a 3 (fun _ => 0) := (oh43 _ (ne_kk (a := 11) (b := 8) (by decide))).trans hA11
                have hA12 : h43.1 (k + 12) = xa_a 360 (fun _ => 0) := (oh43 _ (ne_kk (a := 12) (b := 8) (by decide))).trans hA12
                have hA13 : h43.1 (k + 13) = xa_a 3 (fun _ => 0) := (oh43 _ (ne_kk (a := 13) (b := 8) (by decide))).trans hA13
                have hA14 : h43.1 (k + 14) = xa_a 583200 (fun _ => 0) := (oh43 _ (ne_kk (a := 14) (b := 8) (by decide))).trans hA14
                have hA15 : h43.1 (k + 15) = xa_a 583200 (fun _ => 0) := (oh43 _ (ne_kk (a := 15) (b := 8) (by decide))).trans hA15
                have hA16 : h43.1 (k + 16) = xa_a 4 (fun _ => 0) := (oh43 _ (ne_kk (a := 16) (b := 8) (by decide))).trans hA16
                have hcn : h43.2 = k + 17 := nh43.trans hcn
                have fr : ∀ i, i < k → h43.1 i = h.1 i := fun i hi => (oh43 i (by omega)).trans (fr i hi)
                refine xa_return (pc := 182) dX10_init_182 rfl ?_
                exact ⟨rfl, ⟨hO, hA1, hA2, hA3, hA4, hA5, hA6, hA7, hA8, hA9, hA10, hA11, hA12, hA13, hA14, hA15, hA16, by omega, by omega⟩, by omega, fr⟩
              · skip
                exfalso; omega
