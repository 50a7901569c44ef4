/-! constructors: Text, Body, Shape, Sheet -/
section XR4
variable {G : xa_G} {Y : xa_Y} {Z : xa_Zt} {pc : Nat} {ls : xa_Ls} {st : List xa_V} {h : xa_H} {mc ms : Nat}
theorem xa_newap {n : Int} {mc0 ms0 : Nat} (m p : Nat) (hp : h.2 = p) (hd : decode (xa_yc Y) pc = .ok (.newarray .int, 2)) (hm : n = (m : Int)) (h1 : m ≤ 100000000) (hmc : mc = mc0 + 1) (hms : ms = ms0 + m) (K : ∀ h1 : xa_H, h1.2 = p + 1 → h1.1 p = xa_a m (fun _ => 0) → (∀ i, i ≠ p → h1.1 i = h.1 i) → xa_W G Y Z (pc + 2) ls (xa_r p :: st) h1 mc0 ms0) : xa_W G Y Z pc ls (xa_i n :: st) h mc ms := by
  subst hp
  exact xa_newaw m hd hm h1 hmc hms K
end XR4

theorem c_Text_init {G : xa_G} {h : xa_H} (k : Nat)  (hk : 2 ≤ k) (hcn : h.2 = k + 1)  (hO : h.1 k = xa_o 7 [xa_n, xa_i 0]) : xa_M G mX7_init [xa_r k] h 1 120 (fun r h' => r = none ∧ xT h' k 0 (fun _ => 0) ∧ h'.2 = k + 2 ∧ ∀ i, i < k → h'.1 i = h.1 i) := by
  refine xa_enter (by decide +kernel) (Nat.le_of_ble_eq_true rfl) ?_
  refine xa_locals (ls' := [some (xa_r k)]) rfl ?_
  have fr : ∀ i, i < k → h.1 i = h.1 i := fun _ _ => rfl
  refine xa_aload_n (pc := 0) dX7_init_0 rfl ?_
  refine xa_objinit (pc := 1) dX7_init_1 lkRX7_3 zo_1 zo_2 (Nat.le_of_ble_eq_true rfl) (by decide) ?_
  refine xa_aload_n (pc := 4) dX7_init_4 rfl ?_
  refine xa_bipush (pc := 5) dX7_init_5 rfl ?_
  refine xa_newap (pc := 7) (mc0 := 0) (ms0 := 0) 120 (k + 1) hcn dX7_init_7 rfl (by decide) rfl rfl (fun h1 nh1 ch1 oh1 => ?_)
  have hO : h1.1 k = xa_o 7 [xa_n, xa_i 0] := (oh1 _ (by omega)).trans hO
  have hA1 : h1.1 (k + 1) = xa_a 120 (fun _ => 0) := ch1
  have hcn : h1.2 = k + 2 := nh1
  have fr : ∀ i, i < k → h1.1 i = h.1 i := fun i hi => (oh1 i (by omega)).trans (fr i hi)
  refine xa_putwF (pc := 9) [xa_r (k + 1), xa_i 0] dX7_init_9 rfl flRX7_9 plX7_0 (by omega) (by omega) hO trivial rfl rfl (fun h2 nh2 ch2 oh2 => ?_)
  have hO : h2.1 k = xa_o 7 [xa_r (k + 1), xa_i 0] := ch2
  have hA1 : h2.1 (k + 1) = xa_a 120 (fun _ => 0) := (oh2 _ (by omega)).trans hA1
  have hcn : h2.2 = k + 2 := nh2.trans hcn
  have fr : ∀ i, i < k → h2.1 i = h.1 i := fun i hi => (oh2 i (by omega)).trans (fr i hi)
  refine xa_return (pc := 12) dX7_init_12 rfl ?_
  exact ⟨rfl, ⟨hO, hA1, hk, by omega, by omega, fun _ => ⟨Int.le_refl 0, (by decide : (0 : Int) ≤ 255)⟩⟩, by omega, fr⟩
theorem c_Body_init {G : xa_G} {h : xa_H} (k : Nat)  (hk : 2 ≤ k) (hcn : h.2 = k + 1)  (hO : h.1 k = xa_o 0 [xa_n, xa_n, xa_i 0, xa_i 0, xa_i 0, xa_i 0, xa_i 0, xa_i 0]) : xa_M G mX0_init [xa_r k] h 2 11 (fun r h' => r = none ∧ xB h' k (fun _ => 0) (fun _ => 0) 0 0 (-4) 0 0 10 ∧ h'.2 = k + 3 ∧ ∀ i, i < k → h'.1 i = h.1 i) := by
  refine xa_enter (by decide +kernel) (Nat.le_of_ble_eq_true rfl) ?_
  refine xa_locals (ls' := [some (xa_r k)]) rfl ?_
  have fr : ∀ i, i < k → h.1 i = h.1 i := fun _ _ => rfl
  refine xa_aload_n (pc := 0) dX0_init_0 rfl ?_
  refine xa_objinit (pc := 1) dX0_init_1 lkRX0_3 zo_1 zo_2 (Nat.le_of_ble_eq_true rfl) (by decide) ?_
  refine xa_aload_n (pc := 4) dX0_init_4 rfl ?_
  refine xa_bipush (pc := 5) dX0_init_5 rfl ?_
  refine xa_newap (pc := 7) (mc0 := 1) (ms0 := 2) 9 (k + 1) hcn dX0_init_7 rfl (by decide) rfl rfl (fun h1 nh1 ch1 oh1 => ?_)
  have hO : h1.1 k = xa_o 0 [xa_n, xa_n, xa_i 0, xa_i 0, xa_i 0, xa_i 0, xa_i 0, xa_i 0] := (oh1 _ (by omega)).trans hO
  have hA1 : h1.1 (k + 1) = xa_a 9 (fun _ => 0) := ch1
  have hcn : h1.2 = k + 2 := nh1
  have fr : ∀ i, i < k → h1.1 i = h.1 i := fun i hi => (oh1 i (by omega)).trans (fr i hi)
  refine xa_putwF (pc := 9) [xa_r (k + 1), xa_n, xa_i 0, xa_i 0, xa_i 0, xa_i 0, xa_i 0, xa_i 0] dX0_init_9 rfl flRX0_9 plX0_0 (by omega) (by omega) hO trivial rfl rfl (fun h2 nh2 ch2 oh2 => ?_)
  have hO : h2.1 k = xa_o 0 [xa_r (k + 1), xa_n, xa_i 0, xa_i 0, xa_i 0, xa_i 0, xa_i 0, xa_i 0] := ch2
  have hA1 : h2.1 (k + 1) = xa_a 9 (fun _ => 0) := (oh2 _ (by omega)).trans hA1
  have hcn : h2.2 = k + 2 := nh2.trans hcn
  have fr : ∀ i, i < k → h2.1 i = h.1 i := fun i hi => (oh2 i (by omega)).trans (fr i hi)
  refine xa_aload_n (pc := 12) dX0_init_12 rfl ?_
  refine xa_iconst (pc := 13) dX0_init_13 ?_
  refine xa_newap (pc := 14) (mc0 := 0) (ms0 := 0) 2 (k + 2) hcn dX0_init_14 rfl (by decide) rfl rfl (fun h3 nh3 ch3 oh3 => ?_)
  have hO : h3.1 k = xa_o 0 [xa_r (k + 1), xa_n, xa_i 0, xa_i 0, xa_i 0, xa_i 0, xa_i 0, xa_i 0] := (oh3 _ (by omega)).trans hO
  have hA1 : h3.1 (k + 1) = xa_a 9 (fun _ => 0) := (oh3 _ (by omega)).trans hA1
  have hA2 : h3.1 (k + 2) = xa_a 2 (fun _ => 0) := ch3
  have hcn : h3.2 = k + 3 := nh3
  have fr : ∀ i, i < k → h3.1 i = h.1 i := fun i hi => (oh3 i (by omega)).trans (fr i hi)
  refine xa_putwF (pc := 16) [xa_r (k + 1), xa_r (k + 2), xa_i 0, xa_i 0, xa_i 0, xa_i 0, xa_i 0, xa_i 0] dX0_init_16 rfl flRX0_15 plX0_1 (by omega) (by omega) hO trivial rfl rfl (fun h4 nh4 ch4 oh4 => ?_)
  have hO : h4.1 k = xa_o 0 [xa_r (k + 1), xa_r (k + 2), xa_i 0, xa_i 0, xa_i 0, xa_i 0, xa_i 0, xa_i 0] := ch4
  have hA1 : h4.1 (k + 1) = xa_a 9 (fun _ => 0) := (oh4 _ (by omega)).trans hA1
  have hA2 : h4.1 (k + 2) = xa_a 2 (fun _ => 0) := (oh4 _ (by omega)).trans hA2
  have hcn : h4.2 = k + 3 := nh4.trans hcn
  have fr : ∀ i, i < k → h4.1 i = h.1 i := fun i hi => (oh4 i (by omega)).trans (fr i hi)
  refine xa_aload_n (pc := 19) dX0_init_19 rfl ?_
  refine xa_bipush (pc := 20) dX0_init_20 rfl ?_
  refine xa_putw (pc := 22) [xa_r (k + 1), xa_r (k + 2), xa_i 0, xa_i 0, xa_i (-4), xa_i 0, xa_i 0, xa_i 0] dX0_init_22 flRX0_18 plX0_4 (by omega) (by omega) hO trivial rfl (fun h5 nh5 ch5 oh5 => ?_)
  have hO : h5.1 k = xa_o 0 [xa_r (k + 1), xa_r (k + 2), xa_i 0, xa_i 0, xa_i (-4), xa_i 0, xa_i 0, xa_i 0] := ch5
  have hA1 : h5.1 (k + 1) = xa_a 9 (fun _ => 0) := (oh5 _ (by omega)).trans hA1
  have hA2 : h5.1 (k + 2) = xa_a 2 (fun _ => 0) := (oh5 _ (by omega)).trans hA2
  have hcn : h5.2 = k + 3 := nh5.trans hcn
  have fr : ∀ i, i < k → h5.1 i = h.1 i := fun i hi => (oh5 i (by omega)).trans (fr i hi)
  refine xa_aload_n (pc := 25) dX0_init_25 rfl ?_
  refine xa_bipush (pc := 26) dX0_init_26 rfl ?_
  refine xa_putw (pc := 28) [xa_r (k + 1), xa_r (k + 2), xa_i 0, xa_i 0, xa_i (-4), xa_i 0, xa_i 0, xa_i 10] dX0_init_28 flRX0_22 plX0_7 (by omega) (by omega) hO trivial rfl (fun h6 nh6 ch6 oh6 => ?_)
  have hO : h6.1 k = xa_o 0 [xa_r (k + 1), xa_r (k + 2), xa_i 0, xa_i 0, xa_i (-4), xa_i 0, xa_i 0, xa_i 10] := ch6
  have hA1 : h6.1 (k + 1) = xa_a 9 (fun _ => 0) := (oh6 _ (by omega)).trans hA1
  have hA2 : h6.1 (k + 2) = xa_a 2 (fun _ => 0) := (oh6 _ (by omega)).trans hA2
  have hcn : h6.2 = k + 3 := nh6.trans hcn
  have fr : ∀ i, i < k → h6.1 i = h.1 i := fun i hi => (oh6 i (by omega)).trans (fr i hi)
  refine xa_return (pc := 31) dX0_init_31 rfl ?_
  exact ⟨rfl, ⟨hO, hA1, hA2, hk, by omega⟩, by omega, fr⟩
theorem c_Shape_init {G : xa_G} {h : xa_H} (k : Nat) (kb : Nat) (hk : 2 ≤ k) (hcn : h.2 = k + 1)  (hO : h.1 k = xa_o 4 [xa_n, xa_n, xa_n, xa_i 0, xa_i 0]) : xa_M G mX4_init [xa_r k, xa_r kb] h 2 5 (fun r h' => r = none ∧ xS h' k kb (fun _ => 0) (fun _ => 0) 0 0 ∧ h'.2 = k + 3 ∧ ∀ i, i < k → h'.1 i = h.1 i) := by
  refine xa_enter (by decide +kernel) (Nat.le_of_ble_eq_true rfl) ?_
  refine xa_locals (ls' := [some (xa_r k), some (xa_r kb)]) rfl ?_
  have fr : ∀ i, i < k → h.1 i = h.1 i := fun _ _ => rfl
  refine xa_aload_n (pc := 0) dX4_init_0 rfl ?_
  refine xa_objinit (pc := 1) dX4_init_1 lkRX4_3 zo_1 zo_2 (Nat.le_of_ble_eq_true rfl) (by decide) ?_
  refine xa_aload_n (pc := 4) dX4_init_4 rfl ?_
  refine xa_iconst (pc := 5) dX4_init_5 ?_
  refine xa_newap (pc := 6) (mc0 := 1) (ms0 := 2) 3 (k + 1) hcn dX4_init_6 rfl (by decide) rfl rfl (fun h1 nh1 ch1 oh1 => ?_)
  have hO : h1.1 k = xa_o 4 [xa_n, xa_n, xa_n, xa_i 0, xa_i 0] := (oh1 _ (by omega)).trans hO
  have hA1 : h1.1 (k + 1) = xa_a 3 (fun _ => 0) := ch1
  have hcn : h1.2 = k + 2 := nh1
  have fr : ∀ i, i < k → h1.1 i = h.1 i := fun i hi => (oh1 i (by omega)).trans (fr i hi)
  refine xa_putwF (pc := 8) [xa_n, xa_r (k + 1), xa_n, xa_i 0, xa_i 0] dX4_init_8 rfl flRX4_9 plX4_1 (by omega) (by omega) hO trivial rfl rfl (fun h2 nh2 ch2 oh2 => ?_)
  have hO : h2.1 k = xa_o 4 [xa_n, xa_r (k + 1), xa_n, xa_i 0, xa_i 0] := ch2
  have hA1 : h2.1 (k + 1) = xa_a 3 (fun _ => 0) := (oh2 _ (by omega)).trans hA1
  have hcn : h2.2 = k + 2 := nh2.trans hcn
  have fr : ∀ i, i < k → h2.1 i = h.1 i := fun i hi => (oh2 i (by omega)).trans (fr i hi)
  refine xa_aload_n (pc := 11) dX4_init_11 rfl ?_
  refine xa_iconst (pc := 12) dX4_init_12 ?_
  refine xa_newap (pc := 13) (mc0 := 0) (ms0 := 0) 2 (k + 2) hcn dX4_init_13 rfl (by decide) rfl rfl (fun h3 nh3 ch3 oh3 => ?_)
  have hO : h3.1 k = xa_o 4 [xa_n, xa_r (k + 1), xa_n, xa_i 0, xa_i 0] := (oh3 _ (by omega)).trans hO
  have hA1 : h3.1 (k + 1) = xa_a 3 (fun _ => 0) := (oh3 _ (by omega)).trans hA1
  have hA2 : h3.1 (k + 2) = xa_a 2 (fun _ => 0) := ch3
  have hcn : h3.2 = k + 3 := nh3
  have fr : ∀ i, i < k → h3.1 i = h.1 i := fun i hi => (oh3 i (by omega)).trans (fr i hi)
  refine xa_putwF (pc := 15) [xa_n, xa_r (k + 1), xa_r (k + 2), xa_i 0, xa_i 0] dX4_init_15 rfl flRX4_15 plX4_2 (by omega) (by omega) hO trivial rfl rfl (fun h4 nh4 ch4 oh4 => ?_)
  have hO : h4.1 k = xa_o 4 [xa_n, xa_r (k + 1), xa_r (k + 2), xa_i 0, xa_i 0] := ch4
  have hA1 : h4.1 (k + 1) = xa_a 3 (fun _ => 0) := (oh4 _ (by omega)).trans hA1
  have hA2 : h4.1 (k + 2) = xa_a 2 (fun _ => 0) := (oh4 _ (by omega)).trans hA2
  have hcn : h4.2 = k + 3 := nh4.trans hcn
  have fr : ∀ i, i < k → h4.1 i = h.1 i := fun i hi => (oh4 i (by omega)).trans (fr i hi)
  refine xa_aload_n (pc := 18) dX4_init_18 rfl ?_
  refine xa_aload_n (pc := 19) dX4_init_19 rfl ?_
  refine xa_putwF (pc := 20) [xa_r kb, xa_r (k + 1), xa_r (k + 2), xa_i 0, xa_i 0] dX4_init_20 rfl flRX4_18 plX4_0 (by omega) (by omega) hO trivial rfl rfl (fun h5 nh5 ch5 oh5 => ?_)
  have hO : h5.1 k = xa_o 4 [xa_r kb, xa_r (k + 1), xa_r (k + 2), xa_i 0, xa_i 0] := ch5
  have hA1 : h5.1 (k + 1) = xa_a 3 (fun _ => 0) := (oh5 _ (by omega)).trans hA1
  have hA2 : h5.1 (k + 2) = xa_a 2 (fun _ => 0) := (oh5 _ (by omega)).trans hA2
  have hcn : h5.2 = k + 3 := nh5.trans hcn
  have fr : ∀ i, i < k → h5.1 i = h.1 i := fun i hi => (oh5 i (by omega)).trans (fr i hi)
  refine xa_return (pc := 23) dX4_init_23 rfl ?_
  exact ⟨rfl, ⟨hO, hA1, hA2, hk, by omega⟩, by omega, fr⟩
theorem c_Sheet_init {G : xa_G} {h : xa_H} (k : Nat)  (hk : 2 ≤ k) (hcn : h.2 = k + 1)  (hO : h.1 k = xa_o 5 [xa_n, xa_n, xa_n, xa_i 0]) : xa_M G mX5_init [xa_r k] h 3 364 (fun r h' => r = none ∧ xH h' k (fun _ => 0) (fun _ => 0) (fun _ => 0) 0 ∧ h'.2 = k + 4 ∧ ∀ i, i < k → h'.1 i = h.1 i) := by
  refine xa_enter (by decide +kernel) (Nat.le_of_ble_eq_true rfl) ?_
  refine xa_locals (ls' := [some (xa_r k)]) rfl ?_
  have fr : ∀ i, i < k → h.1 i = h.1 i := fun _ _ => rfl
  refine xa_aload_n (pc := 0) dX5_init_0 rfl ?_
  refine xa_objinit (pc := 1) dX5_init_1 lkRX5_3 zo_1 zo_2 (Nat.le_of_ble_eq_true rfl) (by decide) ?_
  refine xa_aload_n (pc := 4) dX5_init_4 rfl ?_
  refine xa_sipush (pc := 5) dX5_init_5 rfl ?_
  refine xa_newap (pc := 8) (mc0 := 2) (ms0 := 124) 240 (k + 1) hcn dX5_init_8 rfl (by decide) rfl rfl (fun h1 nh1 ch1 oh1 => ?_)
  have hO : h1.1 k = xa_o 5 [xa_n, xa_n, xa_n, xa_i 0] := (oh1 _ (by omega)).trans hO
  have hA1 : h1.1 (k + 1) = xa_a 240 (fun _ => 0) := ch1
  have hcn : h1.2 = k + 2 := nh1
  have fr : ∀ i, i < k → h1.1 i = h.1 i := fun i hi => (oh1 i (by omega)).trans (fr i hi)
  refine xa_putwF (pc := 10) [xa_r (k + 1), xa_n, xa_n, xa_i 0] dX5_init_10 rfl flRX5_9 plX5_0 (by omega) (by omega) hO trivial rfl rfl (fun h2 nh2 ch2 oh2 => ?_)
  have hO : h2.1 k = xa_o 5 [xa_r (k + 1), xa_n, xa_n, xa_i 0] := ch2
  have hA1 : h2.1 (k + 1) = xa_a 240 (fun _ => 0) := (oh2 _ (by omega)).trans hA1
  have hcn : h2.2 = k + 2 := nh2.trans hcn
  have fr : ∀ i, i < k → h2.1 i = h.1 i := fun i hi => (oh2 i (by omega)).trans (fr i hi)
  refine xa_aload_n (pc := 13) dX5_init_13 rfl ?_
  refine xa_iconst (pc := 14) dX5_init_14 ?_
  refine xa_newap (pc := 15) (mc0 := 1) (ms0 := 120) 4 (k + 2) hcn dX5_init_15 rfl (by decide) rfl rfl (fun h3 nh3 ch3 oh3 => ?_)
  have hO : h3.1 k = xa_o 5 [xa_r (k + 1), xa_n, xa_n, xa_i 0] := (oh3 _ (by omega)).trans hO
  have hA1 : h3.1 (k + 1) = xa_a 240 (fun _ => 0) := (oh3 _ (by omega)).trans hA1
  have hA2 : h3.1 (k + 2) = xa_a 4 (fun _ => 0) := ch3
  have hcn : h3.2 = k + 3 := nh3
  have fr : ∀ i, i < k → h3.1 i = h.1 i := fun i hi => (oh3 i (by omega)).trans (fr i hi)
  refine xa_putwF (pc := 17) [xa_r (k + 1), xa_r (k + 2), xa_n, xa_i 0] dX5_init_17 rfl flRX5_15 plX5_1 (by omega) (by omega) hO trivial rfl rfl (fun h4 nh4 ch4 oh4 => ?_)
  have hO : h4.1 k = xa_o 5 [xa_r (k + 1), xa_r (k + 2), xa_n, xa_i 0] := ch4
  have hA1 : h4.1 (k + 1) = xa_a 240 (fun _ => 0) := (oh4 _ (by omega)).trans hA1
  have hA2 : h4.1 (k + 2) = xa_a 4 (fun _ => 0) := (oh4 _ (by omega)).trans hA2
  have hcn : h4.2 = k + 3 := nh4.trans hcn
  have fr : ∀ i, i < k → h4.1 i = h.1 i := fun i hi => (oh4 i (by omega)).trans (fr i hi)
  refine xa_aload_n (pc := 20) dX5_init_20 rfl ?_
  refine xa_bipush (pc := 21) dX5_init_21 rfl ?_
  refine xa_newap (pc := 23) (mc0 := 0) (ms0 := 0) 120 (k + 3) hcn dX5_init_23 rfl (by decide) rfl rfl (fun h5 nh5 ch5 oh5 => ?_)
  have hO : h5.1 k = xa_o 5 [xa_r (k + 1), xa_r (k + 2), xa_n, xa_i 0] := (oh5 _ (by omega)).trans hO
  have hA1 : h5.1 (k + 1) = xa_a 240 (fun _ => 0) := (oh5 _ (by omega)).trans hA1
  have hA2 : h5.1 (k + 2) = xa_a 4 (fun _ => 0) := (oh5 _ (by omega)).trans hA2
  have hA3 : h5.1 (k + 3) = xa_a 120 (fun _ => 0) := ch5
  have hcn : h5.2 = k + 4 := nh5
  have fr : ∀ i, i < k → h5.1 i = h.1 i := fun i hi => (oh5 i (by omega)).trans (fr i hi)
  refine xa_putwF (pc := 25) [xa_r (k + 1), xa_r (k + 2), xa_r (k + 3), xa_i 0] dX5_init_25 rfl flRX5_18 plX5_2 (by omega) (by omega) hO trivial rfl rfl (fun h6 nh6 ch6 oh6 => ?_)
  have hO : h6.1 k = xa_o 5 [xa_r (k + 1), xa_r (k + 2), xa_r (k + 3), xa_i 0] := ch6
  have hA1 : h6.1 (k + 1) = xa_a 240 (fun _ => 0) := (oh6 _ (by omega)).trans hA1
  have hA2 : h6.1 (k + 2) = xa_a 4 (fun _ => 0) := (oh6 _ (by omega)).trans hA2
  have hA3 : h6.1 (k + 3) = xa_a 120 (fun _ => 0) := (oh6 _ (by omega)).trans hA3
  have hcn : h6.2 = k + 4 := nh6.trans hcn
  have fr : ∀ i, i < k → h6.1 i = h.1 i := fun i hi => (oh6 i (by omega)).trans (fr i hi)
  refine xa_return (pc := 28) dX5_init_28 rfl ?_
  exact ⟨rfl, ⟨hO, hA1, hA2, hA3, hk, by omega⟩, by omega, fr⟩
theorem c_Reader_init {G : xa_G} {h : xa_H} (k : Nat) (kt kb : Nat) (hk : 2 ≤ k) (hcn : h.2 = k + 1)  (hO : h.1 k = xa_o 2 [xa_n, xa_n, xa_n, xa_i 0]) : xa_M G mX2_init [xa_r k, xa_r kt, xa_r kb] h 1 3 (fun r h' => r = none ∧ xRd h' k kt kb (fun _ => 0) 0 ∧ h'.2 = k + 2 ∧ ∀ i, i < k → h'.1 i = h.1 i) := by
  refine xa_enter (by decide +kernel) (Nat.le_of_ble_eq_true rfl) ?_
  refine xa_locals (ls' := [some (xa_r k), some (xa_r kt), some (xa_r kb)]) rfl ?_
  have fr : ∀ i, i < k → h.1 i = h.1 i := fun _ _ => rfl
  refine xa_aload_n (pc := 0) dX2_init_0 rfl ?_
  refine xa_objinit (pc := 1) dX2_init_1 lkRX2_3 zo_1 zo_2 (Nat.le_of_ble_eq_true rfl) (by decide) ?_
  refine xa_aload_n (pc := 4) dX2_init_4 rfl ?_
  refine xa_iconst (pc := 5) dX2_init_5 ?_
  refine xa_newap (pc := 6) (mc0 := 0) (ms0 := 0) 3 (k + 1) hcn dX2_init_6 rfl (by decide) rfl rfl (fun h1 nh1 ch1 oh1 => ?_)
  have hO : h1.1 k = xa_o 2 [xa_n, xa_n, xa_n, xa_i 0] := (oh1 _ (by omega)).trans hO
  have hA1 : h1.1 (k + 1) = xa_a 3 (fun _ => 0) := ch1
  have hcn : h1.2 = k + 2 := nh1
  have fr : ∀ i, i < k → h1.1 i = h.1 i := fun i hi => (oh1 i (by omega)).trans (fr i hi)
  refine xa_putwF (pc := 8) [xa_n, xa_n, xa_r (k + 1), xa_i 0] dX2_init_8 rfl flRX2_9 plX2_2 (by omega) (by omega) hO trivial rfl rfl (fun h2 nh2 ch2 oh2 => ?_)
  have hO : h2.1 k = xa_o 2 [xa_n, xa_n, xa_r (k + 1), xa_i 0] := ch2
  have hA1 : h2.1 (k + 1) = xa_a 3 (fun _ => 0) := (oh2 _ (by omega)).trans hA1
  have hcn : h2.2 = k + 2 := nh2.trans hcn
  have fr : ∀ i, i < k → h2.1 i = h.1 i := fun i hi => (oh2 i (by omega)).trans (fr i hi)
  refine xa_aload_n (pc := 11) dX2_init_11 rfl ?_
  refine xa_aload_n (pc := 12) dX2_init_12 rfl ?_
  refine xa_putwF (pc := 13) [xa_r kt, xa_n, xa_r (k + 1), xa_i 0] dX2_init_13 rfl flRX2_15 plX2_0 (by omega) (by omega) hO trivial rfl rfl (fun h3 nh3 ch3 oh3 => ?_)
  have hO : h3.1 k = xa_o 2 [xa_r kt, xa_n, xa_r (k + 1), xa_i 0] := ch3
  have hA1 : h3.1 (k + 1) = xa_a 3 (fun _ => 0) := (oh3 _ (by omega)).trans hA1
  have hcn : h3.2 = k + 2 := nh3.trans hcn
  have fr : ∀ i, i < k → h3.1 i = h.1 i := fun i hi => (oh3 i (by omega)).trans (fr i hi)
  refine xa_aload_n (pc := 16) dX2_init_16 rfl ?_
  refine xa_aload_n (pc := 17) dX2_init_17 rfl ?_
  refine xa_putwF (pc := 18) [xa_r kt, xa_r kb, xa_r (k + 1), xa_i 0] dX2_init_18 rfl flRX2_19 plX2_1 (by omega) (by omega) hO trivial rfl rfl (fun h4 nh4 ch4 oh4 => ?_)
  have hO : h4.1 k = xa_o 2 [xa_r kt, xa_r kb, xa_r (k + 1), xa_i 0] := ch4
  have hA1 : h4.1 (k + 1) = xa_a 3 (fun _ => 0) := (oh4 _ (by omega)).trans hA1
  have hcn : h4.2 = k + 2 := nh4.trans hcn
  have fr : ∀ i, i < k → h4.1 i = h.1 i := fun i hi => (oh4 i (by omega)).trans (fr i hi)
  refine xa_return (pc := 21) dX2_init_21 rfl ?_
  exact ⟨rfl, ⟨hO, hA1, hk, by omega⟩, by omega, fr⟩
