/-! constructors: Trace, Loops -/
section XR5
variable {G : xa_G} {Y : xa_Y} {Z : xa_Zt} {pc : Nat} {ls : xa_Ls} {st : List xa_V} {h : xa_H} {mc ms : Nat}
theorem xa_newo {index ci N : Nat} {C : String} {T : u_T} {ty : Nat → FieldType} {fs : List xa_V} {mc0 ms0 : Nat} (p : Nat) (hp : h.2 = p) (hd : decode (xa_yc Y) pc = .ok (.new index, 3)) (hc : vwCl[ci]? = some (C, T, N)) (hu : ∀ w ∈ u_ws C T N, w ∈ xa_gw) (hty : ∀ k, k < N → parseFieldDescriptor (T k).2.2.1 = some (ty k)) (hcl : Cond.classLink (xa_yn Y).cls index C ∈ xa_gw) (hinst : Cond.instantiable C N ∈ xa_gw) (hini : Cond.initialized C ∈ xa_gw)
    (hfs : ∀ j, j < N → defaultValue (ty j) = vp_V (fs.map (xa_val G)) j) (hlen : fs.length = N) (hmc : mc = mc0 + 1) (hms : ms = ms0 + N) (K : ∀ h1 : xa_H, h1.2 = p + 1 → h1.1 p = xa_o ci fs → (∀ i, i ≠ p → h1.1 i = h.1 i) → xa_W G Y Z (pc + 3) ls (xa_r p :: st) h1 mc0 ms0) : xa_W G Y Z pc ls st h mc ms := by
  subst hp
  exact xa_new hd hc hu hty hcl hinst hini hfs hlen hmc hms (K _ rfl (xa_push_at h _) (fun _ hi => xa_push_ne _ _ hi))
end XR5

theorem c_Trace_init {G : xa_G} {h : xa_H} (k : Nat) (kb : Nat) (hk : 2 ≤ k) (hcn : h.2 = k + 1)  (hO : h.1 k = xa_o 8 [xa_n, xa_n, xa_n, xa_n, xa_n, xa_i 0, xa_i 0]) : xa_M G mX8_init [xa_r k, xa_r kb] h 6 315 (fun r h' => r = none ∧ (xTr h' k kb (fun _ => 0) (fun _ => 0) (fun _ => 0) 0 0 ∧ xS h' (k + 4) kb (fun _ => 0) (fun _ => 0) 0 0) ∧ h'.2 = k + 7 ∧ ∀ i, i < k → h'.1 i = h.1 i) := by
  refine xa_enter (by decide +kernel) (Nat.le_of_ble_eq_true rfl) ?_
  refine xa_locals (ls' := [some (xa_r k), some (xa_r kb)]) rfl ?_
  have fr : ∀ i, i < k → h.1 i = h.1 i := fun _ _ => rfl
  refine xa_aload_n (pc := 0) dX8_init_0 rfl ?_
  refine xa_objinit (pc := 1) dX8_init_1 lkRX8_3 zo_1 zo_2 (Nat.le_of_ble_eq_true rfl) (by decide) ?_
  refine xa_aload_n (pc := 4) dX8_init_4 rfl ?_
  refine xa_sipush (pc := 5) dX8_init_5 rfl ?_
  refine xa_newap (pc := 8) (mc0 := 5) (ms0 := 132) 183 (k + 1) hcn dX8_init_8 rfl (by decide) rfl rfl (fun h1 nh1 ch1 oh1 => ?_)
  have hO : h1.1 k = xa_o 8 [xa_n, xa_n, xa_n, xa_n, xa_n, xa_i 0, xa_i 0] := (oh1 _ (by omega)).trans hO
  have hA1 : h1.1 (k + 1) = xa_a 183 (fun _ => 0) := ch1
  have hcn : h1.2 = k + 2 := nh1
  have fr : ∀ i, i < k → h1.1 i = h.1 i := fun i hi => (oh1 i (by omega)).trans (fr i hi)
  refine xa_putwF (pc := 10) [xa_n, xa_n, xa_r (k + 1), xa_n, xa_n, xa_i 0, xa_i 0] dX8_init_10 rfl flRX8_9 plX8_2 (by omega) (by omega) hO trivial rfl rfl (fun h2 nh2 ch2 oh2 => ?_)
  have hO : h2.1 k = xa_o 8 [xa_n, xa_n, xa_r (k + 1), xa_n, xa_n, xa_i 0, xa_i 0] := ch2
  have hA1 : h2.1 (k + 1) = xa_a 183 (fun _ => 0) := (oh2 _ (by omega)).trans hA1
  have hcn : h2.2 = k + 2 := nh2.trans hcn
  have fr : ∀ i, i < k → h2.1 i = h.1 i := fun i hi => (oh2 i (by omega)).trans (fr i hi)
  refine xa_aload_n (pc := 13) dX8_init_13 rfl ?_
  refine xa_bipush (pc := 14) dX8_init_14 rfl ?_
  refine xa_newap (pc := 16) (mc0 := 4) (ms0 := 71) 61 (k + 2) hcn dX8_init_16 rfl (by decide) rfl rfl (fun h3 nh3 ch3 oh3 => ?_)
  have hO : h3.1 k = xa_o 8 [xa_n, xa_n, xa_r (k + 1), xa_n, xa_n, xa_i 0, xa_i 0] := (oh3 _ (by omega)).trans hO
  have hA1 : h3.1 (k + 1) = xa_a 183 (fun _ => 0) := (oh3 _ (by omega)).trans hA1
  have hA2 : h3.1 (k + 2) = xa_a 61 (fun _ => 0) := ch3
  have hcn : h3.2 = k + 3 := nh3
  have fr : ∀ i, i < k → h3.1 i = h.1 i := fun i hi => (oh3 i (by omega)).trans (fr i hi)
  refine xa_putwF (pc := 18) [xa_n, xa_n, xa_r (k + 1), xa_r (k + 2), xa_n, xa_i 0, xa_i 0] dX8_init_18 rfl flRX8_15 plX8_3 (by omega) (by omega) hO trivial rfl rfl (fun h4 nh4 ch4 oh4 => ?_)
  have hO : h4.1 k = xa_o 8 [xa_n, xa_n, xa_r (k + 1), xa_r (k + 2), xa_n, xa_i 0, xa_i 0] := ch4
  have hA1 : h4.1 (k + 1) = xa_a 183 (fun _ => 0) := (oh4 _ (by omega)).trans hA1
  have hA2 : h4.1 (k + 2) = xa_a 61 (fun _ => 0) := (oh4 _ (by omega)).trans hA2
  have hcn : h4.2 = k + 3 := nh4.trans hcn
  have fr : ∀ i, i < k → h4.1 i = h.1 i := fun i hi => (oh4 i (by omega)).trans (fr i hi)
  refine xa_aload_n (pc := 21) dX8_init_21 rfl ?_
  refine xa_bipush (pc := 22) dX8_init_22 rfl ?_
  refine xa_newap (pc := 24) (mc0 := 3) (ms0 := 10) 61 (k + 3) hcn dX8_init_24 rfl (by decide) rfl rfl (fun h5 nh5 ch5 oh5 => ?_)
  have hO : h5.1 k = xa_o 8 [xa_n, xa_n, xa_r (k + 1), xa_r (k + 2), xa_n, xa_i 0, xa_i 0] := (oh5 _ (by omega)).trans hO
  have hA1 : h5.1 (k + 1) = xa_a 183 (fun _ => 0) := (oh5 _ (by omega)).trans hA1
  have hA2 : h5.1 (k + 2) = xa_a 61 (fun _ => 0) := (oh5 _ (by omega)).trans hA2
  have hA3 : h5.1 (k + 3) = xa_a 61 (fun _ => 0) := ch5
  have hcn : h5.2 = k + 4 := nh5
  have fr : ∀ i, i < k → h5.1 i = h.1 i := fun i hi => (oh5 i (by omega)).trans (fr i hi)
  refine xa_putwF (pc := 26) [xa_n, xa_n, xa_r (k + 1), xa_r (k + 2), xa_r (k + 3), xa_i 0, xa_i 0] dX8_init_26 rfl flRX8_18 plX8_4 (by omega) (by omega) hO trivial rfl rfl (fun h6 nh6 ch6 oh6 => ?_)
  have hO : h6.1 k = xa_o 8 [xa_n, xa_n, xa_r (k + 1), xa_r (k + 2), xa_r (k + 3), xa_i 0, xa_i 0] := ch6
  have hA1 : h6.1 (k + 1) = xa_a 183 (fun _ => 0) := (oh6 _ (by omega)).trans hA1
  have hA2 : h6.1 (k + 2) = xa_a 61 (fun _ => 0) := (oh6 _ (by omega)).trans hA2
  have hA3 : h6.1 (k + 3) = xa_a 61 (fun _ => 0) := (oh6 _ (by omega)).trans hA3
  have hcn : h6.2 = k + 4 := nh6.trans hcn
  have fr : ∀ i, i < k → h6.1 i = h.1 i := fun i hi => (oh6 i (by omega)).trans (fr i hi)
  refine xa_aload_n (pc := 29) dX8_init_29 rfl ?_
  refine xa_aload_n (pc := 30) dX8_init_30 rfl ?_
  refine xa_putwF (pc := 31) [xa_n, xa_r kb, xa_r (k + 1), xa_r (k + 2), xa_r (k + 3), xa_i 0, xa_i 0] dX8_init_31 rfl flRX8_21 plX8_1 (by omega) (by omega) hO trivial rfl rfl (fun h7 nh7 ch7 oh7 => ?_)
  have hO : h7.1 k = xa_o 8 [xa_n, xa_r kb, xa_r (k + 1), xa_r (k + 2), xa_r (k + 3), xa_i 0, xa_i 0] := ch7
  have hA1 : h7.1 (k + 1) = xa_a 183 (fun _ => 0) := (oh7 _ (by omega)).trans hA1
  have hA2 : h7.1 (k + 2) = xa_a 61 (fun _ => 0) := (oh7 _ (by omega)).trans hA2
  have hA3 : h7.1 (k + 3) = xa_a 61 (fun _ => 0) := (oh7 _ (by omega)).trans hA3
  have hcn : h7.2 = k + 4 := nh7.trans hcn
  have fr : ∀ i, i < k → h7.1 i = h.1 i := fun i hi => (oh7 i (by omega)).trans (fr i hi)
  refine xa_aload_n (pc := 34) dX8_init_34 rfl ?_
  refine xa_newo (pc := 35) (ci := 4) (C := RX4) (T := TX4) (N := 5) (fs := [xa_n, xa_n, xa_n, xa_i 0, xa_i 0]) (mc0 := 2) (ms0 := 5) (k + 4) hcn dX8_init_35 rfl wcX4 tyX4_ok clRX8_25 inRX4 ziRX4 (fun j hj => by rcases (show j = 0 ∨ j = 1 ∨ j = 2 ∨ j = 3 ∨ j = 4 by omega) with rfl | rfl | rfl | rfl | rfl <;> rfl) rfl rfl rfl (fun h8 nh8 ch8 oh8 => ?_)
  have hO : h8.1 k = xa_o 8 [xa_n, xa_r kb, xa_r (k + 1), xa_r (k + 2), xa_r (k + 3), xa_i 0, xa_i 0] := (oh8 _ (by omega)).trans hO
  have hA1 : h8.1 (k + 1) = xa_a 183 (fun _ => 0) := (oh8 _ (by omega)).trans hA1
  have hA2 : h8.1 (k + 2) = xa_a 61 (fun _ => 0) := (oh8 _ (by omega)).trans hA2
  have hA3 : h8.1 (k + 3) = xa_a 61 (fun _ => 0) := (oh8 _ (by omega)).trans hA3
  have hO4 : h8.1 (k + 4) = xa_o 4 [xa_n, xa_n, xa_n, xa_i 0, xa_i 0] := ch8
  have hcn : h8.2 = k + 5 := nh8
  have fr : ∀ i, i < k → h8.1 i = h.1 i := fun i hi => (oh8 i (by omega)).trans (fr i hi)
  refine xa_dup (pc := 38) dX8_init_38 rfl ?_
  refine xa_aload_n (pc := 39) dX8_init_39 rfl ?_
  refine xa_callI (pc := 40) (as := [xa_r kb]) (rest := [xa_r (k + 4), xa_r k]) (k := (k + 4)) dX8_init_40 ⟨qX4_init.1, qX4_init.2.1, qX4_init.2.2, by decide, by decide⟩ rfl rfl lkRX8_27 imX4_init rfl rfl (Nat.le_of_ble_eq_true rfl) (Nat.le_of_ble_eq_true rfl) (Nat.le_of_ble_eq_true rfl) (c_Shape_init _ _ (by omega) (by omega) hO4) (fun r h' hq => ?_)
  obtain ⟨rfl, ⟨hS0, hS1, hS2, -, -⟩, hqn, hqf⟩ := hq
  have hO : h'.1 k = xa_o 8 [xa_n, xa_r kb, xa_r (k + 1), xa_r (k + 2), xa_r (k + 3), xa_i 0, xa_i 0] := (hqf _ (by omega)).trans hO
  have hA1 : h'.1 (k + 1) = xa_a 183 (fun _ => 0) := (hqf _ (by omega)).trans hA1
  have hA2 : h'.1 (k + 2) = xa_a 61 (fun _ => 0) := (hqf _ (by omega)).trans hA2
  have hA3 : h'.1 (k + 3) = xa_a 61 (fun _ => 0) := (hqf _ (by omega)).trans hA3
  have hcn : h'.2 = k + 7 := by omega
  have fr : ∀ i, i < k → h'.1 i = h.1 i := fun i hi => (hqf i (by omega)).trans (fr i hi)
  refine xa_putwF (pc := 43) [xa_r (k + 4), xa_r kb, xa_r (k + 1), xa_r (k + 2), xa_r (k + 3), xa_i 0, xa_i 0] dX8_init_43 rfl flRX8_30 plX8_0 (by omega) (by omega) hO trivial rfl rfl (fun h9 nh9 ch9 oh9 => ?_)
  have hO : h9.1 k = xa_o 8 [xa_r (k + 4), xa_r kb, xa_r (k + 1), xa_r (k + 2), xa_r (k + 3), xa_i 0, xa_i 0] := ch9
  have hA1 : h9.1 (k + 1) = xa_a 183 (fun _ => 0) := (oh9 _ (by omega)).trans hA1
  have hA2 : h9.1 (k + 2) = xa_a 61 (fun _ => 0) := (oh9 _ (by omega)).trans hA2
  have hA3 : h9.1 (k + 3) = xa_a 61 (fun _ => 0) := (oh9 _ (by omega)).trans hA3
  have hS0 : h9.1 (k + 4) = xa_o 4 [xa_r kb, xa_r (k + 4 + 1), xa_r (k + 4 + 2), xa_i 0, xa_i 0] := (oh9 _ (by omega)).trans hS0
  have hS1 : h9.1 (k + 4 + 1) = xa_a 3 (fun _ => 0) := (oh9 _ (by omega)).trans hS1
  have hS2 : h9.1 (k + 4 + 2) = xa_a 2 (fun _ => 0) := (oh9 _ (by omega)).trans hS2
  have hcn : h9.2 = k + 7 := nh9.trans hcn
  have fr : ∀ i, i < k → h9.1 i = h.1 i := fun i hi => (oh9 i (by omega)).trans (fr i hi)
  refine xa_return (pc := 46) dX8_init_46 rfl ?_
  exact ⟨rfl, ⟨⟨hO, hA1, hA2, hA3, hk, by omega⟩, hS0, hS1, hS2, by omega, by omega⟩, by omega, fr⟩
theorem c_Loops_init {G : xa_G} {h : xa_H} (k : Nat) (kb : Nat) (hk : 2 ≤ k) (hcn : h.2 = k + 1)  (hO : h.1 k = xa_o 1 [xa_n, xa_n]) : xa_M G mX1_init [xa_r k, xa_r kb] h 3 10 (fun r h' => r = none ∧ (h'.1 k = xa_o 1 [xa_r kb, xa_r (k + 1)] ∧ xS h' (k + 1) kb (fun _ => 0) (fun _ => 0) 0 0) ∧ h'.2 = k + 4 ∧ ∀ i, i < k → h'.1 i = h.1 i) := by
  refine xa_enter (by decide +kernel) (Nat.le_of_ble_eq_true rfl) ?_
  refine xa_locals (ls' := [some (xa_r k), some (xa_r kb)]) rfl ?_
  have fr : ∀ i, i < k → h.1 i = h.1 i := fun _ _ => rfl
  refine xa_aload_n (pc := 0) dX1_init_0 rfl ?_
  refine xa_objinit (pc := 1) dX1_init_1 lkRX1_3 zo_1 zo_2 (Nat.le_of_ble_eq_true rfl) (by decide) ?_
  refine xa_aload_n (pc := 4) dX1_init_4 rfl ?_
  refine xa_aload_n (pc := 5) dX1_init_5 rfl ?_
  refine xa_putwF (pc := 6) [xa_r kb, xa_n] dX1_init_6 rfl flRX1_9 plX1_0 (by omega) (by omega) hO trivial rfl rfl (fun h1 nh1 ch1 oh1 => ?_)
  have hO : h1.1 k = xa_o 1 [xa_r kb, xa_n] := ch1
  have hcn : h1.2 = k + 1 := nh1.trans hcn
  have fr : ∀ i, i < k → h1.1 i = h.1 i := fun i hi => (oh1 i (by omega)).trans (fr i hi)
  refine xa_aload_n (pc := 9) dX1_init_9 rfl ?_
  refine xa_newo (pc := 10) (ci := 4) (C := RX4) (T := TX4) (N := 5) (fs := [xa_n, xa_n, xa_n, xa_i 0, xa_i 0]) (mc0 := 2) (ms0 := 5) (k + 1) hcn dX1_init_10 rfl wcX4 tyX4_ok clRX1_15 inRX4 ziRX4 (fun j hj => by rcases (show j = 0 ∨ j = 1 ∨ j = 2 ∨ j = 3 ∨ j = 4 by omega) with rfl | rfl | rfl | rfl | rfl <;> rfl) rfl rfl rfl (fun h2 nh2 ch2 oh2 => ?_)
  have hO : h2.1 k = xa_o 1 [xa_r kb, xa_n] := (oh2 _ (by omega)).trans hO
  have hO1 : h2.1 (k + 1) = xa_o 4 [xa_n, xa_n, xa_n, xa_i 0, xa_i 0] := ch2
  have hcn : h2.2 = k + 2 := nh2
  have fr : ∀ i, i < k → h2.1 i = h.1 i := fun i hi => (oh2 i (by omega)).trans (fr i hi)
  refine xa_dup (pc := 13) dX1_init_13 rfl ?_
  refine xa_aload_n (pc := 14) dX1_init_14 rfl ?_
  refine xa_callI (pc := 15) (as := [xa_r kb]) (rest := [xa_r (k + 1), xa_r k]) (k := (k + 1)) dX1_init_15 ⟨qX4_init.1, qX4_init.2.1, qX4_init.2.2, by decide, by decide⟩ rfl rfl lkRX1_17 imX4_init rfl rfl (Nat.le_of_ble_eq_true rfl) (Nat.le_of_ble_eq_true rfl) (Nat.le_of_ble_eq_true rfl) (c_Shape_init _ _ (by omega) (by omega) hO1) (fun r h' hq => ?_)
  obtain ⟨rfl, ⟨hS0, hS1, hS2, -, -⟩, hqn, hqf⟩ := hq
  have hO : h'.1 k = xa_o 1 [xa_r kb, xa_n] := (hqf _ (by omega)).trans hO
  have hcn : h'.2 = k + 4 := by omega
  have fr : ∀ i, i < k → h'.1 i = h.1 i := fun i hi => (hqf i (by omega)).trans (fr i hi)
  refine xa_putwF (pc := 18) [xa_r kb, xa_r (k + 1)] dX1_init_18 rfl flRX1_20 plX1_1 (by omega) (by omega) hO trivial rfl rfl (fun h3 nh3 ch3 oh3 => ?_)
  have hO : h3.1 k = xa_o 1 [xa_r kb, xa_r (k + 1)] := ch3
  have hS0 : h3.1 (k + 1) = xa_o 4 [xa_r kb, xa_r (k + 1 + 1), xa_r (k + 1 + 2), xa_i 0, xa_i 0] := (oh3 _ (by omega)).trans hS0
  have hS1 : h3.1 (k + 1 + 1) = xa_a 3 (fun _ => 0) := (oh3 _ (by omega)).trans hS1
  have hS2 : h3.1 (k + 1 + 2) = xa_a 2 (fun _ => 0) := (oh3 _ (by omega)).trans hS2
  have hcn : h3.2 = k + 4 := nh3.trans hcn
  have fr : ∀ i, i < k → h3.1 i = h.1 i := fun i hi => (oh3 i (by omega)).trans (fr i hi)
  refine xa_return (pc := 21) dX1_init_21 rfl ?_
  exact ⟨rfl, ⟨hO, hS0, hS1, hS2, by omega, by omega⟩, by omega, fr⟩
def xTb0 (h : xa_H) (k kb : Nat) (sj : Int) : Prop := h.1 k = xa_o 6 [xa_r kb, xa_r (k + 5), xa_i sj, xa_r (k + 1), xa_r (k + 2), xa_i 0, xa_i 0, xa_i 0, xa_r (k + 3), xa_r (k + 4)] ∧ h.1 (k + 1) = xa_a 2 (fun _ => 0) ∧ h.1 (k + 2) = xa_a 2 (fun _ => 0) ∧ h.1 (k + 3) = xa_a 0 (fun _ => 0) ∧ h.1 (k + 4) = xa_a 0 (fun _ => 0) ∧ xS h (k + 5) kb (fun _ => 0) (fun _ => 0) 0 0
theorem c_Table_init {G : xa_G} {h : xa_H} (k : Nat) (kb : Nat) (sj : Int) (hk : 2 ≤ k) (hcn : h.2 = k + 1)  (hO : h.1 k = xa_o 6 [xa_n, xa_n, xa_i 0, xa_n, xa_n, xa_i 0, xa_i 0, xa_i 0, xa_n, xa_n]) : xa_M G mX6_init [xa_r k, xa_r kb, xa_i sj] h 7 14 (fun r h' => r = none ∧ xTb0 h' k kb sj ∧ h'.2 = k + 8 ∧ ∀ i, i < k → h'.1 i = h.1 i) := by
  refine xa_enter (by decide +kernel) (Nat.le_of_ble_eq_true rfl) ?_
  refine xa_locals (ls' := [some (xa_r k), some (xa_r kb), some (xa_i sj)]) rfl ?_
  have fr : ∀ i, i < k → h.1 i = h.1 i := fun _ _ => rfl
  refine xa_aload_n (pc := 0) dX6_init_0 rfl ?_
  refine xa_objinit (pc := 1) dX6_init_1 lkRX6_3 zo_1 zo_2 (Nat.le_of_ble_eq_true rfl) (by decide) ?_
  refine xa_aload_n (pc := 4) dX6_init_4 rfl ?_
  refine xa_iconst (pc := 5) dX6_init_5 ?_
  refine xa_newap (pc := 6) (mc0 := 6) (ms0 := 12) 2 (k + 1) hcn dX6_init_6 rfl (by decide) rfl rfl (fun h1 nh1 ch1 oh1 => ?_)
  have hO : h1.1 k = xa_o 6 [xa_n, xa_n, xa_i 0, xa_n, xa_n, xa_i 0, xa_i 0, xa_i 0, xa_n, xa_n] := (oh1 _ (by omega)).trans hO
  have hA1 : h1.1 (k + 1) = xa_a 2 (fun _ => 0) := ch1
  have hcn : h1.2 = k + 2 := nh1
  have fr : ∀ i, i < k → h1.1 i = h.1 i := fun i hi => (oh1 i (by omega)).trans (fr i hi)
  refine xa_putwF (pc := 8) [xa_n, xa_n, xa_i 0, xa_r (k + 1), xa_n, xa_i 0, xa_i 0, xa_i 0, xa_n, xa_n] dX6_init_8 rfl flRX6_9 plX6_3 (by omega) (by omega) hO trivial rfl rfl (fun h2 nh2 ch2 oh2 => ?_)
  have hO : h2.1 k = xa_o 6 [xa_n, xa_n, xa_i 0, xa_r (k + 1), xa_n, xa_i 0, xa_i 0, xa_i 0, xa_n, xa_n] := ch2
  have hA1 : h2.1 (k + 1) = xa_a 2 (fun _ => 0) := (oh2 _ (by omega)).trans hA1
  have hcn : h2.2 = k + 2 := nh2.trans hcn
  have fr : ∀ i, i < k → h2.1 i = h.1 i := fun i hi => (oh2 i (by omega)).trans (fr i hi)
  refine xa_aload_n (pc := 11) dX6_init_11 rfl ?_
  refine xa_iconst (pc := 12) dX6_init_12 ?_
  refine xa_newap (pc := 13) (mc0 := 5) (ms0 := 10) 2 (k + 2) hcn dX6_init_13 rfl (by decide) rfl rfl (fun h3 nh3 ch3 oh3 => ?_)
  have hO : h3.1 k = xa_o 6 [xa_n, xa_n, xa_i 0, xa_r (k + 1), xa_n, xa_i 0, xa_i 0, xa_i 0, xa_n, xa_n] := (oh3 _ (by omega)).trans hO
  have hA1 : h3.1 (k + 1) = xa_a 2 (fun _ => 0) := (oh3 _ (by omega)).trans hA1
  have hA2 : h3.1 (k + 2) = xa_a 2 (fun _ => 0) := ch3
  have hcn : h3.2 = k + 3 := nh3
  have fr : ∀ i, i < k → h3.1 i = h.1 i := fun i hi => (oh3 i (by omega)).trans (fr i hi)
  refine xa_putwF (pc := 15) [xa_n, xa_n, xa_i 0, xa_r (k + 1), xa_r (k + 2), xa_i 0, xa_i 0, xa_i 0, xa_n, xa_n] dX6_init_15 rfl flRX6_15 plX6_4 (by omega) (by omega) hO trivial rfl rfl (fun h4 nh4 ch4 oh4 => ?_)
  have hO : h4.1 k = xa_o 6 [xa_n, xa_n, xa_i 0, xa_r (k + 1), xa_r (k + 2), xa_i 0, xa_i 0, xa_i 0, xa_n, xa_n] := ch4
  have hA1 : h4.1 (k + 1) = xa_a 2 (fun _ => 0) := (oh4 _ (by omega)).trans hA1
  have hA2 : h4.1 (k + 2) = xa_a 2 (fun _ => 0) := (oh4 _ (by omega)).trans hA2
  have hcn : h4.2 = k + 3 := nh4.trans hcn
  have fr : ∀ i, i < k → h4.1 i = h.1 i := fun i hi => (oh4 i (by omega)).trans (fr i hi)
  refine xa_aload_n (pc := 18) dX6_init_18 rfl ?_
  refine xa_iconst (pc := 19) dX6_init_19 ?_
  refine xa_newap (pc := 20) (mc0 := 4) (ms0 := 10) 0 (k + 3) hcn dX6_init_20 rfl (by decide) rfl rfl (fun h5 nh5 ch5 oh5 => ?_)
  have hO : h5.1 k = xa_o 6 [xa_n, xa_n, xa_i 0, xa_r (k + 1), xa_r (k + 2), xa_i 0, xa_i 0, xa_i 0, xa_n, xa_n] := (oh5 _ (by omega)).trans hO
  have hA1 : h5.1 (k + 1) = xa_a 2 (fun _ => 0) := (oh5 _ (by omega)).trans hA1
  have hA2 : h5.1 (k + 2) = xa_a 2 (fun _ => 0) := (oh5 _ (by omega)).trans hA2
  have hA3 : h5.1 (k + 3) = xa_a 0 (fun _ => 0) := ch5
  have hcn : h5.2 = k + 4 := nh5
  have fr : ∀ i, i < k → h5.1 i = h.1 i := fun i hi => (oh5 i (by omega)).trans (fr i hi)
  refine xa_putw (pc := 22) [xa_n, xa_n, xa_i 0, xa_r (k + 1), xa_r (k + 2), xa_i 0, xa_i 0, xa_i 0, xa_r (k + 3), xa_n] dX6_init_22 flRX6_18 plX6_8 (by omega) (by omega) hO trivial rfl (fun h6 nh6 ch6 oh6 => ?_)
  have hO : h6.1 k = xa_o 6 [xa_n, xa_n, xa_i 0, xa_r (k + 1), xa_r (k + 2), xa_i 0, xa_i 0, xa_i 0, xa_r (k + 3), xa_n] := ch6
  have hA1 : h6.1 (k + 1) = xa_a 2 (fun _ => 0) := (oh6 _ (by omega)).trans hA1
  have hA2 : h6.1 (k + 2) = xa_a 2 (fun _ => 0) := (oh6 _ (by omega)).trans hA2
  have hA3 : h6.1 (k + 3) = xa_a 0 (fun _ => 0) := (oh6 _ (by omega)).trans hA3
  have hcn : h6.2 = k + 4 := nh6.trans hcn
  have fr : ∀ i, i < k → h6.1 i = h.1 i := fun i hi => (oh6 i (by omega)).trans (fr i hi)
  refine xa_aload_n (pc := 25) dX6_init_25 rfl ?_
  refine xa_iconst (pc := 26) dX6_init_26 ?_
  refine xa_newap (pc := 27) (mc0 := 3) (ms0 := 10) 0 (k + 4) hcn dX6_init_27 rfl (by decide) rfl rfl (fun h7 nh7 ch7 oh7 => ?_)
  have hO : h7.1 k = xa_o 6 [xa_n, xa_n, xa_i 0, xa_r (k + 1), xa_r (k + 2), xa_i 0, xa_i 0, xa_i 0, xa_r (k + 3), xa_n] := (oh7 _ (by omega)).trans hO
  have hA1 : h7.1 (k + 1) = xa_a 2 (fun _ => 0) := (oh7 _ (by omega)).trans hA1
  have hA2 : h7.1 (k + 2) = xa_a 2 (fun _ => 0) := (oh7 _ (by omega)).trans hA2
  have hA3 : h7.1 (k + 3) = xa_a 0 (fun _ => 0) := (oh7 _ (by omega)).trans hA3
  have hA4 : h7.1 (k + 4) = xa_a 0 (fun _ => 0) := ch7
  have hcn : h7.2 = k + 5 := nh7
  have fr : ∀ i, i < k → h7.1 i = h.1 i := fun i hi => (oh7 i (by omega)).trans (fr i hi)
  refine xa_putw (pc := 29) [xa_n, xa_n, xa_i 0, xa_r (k + 1), xa_r (k + 2), xa_i 0, xa_i 0, xa_i 0, xa_r (k + 3), xa_r (k + 4)] dX6_init_29 flRX6_21 plX6_9 (by omega) (by omega) hO trivial rfl (fun h8 nh8 ch8 oh8 => ?_)
  have hO : h8.1 k = xa_o 6 [xa_n, xa_n, xa_i 0, xa_r (k + 1), xa_r (k + 2), xa_i 0, xa_i 0, xa_i 0, xa_r (k + 3), xa_r (k + 4)] := ch8
  have hA1 : h8.1 (k + 1) = xa_a 2 (fun _ => 0) := (oh8 _ (by omega)).trans hA1
  have hA2 : h8.1 (k + 2) = xa_a 2 (fun _ => 0) := (oh8 _ (by omega)).trans hA2
  have hA3 : h8.1 (k + 3) = xa_a 0 (fun _ => 0) := (oh8 _ (by omega)).trans hA3
  have hA4 : h8.1 (k + 4) = xa_a 0 (fun _ => 0) := (oh8 _ (by omega)).trans hA4
  have hcn : h8.2 = k + 5 := nh8.trans hcn
  have fr : ∀ i, i < k → h8.1 i = h.1 i := fun i hi => (oh8 i (by omega)).trans (fr i hi)
  refine xa_aload_n (pc := 32) dX6_init_32 rfl ?_
  refine xa_aload_n (pc := 33) dX6_init_33 rfl ?_
  refine xa_putwF (pc := 34) [xa_r kb, xa_n, xa_i 0, xa_r (k + 1), xa_r (k + 2), xa_i 0, xa_i 0, xa_i 0, xa_r (k + 3), xa_r (k + 4)] dX6_init_34 rfl flRX6_24 plX6_0 (by omega) (by omega) hO trivial rfl rfl (fun h9 nh9 ch9 oh9 => ?_)
  have hO : h9.1 k = xa_o 6 [xa_r kb, xa_n, xa_i 0, xa_r (k + 1), xa_r (k + 2), xa_i 0, xa_i 0, xa_i 0, xa_r (k + 3), xa_r (k + 4)] := ch9
  have hA1 : h9.1 (k + 1) = xa_a 2 (fun _ => 0) := (oh9 _ (by omega)).trans hA1
  have hA2 : h9.1 (k + 2) = xa_a 2 (fun _ => 0) := (oh9 _ (by omega)).trans hA2
  have hA3 : h9.1 (k + 3) = xa_a 0 (fun _ => 0) := (oh9 _ (by omega)).trans hA3
  have hA4 : h9.1 (k + 4) = xa_a 0 (fun _ => 0) := (oh9 _ (by omega)).trans hA4
  have hcn : h9.2 = k + 5 := nh9.trans hcn
  have fr : ∀ i, i < k → h9.1 i = h.1 i := fun i hi => (oh9 i (by omega)).trans (fr i hi)
  refine xa_aload_n (pc := 37) dX6_init_37 rfl ?_
  refine xa_iload_n (pc := 38) dX6_init_38 rfl ?_
  refine xa_putwF (pc := 39) [xa_r kb, xa_n, xa_i sj, xa_r (k + 1), xa_r (k + 2), xa_i 0, xa_i 0, xa_i 0, xa_r (k + 3), xa_r (k + 4)] dX6_init_39 rfl flRX6_28 plX6_2 (by omega) (by omega) hO trivial rfl rfl (fun h10 nh10 ch10 oh10 => ?_)
  have hO : h10.1 k = xa_o 6 [xa_r kb, xa_n, xa_i sj, xa_r (k + 1), xa_r (k + 2), xa_i 0, xa_i 0, xa_i 0, xa_r (k + 3), xa_r (k + 4)] := ch10
  have hA1 : h10.1 (k + 1) = xa_a 2 (fun _ => 0) := (oh10 _ (by omega)).trans hA1
  have hA2 : h10.1 (k + 2) = xa_a 2 (fun _ => 0) := (oh10 _ (by omega)).trans hA2
  have hA3 : h10.1 (k + 3) = xa_a 0 (fun _ => 0) := (oh10 _ (by omega)).trans hA3
  have hA4 : h10.1 (k + 4) = xa_a 0 (fun _ => 0) := (oh10 _ (by omega)).trans hA4
  have hcn : h10.2 = k + 5 := nh10.trans hcn
  have fr : ∀ i, i < k → h10.1 i = h.1 i := fun i hi => (oh10 i (by omega)).trans (fr i hi)
  refine xa_aload_n (pc := 42) dX6_init_42 rfl ?_
  refine xa_newo (pc := 43) (ci := 4) (C := RX4) (T := TX4) (N := 5) (fs := [xa_n, xa_n, xa_n, xa_i 0, xa_i 0]) (mc0 := 2) (ms0 := 5) (k + 5) hcn dX6_init_43 rfl wcX4 tyX4_ok clRX6_32 inRX4 ziRX4 (fun j hj => by rcases (show j = 0 ∨ j = 1 ∨ j = 2 ∨ j = 3 ∨ j = 4 by omega) with rfl | rfl | rfl | rfl | rfl <;> rfl) rfl rfl rfl (fun h11 nh11 ch11 oh11 => ?_)
  have hO : h11.1 k = xa_o 6 [xa_r kb, xa_n, xa_i sj, xa_r (k + 1), xa_r (k + 2), xa_i 0, xa_i 0, xa_i 0, xa_r (k + 3), xa_r (k + 4)] := (oh11 _ (by omega)).trans hO
  have hA1 : h11.1 (k + 1) = xa_a 2 (fun _ => 0) := (oh11 _ (by omega)).trans hA1
  have hA2 : h11.1 (k + 2) = xa_a 2 (fun _ => 0) := (oh11 _ (by omega)).trans hA2
  have hA3 : h11.1 (k + 3) = xa_a 0 (fun _ => 0) := (oh11 _ (by omega)).trans hA3
  have hA4 : h11.1 (k + 4) = xa_a 0 (fun _ => 0) := (oh11 _ (by omega)).trans hA4
  have hO5 : h11.1 (k + 5) = xa_o 4 [xa_n, xa_n, xa_n, xa_i 0, xa_i 0] := ch11
  have hcn : h11.2 = k + 6 := nh11
  have fr : ∀ i, i < k → h11.1 i = h.1 i := fun i hi => (oh11 i (by omega)).trans (fr i hi)
  refine xa_dup (pc := 46) dX6_init_46 rfl ?_
  refine xa_aload_n (pc := 47) dX6_init_47 rfl ?_
  refine xa_callI (pc := 48) (as := [xa_r kb]) (rest := [xa_r (k + 5), xa_r k]) (k := (k + 5)) dX6_init_48 ⟨qX4_init.1, qX4_init.2.1, qX4_init.2.2, by decide, by decide⟩ rfl rfl lkRX6_34 imX4_init rfl rfl (Nat.le_of_ble_eq_true rfl) (Nat.le_of_ble_eq_true rfl) (Nat.le_of_ble_eq_true rfl) (c_Shape_init _ _ (by omega) (by omega) hO5) (fun r h' hq => ?_)
  obtain ⟨rfl, ⟨hS0, hS1, hS2, -, -⟩, hqn, hqf⟩ := hq
  have hO : h'.1 k = xa_o 6 [xa_r kb, xa_n, xa_i sj, xa_r (k + 1), xa_r (k + 2), xa_i 0, xa_i 0, xa_i 0, xa_r (k + 3), xa_r (k + 4)] := (hqf _ (by omega)).trans hO
  have hA1 : h'.1 (k + 1) = xa_a 2 (fun _ => 0) := (hqf _ (by omega)).trans hA1
  have hA2 : h'.1 (k + 2) = xa_a 2 (fun _ => 0) := (hqf _ (by omega)).trans hA2
  have hA3 : h'.1 (k + 3) = xa_a 0 (fun _ => 0) := (hqf _ (by omega)).trans hA3
  have hA4 : h'.1 (k + 4) = xa_a 0 (fun _ => 0) := (hqf _ (by omega)).trans hA4
  have hcn : h'.2 = k + 8 := by omega
  have fr : ∀ i, i < k → h'.1 i = h.1 i := fun i hi => (hqf i (by omega)).trans (fr i hi)
  refine xa_putwF (pc := 51) [xa_r kb, xa_r (k + 5), xa_i sj, xa_r (k + 1), xa_r (k + 2), xa_i 0, xa_i 0, xa_i 0, xa_r (k + 3), xa_r (k + 4)] dX6_init_51 rfl flRX6_37 plX6_1 (by omega) (by omega) hO trivial rfl rfl (fun h12 nh12 ch12 oh12 => ?_)
  have hO : h12.1 k = xa_o 6 [xa_r kb, xa_r (k + 5), xa_i sj, xa_r (k + 1), xa_r (k + 2), xa_i 0, xa_i 0, xa_i 0, xa_r (k + 3), xa_r (k + 4)] := ch12
  have hA1 : h12.1 (k + 1) = xa_a 2 (fun _ => 0) := (oh12 _ (by omega)).trans hA1
  have hA2 : h12.1 (k + 2) = xa_a 2 (fun _ => 0) := (oh12 _ (by omega)).trans hA2
  have hA3 : h12.1 (k + 3) = xa_a 0 (fun _ => 0) := (oh12 _ (by omega)).trans hA3
  have hA4 : h12.1 (k + 4) = xa_a 0 (fun _ => 0) := (oh12 _ (by omega)).trans hA4
  have hS0 : h12.1 (k + 5) = xa_o 4 [xa_r kb, xa_r (k + 5 + 1), xa_r (k + 5 + 2), xa_i 0, xa_i 0] := (oh12 _ (by omega)).trans hS0
  have hS1 : h12.1 (k + 5 + 1) = xa_a 3 (fun _ => 0) := (oh12 _ (by omega)).trans hS1
  have hS2 : h12.1 (k + 5 + 2) = xa_a 2 (fun _ => 0) := (oh12 _ (by omega)).trans hS2
  have hcn : h12.2 = k + 8 := nh12.trans hcn
  have fr : ∀ i, i < k → h12.1 i = h.1 i := fun i hi => (oh12 i (by omega)).trans (fr i hi)
  refine xa_return (pc := 54) dX6_init_54 rfl ?_
  exact ⟨rfl, ⟨hO, hA1, hA2, hA3, hA4, hS0, hS1, hS2, by omega, by omega⟩, by omega, fr⟩
theorem xTb0.kept {h h1 : xa_H} {k kb : Nat} {sj : Int} (hT : xTb0 h k kb sj) (hn : h1.2 = h.2) (ho : ∀ i, k ≤ i → h1.1 i = h.1 i) : xTb0 h1 k kb sj := by
  obtain ⟨a1, a2, a3, a4, a5, b1, b2, b3, b4, b5⟩ := hT
  exact ⟨(ho _ (by omega)).trans a1, (ho _ (by omega)).trans a2, (ho _ (by omega)).trans a3, (ho _ (by omega)).trans a4, (ho _ (by omega)).trans a5, (ho _ (by omega)).trans b1, (ho _ (by omega)).trans b2, (ho _ (by omega)).trans b3, b4, by omega⟩
theorem c_Search_init {G : xa_G} {h : xa_H} (k kb : Nat) (sj : Int) (hk : 2 ≤ k) (hcn : h.2 = k + 1) (hO : h.1 k = xa_o 3 [xa_n, xa_n, xa_n, xa_n, xa_n, xa_i 0, xa_i 0, xa_i 0, xa_i 0, xa_i 0, xa_i 0, xa_i 0]) : xa_M G mX3_init [xa_r k, xa_r kb, xa_i sj] h 11 744 (fun r h' => r = none ∧ (h'.1 k = xa_o 3 [xa_r kb, xa_r (k + 4), xa_r (k + 1), xa_r (k + 2), xa_r (k + 3), xa_i 0, xa_i 0, xa_i 0, xa_i 0, xa_i 0, xa_i 0, xa_i 0] ∧ h'.1 (k + 1) = xa_a 360 (fun _ => 0) ∧ h'.1 (k + 2) = xa_a 360 (fun _ => 0) ∧ h'.1 (k + 3) = xa_a 0 (fun _ => 0) ∧ xTb0 h' (k + 4) kb sj) ∧ h'.2 = k + 12 ∧ ∀ i, i < k → h'.1 i = h.1 i) := by
  refine xa_enter (by decide +kernel) (Nat.le_of_ble_eq_true rfl) ?_
  refine xa_locals (ls' := [some (xa_r k), some (xa_r kb), some (xa_i sj)]) rfl ?_
  have fr : ∀ i, i < k → h.1 i = h.1 i := fun _ _ => rfl
  refine xa_aload_n (pc := 0) dX3_init_0 rfl ?_
  refine xa_objinit (pc := 1) dX3_init_1 lkRX3_5 zo_1 zo_2 (Nat.le_of_ble_eq_true rfl) (by decide) ?_
  refine xa_aload_n (pc := 4) dX3_init_4 rfl ?_
  refine xa_sipush (pc := 5) dX3_init_5 rfl ?_
  refine xa_newap (pc := 8) (mc0 := 10) (ms0 := 384) 360 (k + 1) hcn dX3_init_8 rfl (by decide) rfl rfl (fun h1 nh1 ch1 oh1 => ?_)
  have hO : h1.1 k = xa_o 3 [xa_n, xa_n, xa_n, xa_n, xa_n, xa_i 0, xa_i 0, xa_i 0, xa_i 0, xa_i 0, xa_i 0, xa_i 0] := (oh1 _ (by omega)).trans hO
  have hA1 : h1.1 (k + 1) = xa_a 360 (fun _ => 0) := ch1
  have hcn : h1.2 = k + 2 := nh1
  have fr : ∀ i, i < k → h1.1 i = h.1 i := fun i hi => (oh1 i (by omega)).trans (fr i hi)
  refine xa_putwF (pc := 10) [xa_n, xa_n, xa_r (k + 1), xa_n, xa_n, xa_i 0, xa_i 0, xa_i 0, xa_i 0, xa_i 0, xa_i 0, xa_i 0] dX3_init_10 rfl flRX3_11 plX3_2 (by omega) (by omega) hO trivial rfl rfl (fun h2 nh2 ch2 oh2 => ?_)
  have hO : h2.1 k = xa_o 3 [xa_n, xa_n, xa_r (k + 1), xa_n, xa_n, xa_i 0, xa_i 0, xa_i 0, xa_i 0, xa_i 0, xa_i 0, xa_i 0] := ch2
  have hA1 : h2.1 (k + 1) = xa_a 360 (fun _ => 0) := (oh2 _ (by omega)).trans hA1
  have hcn : h2.2 = k + 2 := nh2.trans hcn
  have fr : ∀ i, i < k → h2.1 i = h.1 i := fun i hi => (oh2 i (by omega)).trans (fr i hi)
  refine xa_aload_n (pc := 13) dX3_init_13 rfl ?_
  refine xa_sipush (pc := 14) dX3_init_14 rfl ?_
  refine xa_newap (pc := 17) (mc0 := 9) (ms0 := 24) 360 (k + 2) hcn dX3_init_17 rfl (by decide) rfl rfl (fun h3 nh3 ch3 oh3 => ?_)
  have hO : h3.1 k = xa_o 3 [xa_n, xa_n, xa_r (k + 1), xa_n, xa_n, xa_i 0, xa_i 0, xa_i 0, xa_i 0, xa_i 0, xa_i 0, xa_i 0] := (oh3 _ (by omega)).trans hO
  have hA1 : h3.1 (k + 1) = xa_a 360 (fun _ => 0) := (oh3 _ (by omega)).trans hA1
  have hA2 : h3.1 (k + 2) = xa_a 360 (fun _ => 0) := ch3
  have hcn : h3.2 = k + 3 := nh3
  have fr : ∀ i, i < k → h3.1 i = h.1 i := fun i hi => (oh3 i (by omega)).trans (fr i hi)
  refine xa_putwF (pc := 19) [xa_n, xa_n, xa_r (k + 1), xa_r (k + 2), xa_n, xa_i 0, xa_i 0, xa_i 0, xa_i 0, xa_i 0, xa_i 0, xa_i 0] dX3_init_19 rfl flRX3_15 plX3_3 (by omega) (by omega) hO trivial rfl rfl (fun h4 nh4 ch4 oh4 => ?_)
  have hO : h4.1 k = xa_o 3 [xa_n, xa_n, xa_r (k + 1), xa_r (k + 2), xa_n, xa_i 0, xa_i 0, xa_i 0, xa_i 0, xa_i 0, xa_i 0, xa_i 0] := ch4
  have hA1 : h4.1 (k + 1) = xa_a 360 (fun _ => 0) := (oh4 _ (by omega)).trans hA1
  have hA2 : h4.1 (k + 2) = xa_a 360 (fun _ => 0) := (oh4 _ (by omega)).trans hA2
  have hcn : h4.2 = k + 3 := nh4.trans hcn
  have fr : ∀ i, i < k → h4.1 i = h.1 i := fun i hi => (oh4 i (by omega)).trans (fr i hi)
  refine xa_aload_n (pc := 22) dX3_init_22 rfl ?_
  refine xa_iconst (pc := 23) dX3_init_23 ?_
  refine xa_newap (pc := 24) (mc0 := 8) (ms0 := 24) 0 (k + 3) hcn dX3_init_24 rfl (by decide) rfl rfl (fun h5 nh5 ch5 oh5 => ?_)
  have hO : h5.1 k = xa_o 3 [xa_n, xa_n, xa_r (k + 1), xa_r (k + 2), xa_n, xa_i 0, xa_i 0, xa_i 0, xa_i 0, xa_i 0, xa_i 0, xa_i 0] := (oh5 _ (by omega)).trans hO
  have hA1 : h5.1 (k + 1) = xa_a 360 (fun _ => 0) := (oh5 _ (by omega)).trans hA1
  have hA2 : h5.1 (k + 2) = xa_a 360 (fun _ => 0) := (oh5 _ (by omega)).trans hA2
  have hA3 : h5.1 (k + 3) = xa_a 0 (fun _ => 0) := ch5
  have hcn : h5.2 = k + 4 := nh5
  have fr : ∀ i, i < k → h5.1 i = h.1 i := fun i hi => (oh5 i (by omega)).trans (fr i hi)
  refine xa_putw (pc := 26) [xa_n, xa_n, xa_r (k + 1), xa_r (k + 2), xa_r (k + 3), xa_i 0, xa_i 0, xa_i 0, xa_i 0, xa_i 0, xa_i 0, xa_i 0] dX3_init_26 flRX3_18 plX3_4 (by omega) (by omega) hO trivial rfl (fun h6 nh6 ch6 oh6 => ?_)
  have hO : h6.1 k = xa_o 3 [xa_n, xa_n, xa_r (k + 1), xa_r (k + 2), xa_r (k + 3), xa_i 0, xa_i 0, xa_i 0, xa_i 0, xa_i 0, xa_i 0, xa_i 0] := ch6
  have hA1 : h6.1 (k + 1) = xa_a 360 (fun _ => 0) := (oh6 _ (by omega)).trans hA1
  have hA2 : h6.1 (k + 2) = xa_a 360 (fun _ => 0) := (oh6 _ (by omega)).trans hA2
  have hA3 : h6.1 (k + 3) = xa_a 0 (fun _ => 0) := (oh6 _ (by omega)).trans hA3
  have hcn : h6.2 = k + 4 := nh6.trans hcn
  have fr : ∀ i, i < k → h6.1 i = h.1 i := fun i hi => (oh6 i (by omega)).trans (fr i hi)
  refine xa_aload_n (pc := 29) dX3_init_29 rfl ?_
  refine xa_aload_n (pc := 30) dX3_init_30 rfl ?_
  refine xa_putwF (pc := 31) [xa_r kb, xa_n, xa_r (k + 1), xa_r (k + 2), xa_r (k + 3), xa_i 0, xa_i 0, xa_i 0, xa_i 0, xa_i 0, xa_i 0, xa_i 0] dX3_init_31 rfl flRX3_21 plX3_0 (by omega) (by omega) hO trivial rfl rfl (fun h7 nh7 ch7 oh7 => ?_)
  have hO : h7.1 k = xa_o 3 [xa_r kb, xa_n, xa_r (k + 1), xa_r (k + 2), xa_r (k + 3), xa_i 0, xa_i 0, xa_i 0, xa_i 0, xa_i 0, xa_i 0, xa_i 0] := ch7
  have hA1 : h7.1 (k + 1) = xa_a 360 (fun _ => 0) := (oh7 _ (by omega)).trans hA1
  have hA2 : h7.1 (k + 2) = xa_a 360 (fun _ => 0) := (oh7 _ (by omega)).trans hA2
  have hA3 : h7.1 (k + 3) = xa_a 0 (fun _ => 0) := (oh7 _ (by omega)).trans hA3
  have hcn : h7.2 = k + 4 := nh7.trans hcn
  have fr : ∀ i, i < k → h7.1 i = h.1 i := fun i hi => (oh7 i (by omega)).trans (fr i hi)
  refine xa_aload_n (pc := 34) dX3_init_34 rfl ?_
  refine xa_newo (pc := 35) (ci := 6) (C := RX6) (T := TX6) (N := 10) (fs := [xa_n, xa_n, xa_i 0, xa_n, xa_n, xa_i 0, xa_i 0, xa_i 0, xa_n, xa_n]) (mc0 := 7) (ms0 := 14) (k + 4) hcn dX3_init_35 rfl wcX6 tyX6_ok clRX3_25 inRX6 ziRX6 (fun j hj => by rcases (show j = 0 ∨ j = 1 ∨ j = 2 ∨ j = 3 ∨ j = 4 ∨ j = 5 ∨ j = 6 ∨ j = 7 ∨ j = 8 ∨ j = 9 by omega) with rfl | rfl | rfl | rfl | rfl | rfl | rfl | rfl | rfl | rfl <;> rfl) rfl rfl rfl (fun h8 nh8 ch8 oh8 => ?_)
  have hO : h8.1 k = xa_o 3 [xa_r kb, xa_n, xa_r (k + 1), xa_r (k + 2), xa_r (k + 3), xa_i 0, xa_i 0, xa_i 0, xa_i 0, xa_i 0, xa_i 0, xa_i 0] := (oh8 _ (by omega)).trans hO
  have hA1 : h8.1 (k + 1) = xa_a 360 (fun _ => 0) := (oh8 _ (by omega)).trans hA1
  have hA2 : h8.1 (k + 2) = xa_a 360 (fun _ => 0) := (oh8 _ (by omega)).trans hA2
  have hA3 : h8.1 (k + 3) = xa_a 0 (fun _ => 0) := (oh8 _ (by omega)).trans hA3
  have hO4 : h8.1 (k + 4) = xa_o 6 [xa_n, xa_n, xa_i 0, xa_n, xa_n, xa_i 0, xa_i 0, xa_i 0, xa_n, xa_n] := ch8
  have hcn : h8.2 = k + 5 := nh8
  have fr : ∀ i, i < k → h8.1 i = h.1 i := fun i hi => (oh8 i (by omega)).trans (fr i hi)
  refine xa_dup (pc := 38) dX3_init_38 rfl ?_
  refine xa_aload_n (pc := 39) dX3_init_39 rfl ?_
  refine xa_iload_n (pc := 40) dX3_init_40 rfl ?_
  refine xa_callI (pc := 41) (as := [xa_r kb, xa_i sj]) (rest := [xa_r (k + 4), xa_r k]) (k := (k + 4)) dX3_init_41 ⟨qX6_init.1, qX6_init.2.1, qX6_init.2.2, by decide, by decide⟩ rfl rfl lkRX3_27 imX6_init rfl rfl (Nat.le_of_ble_eq_true rfl) (Nat.le_of_ble_eq_true rfl) (Nat.le_of_ble_eq_true rfl) (c_Table_init _ _ sj (by omega) (by omega) hO4) (fun r h' hq => ?_)
  obtain ⟨rfl, hTT, hqn, hqf⟩ := hq
  have hO : h'.1 k = xa_o 3 [xa_r kb, xa_n, xa_r (k + 1), xa_r (k + 2), xa_r (k + 3), xa_i 0, xa_i 0, xa_i 0, xa_i 0, xa_i 0, xa_i 0, xa_i 0] := (hqf _ (by omega)).trans hO
  have hA1 : h'.1 (k + 1) = xa_a 360 (fun _ => 0) := (hqf _ (by omega)).trans hA1
  have hA2 : h'.1 (k + 2) = xa_a 360 (fun _ => 0) := (hqf _ (by omega)).trans hA2
  have hA3 : h'.1 (k + 3) = xa_a 0 (fun _ => 0) := (hqf _ (by omega)).trans hA3
  have hcn : h'.2 = k + 12 := by omega
  have fr : ∀ i, i < k → h'.1 i = h.1 i := fun i hi => (hqf i (by omega)).trans (fr i hi)
  refine xa_putwF (pc := 44) [xa_r kb, xa_r (k + 4), xa_r (k + 1), xa_r (k + 2), xa_r (k + 3), xa_i 0, xa_i 0, xa_i 0, xa_i 0, xa_i 0, xa_i 0, xa_i 0] dX3_init_44 rfl flRX3_30 plX3_1 (by omega) (by omega) hO trivial rfl rfl (fun h9 nh9 ch9 oh9 => ?_)
  have hO : h9.1 k = xa_o 3 [xa_r kb, xa_r (k + 4), xa_r (k + 1), xa_r (k + 2), xa_r (k + 3), xa_i 0, xa_i 0, xa_i 0, xa_i 0, xa_i 0, xa_i 0, xa_i 0] := ch9
  have hA1 : h9.1 (k + 1) = xa_a 360 (fun _ => 0) := (oh9 _ (by omega)).trans hA1
  have hA2 : h9.1 (k + 2) = xa_a 360 (fun _ => 0) := (oh9 _ (by omega)).trans hA2
  have hA3 : h9.1 (k + 3) = xa_a 0 (fun _ => 0) := (oh9 _ (by omega)).trans hA3
  have hcn : h9.2 = k + 12 := nh9.trans hcn
  have fr : ∀ i, i < k → h9.1 i = h.1 i := fun i hi => (oh9 i (by omega)).trans (fr i hi)
  refine xa_return (pc := 47) dX3_init_47 rfl ?_
  have hTT := xTb0.kept hTT nh9 (fun i hi => oh9 i (by omega))
  exact ⟨rfl, ⟨hO, hA1, hA2, hA3, hTT⟩, by omega, fr⟩
