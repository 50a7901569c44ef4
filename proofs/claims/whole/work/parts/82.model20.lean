/-! The model: made -/
theorem c_Model_init_8 {G : xa_G} {h0 h : xa_H} (k : Nat) (hk : 2 ≤ k) (hcn : h.2 = k + 17) (fr : ∀ i, i < k → h.1 i = h0.1 i) (hO : h.1 k = xa_o 10 [xa_i 0, xa_r (k + 1), xa_r (k + 2), xa_r (k + 3), xa_r (k + 4), xa_r (k + 5), xa_r (k + 6), xa_r (k + 7), xa_r (k + 8), xa_r (k + 9), xa_r (k + 10), xa_r (k + 11), xa_r (k + 12), xa_i 0, xa_i 0, xa_i 0, xa_r (k + 13), xa_i 0, xa_i 0, xa_i 0, xa_i (-4), xa_r (k + 14), xa_r (k + 15), xa_i 0, xa_r (k + 16)]) (hA1 : h.1 (k + 1) = xa_a 120 (fun _ => 0)) (hA2 : h.1 (k + 2) = xa_a 2 (xa_upf (fun _ => 0) 0 2)) (hA3 : h.1 (k + 3) = xa_a 18 (xa_upf (xa_upf (xa_upf (xa_upf (xa_upf (xa_upf (fun _ => 0) 0 1) 1 1) 2 1) 3 1) 4 1) 5 1)) (hA4 : h.1 (k + 4) = xa_a 2 (fun _ => 0)) (hA5 : h.1 (k + 5) = xa_a 4 (fun _ => 0)) (hA6 : h.1 (k + 6) = xa_a 4 (fun _ => 0)) (hA7 : h.1 (k + 7) = xa_a 2 (fun _ => 0)) (hA8 : h.1 (k + 8) = xa_a 2 (fun _ => 0)) (hA9 : h.1 (k + 9) = xa_a 12 (fun _ => 0)) (hA10 : h.1 (k + 10) = xa_a 720 (fun _ => 0)) (hA11 : h.1 (k + 11) = xa_a 3 (fun _ => 0)) (hA12 : h.1 (k + 12) = xa_a 360 (fun _ => 0)) (hA13 : h.1 (k + 13) = xa_a 3 (fun _ => 0)) (hA14 : h.1 (k + 14) = xa_a 583200 (fun _ => 0)) (hA15 : h.1 (k + 15) = xa_a 583200 (fun _ => 0)) (hA16 : h.1 (k + 16) = xa_a 4 (fun _ => 0))  : xa_W G mX10_init (xa_Z G (fun r h' => r = none ∧ xM h' k (xa_uF (xa_uF (xa_uF (xa_uF (xa_uF (fun _ _ => 0) 2 (xa_upf (fun _ => 0) 0 2)) 3 (xa_upf (xa_upf (xa_upf (xa_upf (xa_upf (xa_upf (fun _ => 0) 0 1) 1 1) 2 1) 3 1) 4 1) 5 1)) 4 (xa_upf (fun _ => 0) 0 1)) 5 (xa_upf (fun _ => 0) 0 10)) 8 (xa_upf (fun _ => 0) 0 10)) (xa_upf (fun _ => 0) 20 (-4)) ∧ h'.2 = k + 17 ∧ ∀ i, i < k → h'.1 i = h0.1 i)) 160 [some (xa_r k), some (xa_i 6)] [xa_r k] h 0 0 := by
  refine xa_getfield (pc := 160) dX10_init_160 flRX10_19 (by omega) (by omega) hO rfl ?_
  refine xa_iconst (pc := 163) dX10_init_163 ?_
  refine xa_iconst (pc := 164) dX10_init_164 ?_
  refine xa_iastw (pc := 165) 0 dX10_init_165 (by omega) (by omega) hA4 (by omega) (by omega) rfl (fun h1 nh1 ch1 oh1 => ?_)
  have hA4 : h1.1 (k + 4) = xa_a 2 (xa_upf (fun _ => 0) 0 1) := ch1
  have hO : h1.1 k = xa_o 10 [xa_i 0, xa_r (k + 1), xa_r (k + 2), xa_r (k + 3), xa_r (k + 4), xa_r (k + 5), xa_r (k + 6), xa_r (k + 7), xa_r (k + 8), xa_r (k + 9), xa_r (k + 10), xa_r (k + 11), xa_r (k + 12), xa_i 0, xa_i 0, xa_i 0, xa_r (k + 13), xa_i 0, xa_i 0, xa_i 0, xa_i (-4), xa_r (k + 14), xa_r (k + 15), xa_i 0, xa_r (k + 16)] := (oh1 _ (ne_kk (a := 0) (b := 4) (by decide))).trans hO
  have hA1 : h1.1 (k + 1) = xa_a 120 (fun _ => 0) := (oh1 _ (ne_kk (a := 1) (b := 4) (by decide))).trans hA1
  have hA2 : h1.1 (k + 2) = xa_a 2 (xa_upf (fun _ => 0) 0 2) := (oh1 _ (ne_kk (a := 2) (b := 4) (by decide))).trans hA2
  have hA3 : h1.1 (k + 3) = xa_a 18 (xa_upf (xa_upf (xa_upf (xa_upf (xa_upf (xa_upf (fun _ => 0) 0 1) 1 1) 2 1) 3 1) 4 1) 5 1) := (oh1 _ (ne_kk (a := 3) (b := 4) (by decide))).trans hA3
  have hA5 : h1.1 (k + 5) = xa_a 4 (fun _ => 0) := (oh1 _ (ne_kk (a := 5) (b := 4) (by decide))).trans hA5
  have hA6 : h1.1 (k + 6) = xa_a 4 (fun _ => 0) := (oh1 _ (ne_kk (a := 6) (b := 4) (by decide))).trans hA6
  have hA7 : h1.1 (k + 7) = xa_a 2 (fun _ => 0) := (oh1 _ (ne_kk (a := 7) (b := 4) (by decide))).trans hA7
  have hA8 : h1.1 (k + 8) = xa_a 2 (fun _ => 0) := (oh1 _ (ne_kk (a := 8) (b := 4) (by decide))).trans hA8
  have hA9 : h1.1 (k + 9) = xa_a 12 (fun _ => 0) := (oh1 _ (ne_kk (a := 9) (b := 4) (by decide))).trans hA9
  have hA10 : h1.1 (k + 10) = xa_a 720 (fun _ => 0) := (oh1 _ (ne_kk (a := 10) (b := 4) (by decide))).trans hA10
  have hA11 : h1.1 (k + 11) = xa_a 3 (fun _ => 0) := (oh1 _ (ne_kk (a := 11) (b := 4) (by decide))).trans hA11
  have hA12 : h1.1 (k + 12) = xa_a 360 (fun _ => 0) := (oh1 _ (ne_kk (a := 12) (b := 4) (by decide))).trans hA12
  have hA13 : h1.1 (k + 13) = xa_a 3 (fun _ => 0) := (oh1 _ (ne_kk (a := 13) (b := 4) (by decide))).trans hA13
  have hA14 : h1.1 (k + 14) = xa_a 583200 (fun _ => 0) := (oh1 _ (ne_kk (a := 14) (b := 4) (by decide))).trans hA14
  have hA15 : h1.1 (k + 15) = xa_a 583200 (fun _ => 0) := (oh1 _ (ne_kk (a := 15) (b := 4) (by decide))).trans hA15
  have hA16 : h1.1 (k + 16) = xa_a 4 (fun _ => 0) := (oh1 _ (ne_kk (a := 16) (b := 4) (by decide))).trans hA16
  have hcn : h1.2 = k + 17 := nh1.trans hcn
  have fr : ∀ i, i < k → h1.1 i = h0.1 i := fun i hi => (oh1 i (by omega)).trans (fr i hi)
  refine xa_aload_n (pc := 166) dX10_init_166 rfl ?_
  refine xa_getfield (pc := 167) dX10_init_167 flRX10_22 (by omega) (by omega) hO rfl ?_
  refine xa_iconst (pc := 170) dX10_init_170 ?_
  refine xa_bipush (pc := 171) dX10_init_171 rfl ?_
  refine xa_iastw (pc := 173) 0 dX10_init_173 (by omega) (by omega) hA5 (by omega) (by omega) rfl (fun h2 nh2 ch2 oh2 => ?_)
  have hA5 : h2.1 (k + 5) = xa_a 4 (xa_upf (fun _ => 0) 0 10) := ch2
  have hO : h2.1 k = xa_o 10 [xa_i 0, xa_r (k + 1), xa_r (k + 2), xa_r (k + 3), xa_r (k + 4), xa_r (k + 5), xa_r (k + 6), xa_r (k + 7), xa_r (k + 8), xa_r (k + 9), xa_r (k + 10), xa_r (k + 11), xa_r (k + 12), xa_i 0, xa_i 0, xa_i 0, xa_r (k + 13), xa_i 0, xa_i 0, xa_i 0, xa_i (-4), xa_r (k + 14), xa_r (k + 15), xa_i 0, xa_r (k + 16)] := (oh2 _ (ne_kk (a := 0) (b := 5) (by decide))).trans hO
  have hA1 : h2.1 (k + 1) = xa_a 120 (fun _ => 0) := (oh2 _ (ne_kk (a := 1) (b := 5) (by decide))).trans hA1
  have hA2 : h2.1 (k + 2) = xa_a 2 (xa_upf (fun _ => 0) 0 2) := (oh2 _ (ne_kk (a := 2) (b := 5) (by decide))).trans hA2
  have hA3 : h2.1 (k + 3) = xa_a 18 (xa_upf (xa_upf (xa_upf (xa_upf (xa_upf (xa_upf (fun _ => 0) 0 1) 1 1) 2 1) 3 1) 4 1) 5 1) := (oh2 _ (ne_kk (a := 3) (b := 5) (by decide))).trans hA3
  have hA4 : h2.1 (k + 4) = xa_a 2 (xa_upf (fun _ => 0) 0 1) := (oh2 _ (ne_kk (a := 4) (b := 5) (by decide))).trans hA4
  have hA6 : h2.1 (k + 6) = xa_a 4 (fun _ => 0) := (oh2 _ (ne_kk (a := 6) (b := 5) (by decide))).trans hA6
  have hA7 : h2.1 (k + 7) = xa_a 2 (fun _ => 0) := (oh2 _ (ne_kk (a := 7) (b := 5) (by decide))).trans hA7
  have hA8 : h2.1 (k + 8) = xa_a 2 (fun _ => 0) := (oh2 _ (ne_kk (a := 8) (b := 5) (by decide))).trans hA8
  have hA9 : h2.1 (k + 9) = xa_a 12 (fun _ => 0) := (oh2 _ (ne_kk (a := 9) (b := 5) (by decide))).trans hA9
  have hA10 : h2.1 (k + 10) = xa_a 720 (fun _ => 0) := (oh2 _ (ne_kk (a := 10) (b := 5) (by decide))).trans hA10
  have hA11 : h2.1 (k + 11) = xa_a 3 (fun _ => 0) := (oh2 _ (ne_kk (a := 11) (b := 5) (by decide))).trans hA11
  have hA12 : h2.1 (k + 12) = xa_a 360 (fun _ => 0) := (oh2 _ (ne_kk (a := 12) (b := 5) (by decide))).trans hA12
  have hA13 : h2.1 (k + 13) = xa_a 3 (fun _ => 0) := (oh2 _ (ne_kk (a := 13) (b := 5) (by decide))).trans hA13
  have hA14 : h2.1 (k + 14) = xa_a 583200 (fun _ => 0) := (oh2 _ (ne_kk (a := 14) (b := 5) (by decide))).trans hA14
  have hA15 : h2.1 (k + 15) = xa_a 583200 (fun _ => 0) := (oh2 _ (ne_kk (a := 15) (b := 5) (by decide))).trans hA15
  have hA16 : h2.1 (k + 16) = xa_a 4 (fun _ => 0) := (oh2 _ (ne_kk (a := 16) (b := 5) (by decide))).trans hA16
  have hcn : h2.2 = k + 17 := nh2.trans hcn
  have fr : ∀ i, i < k → h2.1 i = h0.1 i := fun i hi => (oh2 i (by omega)).trans (fr i hi)
  refine xa_aload_n (pc := 174) dX10_init_174 rfl ?_
  refine xa_getfield (pc := 175) dX10_init_175 flRX10_31 (by omega) (by omega) hO rfl ?_
  refine xa_iconst (pc := 178) dX10_init_178 ?_
  refine xa_bipush (pc := 179) dX10_init_179 rfl ?_
  refine xa_iastw (pc := 181) 0 dX10_init_181 (by omega) (by omega) hA8 (by omega) (by omega) rfl (fun h3 nh3 ch3 oh3 => ?_)
  have hA8 : h3.1 (k + 8) = xa_a 2 (xa_upf (fun _ => 0) 0 10) := ch3
  have hO : h3.1 k = xa_o 10 [xa_i 0, xa_r (k + 1), xa_r (k + 2), xa_r (k + 3), xa_r (k + 4), xa_r (k + 5), xa_r (k + 6), xa_r (k + 7), xa_r (k + 8), xa_r (k + 9), xa_r (k + 10), xa_r (k + 11), xa_r (k + 12), xa_i 0, xa_i 0, xa_i 0, xa_r (k + 13), xa_i 0, xa_i 0, xa_i 0, xa_i (-4), xa_r (k + 14), xa_r (k + 15), xa_i 0, xa_r (k + 16)] := (oh3 _ (ne_kk (a := 0) (b := 8) (by decide))).trans hO
  have hA1 : h3.1 (k + 1) = xa_a 120 (fun _ => 0) := (oh3 _ (ne_kk (a := 1) (b := 8) (by decide))).trans hA1
  have hA2 : h3.1 (k + 2) = xa_a 2 (xa_upf (fun _ => 0) 0 2) := (oh3 _ (ne_kk (a := 2) (b := 8) (by decide))).trans hA2
  have hA3 : h3.1 (k + 3) = xa_a 18 (xa_upf (xa_upf (xa_upf (xa_upf (xa_upf (xa_upf (fun _ => 0) 0 1) 1 1) 2 1) 3 1) 4 1) 5 1) := (oh3 _ (ne_kk (a := 3) (b := 8) (by decide))).trans hA3
  have hA4 : h3.1 (k + 4) = xa_a 2 (xa_upf (fun _ => 0) 0 1) := (oh3 _ (ne_kk (a := 4) (b := 8) (by decide))).trans hA4
  have hA5 : h3.1 (k + 5) = xa_a 4 (xa_upf (fun _ => 0) 0 10) := (oh3 _ (ne_kk (a := 5) (b := 8) (by decide))).trans hA5
  have hA6 : h3.1 (k + 6) = xa_a 4 (fun _ => 0) := (oh3 _ (ne_kk (a := 6) (b := 8) (by decide))).trans hA6
  have hA7 : h3.1 (k + 7) = xa_a 2 (fun _ => 0) := (oh3 _ (ne_kk (a := 7) (b := 8) (by decide))).trans hA7
  have hA9 : h3.1 (k + 9) = xa_a 12 (fun _ => 0) := (oh3 _ (ne_kk (a := 9) (b := 8) (by decide))).trans hA9
  have hA10 : h3.1 (k + 10) = xa_a 720 (fun _ => 0) := (oh3 _ (ne_kk (a := 10) (b := 8) (by decide))).trans hA10
  have hA11 : h3.1 (k + 11) = xa_a 3 (fun _ => 0) := (oh3 _ (ne_kk (a := 11) (b := 8) (by decide))).trans hA11
  have hA12 : h3.1 (k + 12) = xa_a 360 (fun _ => 0) := (oh3 _ (ne_kk (a := 12) (b := 8) (by decide))).trans hA12
  have hA13 : h3.1 (k + 13) = xa_a 3 (fun _ => 0) := (oh3 _ (ne_kk (a := 13) (b := 8) (by decide))).trans hA13
  have hA14 : h3.1 (k + 14) = xa_a 583200 (fun _ => 0) := (oh3 _ (ne_kk (a := 14) (b := 8) (by decide))).trans hA14
  have hA15 : h3.1 (k + 15) = xa_a 583200 (fun _ => 0) := (oh3 _ (ne_kk (a := 15) (b := 8) (by decide))).trans hA15
  have hA16 : h3.1 (k + 16) = xa_a 4 (fun _ => 0) := (oh3 _ (ne_kk (a := 16) (b := 8) (by decide))).trans hA16
  have hcn : h3.2 = k + 17 := nh3.trans hcn
  have fr : ∀ i, i < k → h3.1 i = h0.1 i := fun i hi => (oh3 i (by omega)).trans (fr i hi)
  refine xa_return (pc := 182) dX10_init_182 rfl ?_
  exact ⟨rfl, ⟨hO, hA1, hA2, hA3, hA4, hA5, hA6, hA7, hA8, hA9, hA10, hA11, hA12, hA13, hA14, hA15, hA16, by omega, by omega⟩, by omega, fr⟩
theorem c_Model_init_7 {G : xa_G} {h0 h : xa_H} (k : Nat) (hk : 2 ≤ k) (hcn : h.2 = k + 17) (fr : ∀ i, i < k → h.1 i = h0.1 i) (hO : h.1 k = xa_o 10 [xa_i 0, xa_r (k + 1), xa_r (k + 2), xa_r (k + 3), xa_r (k + 4), xa_r (k + 5), xa_r (k + 6), xa_r (k + 7), xa_r (k + 8), xa_r (k + 9), xa_r (k + 10), xa_r (k + 11), xa_r (k + 12), xa_i 0, xa_i 0, xa_i 0, xa_r (k + 13), xa_i 0, xa_i 0, xa_i 0, xa_i (-4), xa_r (k + 14), xa_r (k + 15), xa_i 0, xa_r (k + 16)]) (hA1 : h.1 (k + 1) = xa_a 120 (fun _ => 0)) (hA2 : h.1 (k + 2) = xa_a 2 (fun _ => 0)) (hA3 : h.1 (k + 3) = xa_a 18 (fun _ => 0)) (hA4 : h.1 (k + 4) = xa_a 2 (fun _ => 0)) (hA5 : h.1 (k + 5) = xa_a 4 (fun _ => 0)) (hA6 : h.1 (k + 6) = xa_a 4 (fun _ => 0)) (hA7 : h.1 (k + 7) = xa_a 2 (fun _ => 0)) (hA8 : h.1 (k + 8) = xa_a 2 (fun _ => 0)) (hA9 : h.1 (k + 9) = xa_a 12 (fun _ => 0)) (hA10 : h.1 (k + 10) = xa_a 720 (fun _ => 0)) (hA11 : h.1 (k + 11) = xa_a 3 (fun _ => 0)) (hA12 : h.1 (k + 12) = xa_a 360 (fun _ => 0)) (hA13 : h.1 (k + 13) = xa_a 3 (fun _ => 0)) (hA14 : h.1 (k + 14) = xa_a 583200 (fun _ => 0)) (hA15 : h.1 (k + 15) = xa_a 583200 (fun _ => 0)) (hA16 : h.1 (k + 16) = xa_a 4 (fun _ => 0))  : xa_W G mX10_init (xa_Z G (fun r h' => r = none ∧ xM h' k (xa_uF (xa_uF (xa_uF (xa_uF (xa_uF (fun _ _ => 0) 2 (xa_upf (fun _ => 0) 0 2)) 3 (xa_upf (xa_upf (xa_upf (xa_upf (xa_upf (xa_upf (fun _ => 0) 0 1) 1 1) 2 1) 3 1) 4 1) 5 1)) 4 (xa_upf (fun _ => 0) 0 1)) 5 (xa_upf (fun _ => 0) 0 10)) 8 (xa_upf (fun _ => 0) 0 10)) (xa_upf (fun _ => 0) 20 (-4)) ∧ h'.2 = k + 17 ∧ ∀ i, i < k → h'.1 i = h0.1 i)) 139 [some (xa_r k), some (xa_i 0)] [] h 0 0 := by
  refine xa_aload_n (pc := 139) dX10_init_139 rfl ?_
  refine xa_getfield (pc := 140) dX10_init_140 flRX10_16 (by omega) (by omega) hO rfl ?_
  refine xa_iload_n (pc := 143) dX10_init_143 rfl ?_
  refine xa_iconst (pc := 144) dX10_init_144 ?_
  refine xa_iastw (pc := 145) 0 dX10_init_145 (by omega) (by omega) hA3 (by omega) (by omega) rfl (fun h1 nh1 ch1 oh1 => ?_)
  have hA3 : h1.1 (k + 3) = xa_a 18 (xa_upf (fun _ => 0) 0 1) := ch1
  have hO : h1.1 k = xa_o 10 [xa_i 0, xa_r (k + 1), xa_r (k + 2), xa_r (k + 3), xa_r (k + 4), xa_r (k + 5), xa_r (k + 6), xa_r (k + 7), xa_r (k + 8), xa_r (k + 9), xa_r (k + 10), xa_r (k + 11), xa_r (k + 12), xa_i 0, xa_i 0, xa_i 0, xa_r (k + 13), xa_i 0, xa_i 0, xa_i 0, xa_i (-4), xa_r (k + 14), xa_r (k + 15), xa_i 0, xa_r (k + 16)] := (oh1 _ (ne_kk (a := 0) (b := 3) (by decide))).trans hO
  have hA1 : h1.1 (k + 1) = xa_a 120 (fun _ => 0) := (oh1 _ (ne_kk (a := 1) (b := 3) (by decide))).trans hA1
  have hA2 : h1.1 (k + 2) = xa_a 2 (fun _ => 0) := (oh1 _ (ne_kk (a := 2) (b := 3) (by decide))).trans hA2
  have hA4 : h1.1 (k + 4) = xa_a 2 (fun _ => 0) := (oh1 _ (ne_kk (a := 4) (b := 3) (by decide))).trans hA4
  have hA5 : h1.1 (k + 5) = xa_a 4 (fun _ => 0) := (oh1 _ (ne_kk (a := 5) (b := 3) (by decide))).trans hA5
  have hA6 : h1.1 (k + 6) = xa_a 4 (fun _ => 0) := (oh1 _ (ne_kk (a := 6) (b := 3) (by decide))).trans hA6
  have hA7 : h1.1 (k + 7) = xa_a 2 (fun _ => 0) := (oh1 _ (ne_kk (a := 7) (b := 3) (by decide))).trans hA7
  have hA8 : h1.1 (k + 8) = xa_a 2 (fun _ => 0) := (oh1 _ (ne_kk (a := 8) (b := 3) (by decide))).trans hA8
  have hA9 : h1.1 (k + 9) = xa_a 12 (fun _ => 0) := (oh1 _ (ne_kk (a := 9) (b := 3) (by decide))).trans hA9
  have hA10 : h1.1 (k + 10) = xa_a 720 (fun _ => 0) := (oh1 _ (ne_kk (a := 10) (b := 3) (by decide))).trans hA10
  have hA11 : h1.1 (k + 11) = xa_a 3 (fun _ => 0) := (oh1 _ (ne_kk (a := 11) (b := 3) (by decide))).trans hA11
  have hA12 : h1.1 (k + 12) = xa_a 360 (fun _ => 0) := (oh1 _ (ne_kk (a := 12) (b := 3) (by decide))).trans hA12
  have hA13 : h1.1 (k + 13) = xa_a 3 (fun _ => 0) := (oh1 _ (ne_kk (a := 13) (b := 3) (by decide))).trans hA13
  have hA14 : h1.1 (k + 14) = xa_a 583200 (fun _ => 0) := (oh1 _ (ne_kk (a := 14) (b := 3) (by decide))).trans hA14
  have hA15 : h1.1 (k + 15) = xa_a 583200 (fun _ => 0) := (oh1 _ (ne_kk (a := 15) (b := 3) (by decide))).trans hA15
  have hA16 : h1.1 (k + 16) = xa_a 4 (fun _ => 0) := (oh1 _ (ne_kk (a := 16) (b := 3) (by decide))).trans hA16
  have hcn : h1.2 = k + 17 := nh1.trans hcn
  have fr : ∀ i, i < k → h1.1 i = h0.1 i := fun i hi => (oh1 i (by omega)).trans (fr i hi)
  refine xa_iincw (pc := 146) (y := 1) [some (xa_r k), some (xa_i 1)] dX10_init_146 (by decide) rfl rfl rfl rfl ?_
  refine xa_goto (pc := 149) (tgt := 133) dX10_init_149 (by decide) ?_
  refine xa_iload_n (pc := 133) dX10_init_133 rfl ?_
  refine xa_bipush (pc := 134) dX10_init_134 rfl ?_
  refine xa_icmp_ge (pc := 136) (tgt := 152) dX10_init_136 (by decide) (by decide) (by decide) (fun c_136 => ?_) (fun c_136 => ?_)
  · skip
    exfalso; omega
  · skip
    refine xa_aload_n (pc := 139) dX10_init_139 rfl ?_
    refine xa_getfield (pc := 140) dX10_init_140 flRX10_16 (by omega) (by omega) hO rfl ?_
    refine xa_iload_n (pc := 143) dX10_init_143 rfl ?_
    refine xa_iconst (pc := 144) dX10_init_144 ?_
    refine xa_iastw (pc := 145) 1 dX10_init_145 (by omega) (by omega) hA3 (by omega) (by omega) rfl (fun h2 nh2 ch2 oh2 => ?_)
    have hA3 : h2.1 (k + 3) = xa_a 18 (xa_upf (xa_upf (fun _ => 0) 0 1) 1 1) := ch2
    have hO : h2.1 k = xa_o 10 [xa_i 0, xa_r (k + 1), xa_r (k + 2), xa_r (k + 3), xa_r (k + 4), xa_r (k + 5), xa_r (k + 6), xa_r (k + 7), xa_r (k + 8), xa_r (k + 9), xa_r (k + 10), xa_r (k + 11), xa_r (k + 12), xa_i 0, xa_i 0, xa_i 0, xa_r (k + 13), xa_i 0, xa_i 0, xa_i 0, xa_i (-4), xa_r (k + 14), xa_r (k + 15), xa_i 0, xa_r (k + 16)] := (oh2 _ (ne_kk (a := 0) (b := 3) (by decide))).trans hO
    have hA1 : h2.1 (k + 1) = xa_a 120 (fun _ => 0) := (oh2 _ (ne_kk (a := 1) (b := 3) (by decide))).trans hA1
    have hA2 : h2.1 (k + 2) = xa_a 2 (fun _ => 0) := (oh2 _ (ne_kk (a := 2) (b := 3) (by decide))).trans hA2
    have hA4 : h2.1 (k + 4) = xa_a 2 (fun _ => 0) := (oh2 _ (ne_kk (a := 4) (b := 3) (by decide))).trans hA4
    have hA5 : h2.1 (k + 5) = xa_a 4 (fun _ => 0) := (oh2 _ (ne_kk (a := 5) (b := 3) (by decide))).trans hA5
    have hA6 : h2.1 (k + 6) = xa_a 4 (fun _ => 0) := (oh2 _ (ne_kk (a := 6) (b := 3) (by decide))).trans hA6
    have hA7 : h2.1 (k + 7) = xa_a 2 (fun _ => 0) := (oh2 _ (ne_kk (a := 7) (b := 3) (by decide))).trans hA7
    have hA8 : h2.1 (k + 8) = xa_a 2 (fun _ => 0) := (oh2 _ (ne_kk (a := 8) (b := 3) (by decide))).trans hA8
    have hA9 : h2.1 (k + 9) = xa_a 12 (fun _ => 0) := (oh2 _ (ne_kk (a := 9) (b := 3) (by decide))).trans hA9
    have hA10 : h2.1 (k + 10) = xa_a 720 (fun _ => 0) := (oh2 _ (ne_kk (a := 10) (b := 3) (by decide))).trans hA10
    have hA11 : h2.1 (k + 11) = xa_a 3 (fun _ => 0) := (oh2 _ (ne_kk (a := 11) (b := 3) (by decide))).trans hA11
    have hA12 : h2.1 (k + 12) = xa_a 360 (fun _ => 0) := (oh2 _ (ne_kk (a := 12) (b := 3) (by decide))).trans hA12
    have hA13 : h2.1 (k + 13) = xa_a 3 (fun _ => 0) := (oh2 _ (ne_kk (a := 13) (b := 3) (by decide))).trans hA13
    have hA14 : h2.1 (k + 14) = xa_a 583200 (fun _ => 0) := (oh2 _ (ne_kk (a := 14) (b := 3) (by decide))).trans hA14
    have hA15 : h2.1 (k + 15) = xa_a 583200 (fun _ => 0) := (oh2 _ (ne_kk (a := 15) (b := 3) (by decide))).trans hA15
    have hA16 : h2.1 (k + 16) = xa_a 4 (fun _ => 0) := (oh2 _ (ne_kk (a := 16) (b := 3) (by decide))).trans hA16
    have hcn : h2.2 = k + 17 := nh2.trans hcn
    have fr : ∀ i, i < k → h2.1 i = h0.1 i := fun i hi => (oh2 i (by omega)).trans (fr i hi)
    refine xa_iincw (pc := 146) (y := 2) [some (xa_r k), some (xa_i 2)] dX10_init_146 (by decide) rfl rfl rfl rfl ?_
    refine xa_goto (pc := 149) (tgt := 133) dX10_init_149 (by decide) ?_
    refine xa_iload_n (pc := 133) dX10_init_133 rfl ?_
    refine xa_bipush (pc := 134) dX10_init_134 rfl ?_
    refine xa_icmp_ge (pc := 136) (tgt := 152) dX10_init_136 (by decide) (by decide) (by decide) (fun c_136 => ?_) (fun c_136 => ?_)
    · skip
      exfalso; omega
    · skip
      refine xa_aload_n (pc := 139) dX10_init_139 rfl ?_
      refine xa_getfield (pc := 140) dX10_init_140 flRX10_16 (by omega) (by omega) hO rfl ?_
      refine xa_iload_n (pc := 143) dX10_init_143 rfl ?_
      refine xa_iconst (pc := 144) dX10_init_144 ?_
      refine xa_iastw (pc := 145) 2 dX10_init_145 (by omega) (by omega) hA3 (by omega) (by omega) rfl (fun h3 nh3 ch3 oh3 => ?_)
      have hA3 : h3.1 (k + 3) = xa_a 18 (xa_upf (xa_upf (xa_upf (fun _ => 0) 0 1) 1 1) 2 1) := ch3
      have hO : h3.1 k = xa_o 10 [xa_i 0, xa_r (k + 1), xa_r (k + 2), xa_r (k + 3), xa_r (k + 4), xa_r (k + 5), xa_r (k + 6), xa_r (k + 7), xa_r (k + 8), xa_r (k + 9), xa_r (k + 10), xa_r (k + 11), xa_r (k + 12), xa_i 0, xa_i 0, xa_i 0, xa_r (k + 13), xa_i 0, xa_i 0, xa_i 0, xa_i (-4), xa_r (k + 14), xa_r (k + 15), xa_i 0, xa_r (k + 16)] := (oh3 _ (ne_kk (a := 0) (b := 3) (by decide))).trans hO
      have hA1 : h3.1 (k + 1) = xa_a 120 (fun _ => 0) := (oh3 _ (ne_kk (a := 1) (b := 3) (by decide))).trans hA1
      have hA2 : h3.1 (k + 2) = xa_a 2 (fun _ => 0) := (oh3 _ (ne_kk (a := 2) (b := 3) (by decide))).trans hA2
      have hA4 : h3.1 (k + 4) = xa_a 2 (fun _ => 0) := (oh3 _ (ne_kk (a := 4) (b := 3) (by decide))).trans hA4
      have hA5 : h3.1 (k + 5) = xa_a 4 (fun _ => 0) := (oh3 _ (ne_kk (a := 5) (b := 3) (by decide))).trans hA5
      have hA6 : h3.1 (k + 6) = xa_a 4 (fun _ => 0) := (oh3 _ (ne_kk (a := 6) (b := 3) (by decide))).trans hA6
      have hA7 : h3.1 (k + 7) = xa_a 2 (fun _ => 0) := (oh3 _ (ne_kk (a := 7) (b := 3) (by decide))).trans hA7
      have hA8 : h3.1 (k + 8) = xa_a 2 (fun _ => 0) := (oh3 _ (ne_kk (a := 8) (b := 3) (by decide))).trans hA8
      have hA9 : h3.1 (k + 9) = xa_a 12 (fun _ => 0) := (oh3 _ (ne_kk (a := 9) (b := 3) (by decide))).trans hA9
      have hA10 : h3.1 (k + 10) = xa_a 720 (fun _ => 0) := (oh3 _ (ne_kk (a := 10) (b := 3) (by decide))).trans hA10
      have hA11 : h3.1 (k + 11) = xa_a 3 (fun _ => 0) := (oh3 _ (ne_kk (a := 11) (b := 3) (by decide))).trans hA11
      have hA12 : h3.1 (k + 12) = xa_a 360 (fun _ => 0) := (oh3 _ (ne_kk (a := 12) (b := 3) (by decide))).trans hA12
      have hA13 : h3.1 (k + 13) = xa_a 3 (fun _ => 0) := (oh3 _ (ne_kk (a := 13) (b := 3) (by decide))).trans hA13
      have hA14 : h3.1 (k + 14) = xa_a 583200 (fun _ => 0) := (oh3 _ (ne_kk (a := 14) (b := 3) (by decide))).trans hA14
      have hA15 : h3.1 (k + 15) = xa_a 583200 (fun _ => 0) := (oh3 _ (ne_kk (a := 15) (b := 3) (by decide))).trans hA15
      have hA16 : h3.1 (k + 16) = xa_a 4 (fun _ => 0) := (oh3 _ (ne_kk (a := 16) (b := 3) (by decide))).trans hA16
      have hcn : h3.2 = k + 17 := nh3.trans hcn
      have fr : ∀ i, i < k → h3.1 i = h0.1 i := fun i hi => (oh3 i (by omega)).trans (fr i hi)
      refine xa_iincw (pc := 146) (y := 3) [some (xa_r k), some (xa_i 3)] dX10_init_146 (by decide) rfl rfl rfl rfl ?_
      refine xa_goto (pc := 149) (tgt := 133) dX10_init_149 (by decide) ?_
      refine xa_iload_n (pc := 133) dX10_init_133 rfl ?_
      refine xa_bipush (pc := 134) dX10_init_134 rfl ?_
      refine xa_icmp_ge (pc := 136) (tgt := 152) dX10_init_136 (by decide) (by decide) (by decide) (fun c_136 => ?_) (fun c_136 => ?_)
      · skip
        exfalso; omega
      · skip
        refine xa_aload_n (pc := 139) dX10_init_139 rfl ?_
        refine xa_getfield (pc := 140) dX10_init_140 flRX10_16 (by omega) (by omega) hO rfl ?_
        refine xa_iload_n (pc := 143) dX10_init_143 rfl ?_
        refine xa_iconst (pc := 144) dX10_init_144 ?_
        refine xa_iastw (pc := 145) 3 dX10_init_145 (by omega) (by omega) hA3 (by omega) (by omega) rfl (fun h4 nh4 ch4 oh4 => ?_)
        have hA3 : h4.1 (k + 3) = xa_a 18 (xa_upf (xa_upf (xa_upf (xa_upf (fun _ => 0) 0 1) 1 1) 2 1) 3 1) := ch4
        have hO : h4.1 k = xa_o 10 [xa_i 0, xa_r (k + 1), xa_r (k + 2), xa_r (k + 3), xa_r (k + 4), xa_r (k + 5), xa_r (k + 6), xa_r (k + 7), xa_r (k + 8), xa_r (k + 9), xa_r (k + 10), xa_r (k + 11), xa_r (k + 12), xa_i 0, xa_i 0, xa_i 0, xa_r (k + 13), xa_i 0, xa_i 0, xa_i 0, xa_i (-4), xa_r (k + 14), xa_r (k + 15), xa_i 0, xa_r (k + 16)] := (oh4 _ (ne_kk (a := 0) (b := 3) (by decide))).trans hO
        have hA1 : h4.1 (k + 1) = xa_a 120 (fun _ => 0) := (oh4 _ (ne_kk (a := 1) (b := 3) (by decide))).trans hA1
        have hA2 : h4.1 (k + 2) = xa_a 2 (fun _ => 0) := (oh4 _ (ne_kk (a := 2) (b := 3) (by decide))).trans hA2
        have hA4 : h4.1 (k + 4) = xa_a 2 (fun _ => 0) := (oh4 _ (ne_kk (a := 4) (b := 3) (by decide))).trans hA4
        have hA5 : h4.1 (k + 5) = xa_a 4 (fun _ => 0) := (oh4 _ (ne_kk (a := 5) (b := 3) (by decide))).trans hA5
        have hA6 : h4.1 (k + 6) = xa_a 4 (fun _ => 0) := (oh4 _ (ne_kk (a := 6) (b := 3) (by decide))).trans hA6
        have hA7 : h4.1 (k + 7) = xa_a 2 (fun _ => 0) := (oh4 _ (ne_kk (a := 7) (b := 3) (by decide))).trans hA7
        have hA8 : h4.1 (k + 8) = xa_a 2 (fun _ => 0) := (oh4 _ (ne_kk (a := 8) (b := 3) (by decide))).trans hA8
        have hA9 : h4.1 (k + 9) = xa_a 12 (fun _ => 0) := (oh4 _ (ne_kk (a := 9) (b := 3) (by decide))).trans hA9
        have hA10 : h4.1 (k + 10) = xa_a 720 (fun _ => 0) := (oh4 _ (ne_kk (a := 10) (b := 3) (by decide))).trans hA10
        have hA11 : h4.1 (k + 11) = xa_a 3 (fun _ => 0) := (oh4 _ (ne_kk (a := 11) (b := 3) (by decide))).trans hA11
        have hA12 : h4.1 (k + 12) = xa_a 360 (fun _ => 0) := (oh4 _ (ne_kk (a := 12) (b := 3) (by decide))).trans hA12
        have hA13 : h4.1 (k + 13) = xa_a 3 (fun _ => 0) := (oh4 _ (ne_kk (a := 13) (b := 3) (by decide))).trans hA13
        have hA14 : h4.1 (k + 14) = xa_a 583200 (fun _ => 0) := (oh4 _ (ne_kk (a := 14) (b := 3) (by decide))).trans hA14
        have hA15 : h4.1 (k + 15) = xa_a 583200 (fun _ => 0) := (oh4 _ (ne_kk (a := 15) (b := 3) (by decide))).trans hA15
        have hA16 : h4.1 (k + 16) = xa_a 4 (fun _ => 0) := (oh4 _ (ne_kk (a := 16) (b := 3) (by decide))).trans hA16
        have hcn : h4.2 = k + 17 := nh4.trans hcn
        have fr : ∀ i, i < k → h4.1 i = h0.1 i := fun i hi => (oh4 i (by omega)).trans (fr i hi)
        refine xa_iincw (pc := 146) (y := 4) [some (xa_r k), some (xa_i 4)] dX10_init_146 (by decide) rfl rfl rfl rfl ?_
        refine xa_goto (pc := 149) (tgt := 133) dX10_init_149 (by decide) ?_
        refine xa_iload_n (pc := 133) dX10_init_133 rfl ?_
        refine xa_bipush (pc := 134) dX10_init_134 rfl ?_
        refine xa_icmp_ge (pc := 136) (tgt := 152) dX10_init_136 (by decide) (by decide) (by decide) (fun c_136 => ?_) (fun c_136 => ?_)
        · skip
          exfalso; omega
        · skip
          refine xa_aload_n (pc := 139) dX10_init_139 rfl ?_
          refine xa_getfield (pc := 140) dX10_init_140 flRX10_16 (by omega) (by omega) hO rfl ?_
          refine xa_iload_n (pc := 143) dX10_init_143 rfl ?_
          refine xa_iconst (pc := 144) dX10_init_144 ?_
          refine xa_iastw (pc := 145) 4 dX10_init_145 (by omega) (by omega) hA3 (by omega) (by omega) rfl (fun h5 nh5 ch5 oh5 => ?_)
          have hA3 : h5.1 (k + 3) = xa_a 18 (xa_upf (xa_upf (xa_upf (xa_upf (xa_upf (fun _ => 0) 0 1) 1 1) 2 1) 3 1) 4 1) := ch5
          have hO : h5.1 k = xa_o 10 [xa_i 0, xa_r (k + 1), xa_r (k + 2), xa_r (k + 3), xa_r (k + 4), xa_r (k + 5), xa_r (k + 6), xa_r (k + 7), xa_r (k + 8), xa_r (k + 9), xa_r (k + 10), xa_r (k + 11), xa_r (k + 12), xa_i 0, xa_i 0, xa_i 0, xa_r (k + 13), xa_i 0, xa_i 0, xa_i 0, xa_i (-4), xa_r (k + 14), xa_r (k + 15), xa_i 0, xa_r (k + 16)] := (oh5 _ (ne_kk (a := 0) (b := 3) (by decide))).trans hO
          have hA1 : h5.1 (k + 1) = xa_a 120 (fun _ => 0) := (oh5 _ (ne_kk (a := 1) (b := 3) (by decide))).trans hA1
          have hA2 : h5.1 (k + 2) = xa_a 2 (fun _ => 0) := (oh5 _ (ne_kk (a := 2) (b := 3) (by decide))).trans hA2
          have hA4 : h5.1 (k + 4) = xa_a 2 (fun _ => 0) := (oh5 _ (ne_kk (a := 4) (b := 3) (by decide))).trans hA4
          have hA5 : h5.1 (k + 5) = xa_a 4 (fun _ => 0) := (oh5 _ (ne_kk (a := 5) (b := 3) (by decide))).trans hA5
          have hA6 : h5.1 (k + 6) = xa_a 4 (fun _ => 0) := (oh5 _ (ne_kk (a := 6) (b := 3) (by decide))).trans hA6
          have hA7 : h5.1 (k + 7) = xa_a 2 (fun _ => 0) := (oh5 _ (ne_kk (a := 7) (b := 3) (by decide))).trans hA7
          have hA8 : h5.1 (k + 8) = xa_a 2 (fun _ => 0) := (oh5 _ (ne_kk (a := 8) (b := 3) (by decide))).trans hA8
          have hA9 : h5.1 (k + 9) = xa_a 12 (fun _ => 0) := (oh5 _ (ne_kk (a := 9) (b := 3) (by decide))).trans hA9
          have hA10 : h5.1 (k + 10) = xa_a 720 (fun _ => 0) := (oh5 _ (ne_kk (a := 10) (b := 3) (by decide))).trans hA10
          have hA11 : h5.1 (k + 11) = xa_a 3 (fun _ => 0) := (oh5 _ (ne_kk (a := 11) (b := 3) (by decide))).trans hA11
          have hA12 : h5.1 (k + 12) = xa_a 360 (fun _ => 0) := (oh5 _ (ne_kk (a := 12) (b := 3) (by decide))).trans hA12
          have hA13 : h5.1 (k + 13) = xa_a 3 (fun _ => 0) := (oh5 _ (ne_kk (a := 13) (b := 3) (by decide))).trans hA13
          have hA14 : h5.1 (k + 14) = xa_a 583200 (fun _ => 0) := (oh5 _ (ne_kk (a := 14) (b := 3) (by decide))).trans hA14
          have hA15 : h5.1 (k + 15) = xa_a 583200 (fun _ => 0) := (oh5 _ (ne_kk (a := 15) (b := 3) (by decide))).trans hA15
          have hA16 : h5.1 (k + 16) = xa_a 4 (fun _ => 0) := (oh5 _ (ne_kk (a := 16) (b := 3) (by decide))).trans hA16
          have hcn : h5.2 = k + 17 := nh5.trans hcn
          have fr : ∀ i, i < k → h5.1 i = h0.1 i := fun i hi => (oh5 i (by omega)).trans (fr i hi)
          refine xa_iincw (pc := 146) (y := 5) [some (xa_r k), some (xa_i 5)] dX10_init_146 (by decide) rfl rfl rfl rfl ?_
          refine xa_goto (pc := 149) (tgt := 133) dX10_init_149 (by decide) ?_
          refine xa_iload_n (pc := 133) dX10_init_133 rfl ?_
          refine xa_bipush (pc := 134) dX10_init_134 rfl ?_
          refine xa_icmp_ge (pc := 136) (tgt := 152) dX10_init_136 (by decide) (by decide) (by decide) (fun c_136 => ?_) (fun c_136 => ?_)
          · skip
            exfalso; omega
          · skip
            refine xa_aload_n (pc := 139) dX10_init_139 rfl ?_
            refine xa_getfield (pc := 140) dX10_init_140 flRX10_16 (by omega) (by omega) hO rfl ?_
            refine xa_iload_n (pc := 143) dX10_init_143 rfl ?_
            refine xa_iconst (pc := 144) dX10_init_144 ?_
            refine xa_iastw (pc := 145) 5 dX10_init_145 (by omega) (by omega) hA3 (by omega) (by omega) rfl (fun h6 nh6 ch6 oh6 => ?_)
            have hA3 : h6.1 (k + 3) = xa_a 18 (xa_upf (xa_upf (xa_upf (xa_upf (xa_upf (xa_upf (fun _ => 0) 0 1) 1 1) 2 1) 3 1) 4 1) 5 1) := ch6
            have hO : h6.1 k = xa_o 10 [xa_i 0, xa_r (k + 1), xa_r (k + 2), xa_r (k + 3), xa_r (k + 4), xa_r (k + 5), xa_r (k + 6), xa_r (k + 7), xa_r (k + 8), xa_r (k + 9), xa_r (k + 10), xa_r (k + 11), xa_r (k + 12), xa_i 0, xa_i 0, xa_i 0, xa_r (k + 13), xa_i 0, xa_i 0, xa_i 0, xa_i (-4), xa_r (k + 14), xa_r (k + 15), xa_i 0, xa_r (k + 16)] := (oh6 _ (ne_kk (a := 0) (b := 3) (by decide))).trans hO
            have hA1 : h6.1 (k + 1) = xa_a 120 (fun _ => 0) := (oh6 _ (ne_kk (a := 1) (b := 3) (by decide))).trans hA1
            have hA2 : h6.1 (k + 2) = xa_a 2 (fun _ => 0) := (oh6 _ (ne_kk (a := 2) (b := 3) (by decide))).trans hA2
            have hA4 : h6.1 (k + 4) = xa_a 2 (fun _ => 0) := (oh6 _ (ne_kk (a := 4) (b := 3) (by decide))).trans hA4
            have hA5 : h6.1 (k + 5) = xa_a 4 (fun _ => 0) := (oh6 _ (ne_kk (a := 5) (b := 3) (by decide))).trans hA5
            have hA6 : h6.1 (k + 6) = xa_a 4 (fun _ => 0) := (oh6 _ (ne_kk (a := 6) (b := 3) (by decide))).trans hA6
            have hA7 : h6.1 (k + 7) = xa_a 2 (fun _ => 0) := (oh6 _ (ne_kk (a := 7) (b := 3) (by decide))).trans hA7
            have hA8 : h6.1 (k + 8) = xa_a 2 (fun _ => 0) := (oh6 _ (ne_kk (a := 8) (b := 3) (by decide))).trans hA8
            have hA9 : h6.1 (k + 9) = xa_a 12 (fun _ => 0) := (oh6 _ (ne_kk (a := 9) (b := 3) (by decide))).trans hA9
            have hA10 : h6.1 (k + 10) = xa_a 720 (fun _ => 0) := (oh6 _ (ne_kk (a := 10) (b := 3) (by decide))).trans hA10
            have hA11 : h6.1 (k + 11) = xa_a 3 (fun _ => 0) := (oh6 _ (ne_kk (a := 11) (b := 3) (by decide))).trans hA11
            have hA12 : h6.1 (k + 12) = xa_a 360 (fun _ => 0) := (oh6 _ (ne_kk (a := 12) (b := 3) (by decide))).trans hA12
            have hA13 : h6.1 (k + 13) = xa_a 3 (fun _ => 0) := (oh6 _ (ne_kk (a := 13) (b := 3) (by decide))).trans hA13
            have hA14 : h6.1 (k + 14) = xa_a 583200 (fun _ => 0) := (oh6 _ (ne_kk (a := 14) (b := 3) (by decide))).trans hA14
            have hA15 : h6.1 (k + 15) = xa_a 583200 (fun _ => 0) := (oh6 _ (ne_kk (a := 15) (b := 3) (by decide))).trans hA15
            have hA16 : h6.1 (k + 16) = xa_a 4 (fun _ => 0) := (oh6 _ (ne_kk (a := 16) (b := 3) (by decide))).trans hA16
            have hcn : h6.2 = k + 17 := nh6.trans hcn
            have fr : ∀ i, i < k → h6.1 i = h0.1 i := fun i hi => (oh6 i (by omega)).trans (fr i hi)
            refine xa_iincw (pc := 146) (y := 6) [some (xa_r k), some (xa_i 6)] dX10_init_146 (by decide) rfl rfl rfl rfl ?_
            refine xa_goto (pc := 149) (tgt := 133) dX10_init_149 (by decide) ?_
            refine xa_iload_n (pc := 133) dX10_init_133 rfl ?_
            refine xa_bipush (pc := 134) dX10_init_134 rfl ?_
            refine xa_icmp_ge (pc := 136) (tgt := 152) dX10_init_136 (by decide) (by decide) (by decide) (fun c_136 => ?_) (fun c_136 => ?_)
            · skip
              refine xa_aload_n (pc := 152) dX10_init_152 rfl ?_
              refine xa_getfield (pc := 153) dX10_init_153 flRX10_13 (by omega) (by omega) hO rfl ?_
              refine xa_iconst (pc := 156) dX10_init_156 ?_
              refine xa_iconst (pc := 157) dX10_init_157 ?_
              refine xa_iastw (pc := 158) 0 dX10_init_158 (by omega) (by omega) hA2 (by omega) (by omega) rfl (fun h7 nh7 ch7 oh7 => ?_)
              have hA2 : h7.1 (k + 2) = xa_a 2 (xa_upf (fun _ => 0) 0 2) := ch7
              have hO : h7.1 k = xa_o 10 [xa_i 0, xa_r (k + 1), xa_r (k + 2), xa_r (k + 3), xa_r (k + 4), xa_r (k + 5), xa_r (k + 6), xa_r (k + 7), xa_r (k + 8), xa_r (k + 9), xa_r (k + 10), xa_r (k + 11), xa_r (k + 12), xa_i 0, xa_i 0, xa_i 0, xa_r (k + 13), xa_i 0, xa_i 0, xa_i 0, xa_i (-4), xa_r (k + 14), xa_r (k + 15), xa_i 0, xa_r (k + 16)] := (oh7 _ (ne_kk (a := 0) (b := 2) (by decide))).trans hO
              have hA1 : h7.1 (k + 1) = xa_a 120 (fun _ => 0) := (oh7 _ (ne_kk (a := 1) (b := 2) (by decide))).trans hA1
              have hA3 : h7.1 (k + 3) = xa_a 18 (xa_upf (xa_upf (xa_upf (xa_upf (xa_upf (xa_upf (fun _ => 0) 0 1) 1 1) 2 1) 3 1) 4 1) 5 1) := (oh7 _ (ne_kk (a := 3) (b := 2) (by decide))).trans hA3
              have hA4 : h7.1 (k + 4) = xa_a 2 (fun _ => 0) := (oh7 _ (ne_kk (a := 4) (b := 2) (by decide))).trans hA4
              have hA5 : h7.1 (k + 5) = xa_a 4 (fun _ => 0) := (oh7 _ (ne_kk (a := 5) (b := 2) (by decide))).trans hA5
              have hA6 : h7.1 (k + 6) = xa_a 4 (fun _ => 0) := (oh7 _ (ne_kk (a := 6) (b := 2) (by decide))).trans hA6
              have hA7 : h7.1 (k + 7) = xa_a 2 (fun _ => 0) := (oh7 _ (ne_kk (a := 7) (b := 2) (by decide))).trans hA7
              have hA8 : h7.1 (k + 8) = xa_a 2 (fun _ => 0) := (oh7 _ (ne_kk (a := 8) (b := 2) (by decide))).trans hA8
              have hA9 : h7.1 (k + 9) = xa_a 12 (fun _ => 0) := (oh7 _ (ne_kk (a := 9) (b := 2) (by decide))).trans hA9
              have hA10 : h7.1 (k + 10) = xa_a 720 (fun _ => 0) := (oh7 _ (ne_kk (a := 10) (b := 2) (by decide))).trans hA10
              have hA11 : h7.1 (k + 11) = xa_a 3 (fun _ => 0) := (oh7 _ (ne_kk (a := 11) (b := 2) (by decide))).trans hA11
              have hA12 : h7.1 (k + 12) = xa_a 360 (fun _ => 0) := (oh7 _ (ne_kk (a := 12) (b := 2) (by decide))).trans hA12
              have hA13 : h7.1 (k + 13) = xa_a 3 (fun _ => 0) := (oh7 _ (ne_kk (a := 13) (b := 2) (by decide))).trans hA13
              have hA14 : h7.1 (k + 14) = xa_a 583200 (fun _ => 0) := (oh7 _ (ne_kk (a := 14) (b := 2) (by decide))).trans hA14
              have hA15 : h7.1 (k + 15) = xa_a 583200 (fun _ => 0) := (oh7 _ (ne_kk (a := 15) (b := 2) (by decide))).trans hA15
              have hA16 : h7.1 (k + 16) = xa_a 4 (fun _ => 0) := (oh7 _ (ne_kk (a := 16) (b := 2) (by decide))).trans hA16
              have hcn : h7.2 = k + 17 := nh7.trans hcn
              have fr : ∀ i, i < k → h7.1 i = h0.1 i := fun i hi => (oh7 i (by omega)).trans (fr i hi)
              refine xa_aload_n (pc := 159) dX10_init_159 rfl ?_
              exact c_Model_init_8 k hk hcn fr hO hA1 hA2 hA3 hA4 hA5 hA6 hA7 hA8 hA9 hA10 hA11 hA12 hA13 hA14 hA15 hA16
            · skip
              exfalso; omega
theorem c_Model_init_6 {G : xa_G} {h0 h : xa_H} (k : Nat) (hk : 2 ≤ k) (hcn : h.2 = k + 17) (fr : ∀ i, i < k → h.1 i = h0.1 i) (hO : h.1 k = xa_o 10 [xa_i 0, xa_r (k + 1), xa_r (k + 2), xa_r (k + 3), xa_r (k + 4), xa_r (k + 5), xa_r (k + 6), xa_r (k + 7), xa_r (k + 8), xa_r (k + 9), xa_r (k + 10), xa_r (k + 11), xa_r (k + 12), xa_i 0, xa_i 0, xa_i 0, xa_r (k + 13), xa_i 0, xa_i 0, xa_i 0, xa_i (-4), xa_r (k + 14), xa_r (k + 15), xa_i 0, xa_r (k + 16)]) (hA1 : h.1 (k + 1) = xa_a 120 (fun _ => 0)) (hA2 : h.1 (k + 2) = xa_a 2 (fun _ => 0)) (hA3 : h.1 (k + 3) = xa_a 18 (fun _ => 0)) (hA4 : h.1 (k + 4) = xa_a 2 (fun _ => 0)) (hA5 : h.1 (k + 5) = xa_a 4 (fun _ => 0)) (hA6 : h.1 (k + 6) = xa_a 4 (fun _ => 0)) (hA7 : h.1 (k + 7) = xa_a 2 (fun _ => 0)) (hA8 : h.1 (k + 8) = xa_a 2 (fun _ => 0)) (hA9 : h.1 (k + 9) = xa_a 12 (fun _ => 0)) (hA10 : h.1 (k + 10) = xa_a 720 (fun _ => 0)) (hA11 : h.1 (k + 11) = xa_a 3 (fun _ => 0)) (hA12 : h.1 (k + 12) = xa_a 360 (fun _ => 0)) (hA13 : h.1 (k + 13) = xa_a 3 (fun _ => 0)) (hA14 : h.1 (k + 14) = xa_a 583200 (fun _ => 0)) (hA15 : h.1 (k + 15) = xa_a 583200 (fun _ => 0)) (hA16 : h.1 (k + 16) = xa_a 4 (fun _ => 0))  : xa_W G mX10_init (xa_Z G (fun r h' => r = none ∧ xM h' k (xa_uF (xa_uF (xa_uF (xa_uF (xa_uF (fun _ _ => 0) 2 (xa_upf (fun _ => 0) 0 2)) 3 (xa_upf (xa_upf (xa_upf (xa_upf (xa_upf (xa_upf (fun _ => 0) 0 1) 1 1) 2 1) 3 1) 4 1) 5 1)) 4 (xa_upf (fun _ => 0) 0 1)) 5 (xa_upf (fun _ => 0) 0 10)) 8 (xa_upf (fun _ => 0) 0 10)) (xa_upf (fun _ => 0) 20 (-4)) ∧ h'.2 = k + 17 ∧ ∀ i, i < k → h'.1 i = h0.1 i)) 131 [some (xa_r k), none] [] h 0 0 := by
  refine xa_iconst (pc := 131) dX10_init_131 ?_
  refine xa_istoren (pc := 132) [some (xa_r k), some (xa_i 0)] dX10_init_132 (by decide) (Nat.le_of_ble_eq_true rfl) rfl rfl ?_
  refine xa_iload_n (pc := 133) dX10_init_133 rfl ?_
  refine xa_bipush (pc := 134) dX10_init_134 rfl ?_
  refine xa_icmp_ge (pc := 136) (tgt := 152) dX10_init_136 (by decide) (by decide) (by decide) (fun c_136 => ?_) (fun c_136 => ?_)
  · skip
    exfalso; omega
  · skip
    exact c_Model_init_7 k hk hcn fr hO hA1 hA2 hA3 hA4 hA5 hA6 hA7 hA8 hA9 hA10 hA11 hA12 hA13 hA14 hA15 hA16
theorem c_Model_init_5 {G : xa_G} {h0 h : xa_H} (k : Nat) (hk : 2 ≤ k) (hcn : h.2 = k + 15) (fr : ∀ i, i < k → h.1 i = h0.1 i) (hO : h.1 k = xa_o 10 [xa_i 0, xa_r (k + 1), xa_r (k + 2), xa_r (k + 3), xa_r (k + 4), xa_r (k + 5), xa_r (k + 6), xa_r (k + 7), xa_r (k + 8), xa_r (k + 9), xa_r (k + 10), xa_r (k + 11), xa_r (k + 12), xa_i 0, xa_i 0, xa_i 0, xa_r (k + 13), xa_i 0, xa_i 0, xa_i 0, xa_i (-4), xa_r (k + 14), xa_n, xa_i 0, xa_n]) (hA1 : h.1 (k + 1) = xa_a 120 (fun _ => 0)) (hA2 : h.1 (k + 2) = xa_a 2 (fun _ => 0)) (hA3 : h.1 (k + 3) = xa_a 18 (fun _ => 0)) (hA4 : h.1 (k + 4) = xa_a 2 (fun _ => 0)) (hA5 : h.1 (k + 5) = xa_a 4 (fun _ => 0)) (hA6 : h.1 (k + 6) = xa_a 4 (fun _ => 0)) (hA7 : h.1 (k + 7) = xa_a 2 (fun _ => 0)) (hA8 : h.1 (k + 8) = xa_a 2 (fun _ => 0)) (hA9 : h.1 (k + 9) = xa_a 12 (fun _ => 0)) (hA10 : h.1 (k + 10) = xa_a 720 (fun _ => 0)) (hA11 : h.1 (k + 11) = xa_a 3 (fun _ => 0)) (hA12 : h.1 (k + 12) = xa_a 360 (fun _ => 0)) (hA13 : h.1 (k + 13) = xa_a 3 (fun _ => 0)) (hA14 : h.1 (k + 14) = xa_a 583200 (fun _ => 0))  : xa_W G mX10_init (xa_Z G (fun r h' => r = none ∧ xM h' k (xa_uF (xa_uF (xa_uF (xa_uF (xa_uF (fun _ _ => 0) 2 (xa_upf (fun _ => 0) 0 2)) 3 (xa_upf (xa_upf (xa_upf (xa_upf (xa_upf (xa_upf (fun _ => 0) 0 1) 1 1) 2 1) 3 1) 4 1) 5 1)) 4 (xa_upf (fun _ => 0) 0 1)) 5 (xa_upf (fun _ => 0) 0 10)) 8 (xa_upf (fun _ => 0) 0 10)) (xa_upf (fun _ => 0) 20 (-4)) ∧ h'.2 = k + 17 ∧ ∀ i, i < k → h'.1 i = h0.1 i)) 116 [some (xa_r k), none] [] h 2 583204 := by
  refine xa_aload_n (pc := 116) dX10_init_116 rfl ?_
  refine xa_ldc (pc := 117) (n := 583200) dX10_init_117 ctRX10_53 rfl ?_
  refine xa_newap (pc := 119) (mc0 := 1) (ms0 := 4) 583200 (k + 15) hcn dX10_init_119 rfl (by decide) rfl rfl (fun h1 nh1 ch1 oh1 => ?_)
  have hO : h1.1 k = xa_o 10 [xa_i 0, xa_r (k + 1), xa_r (k + 2), xa_r (k + 3), xa_r (k + 4), xa_r (k + 5), xa_r (k + 6), xa_r (k + 7), xa_r (k + 8), xa_r (k + 9), xa_r (k + 10), xa_r (k + 11), xa_r (k + 12), xa_i 0, xa_i 0, xa_i 0, xa_r (k + 13), xa_i 0, xa_i 0, xa_i 0, xa_i (-4), xa_r (k + 14), xa_n, xa_i 0, xa_n] := (oh1 _ (ne_kk (a := 0) (b := 15) (by decide))).trans hO
  have hA1 : h1.1 (k + 1) = xa_a 120 (fun _ => 0) := (oh1 _ (ne_kk (a := 1) (b := 15) (by decide))).trans hA1
  have hA2 : h1.1 (k + 2) = xa_a 2 (fun _ => 0) := (oh1 _ (ne_kk (a := 2) (b := 15) (by decide))).trans hA2
  have hA3 : h1.1 (k + 3) = xa_a 18 (fun _ => 0) := (oh1 _ (ne_kk (a := 3) (b := 15) (by decide))).trans hA3
  have hA4 : h1.1 (k + 4) = xa_a 2 (fun _ => 0) := (oh1 _ (ne_kk (a := 4) (b := 15) (by decide))).trans hA4
  have hA5 : h1.1 (k + 5) = xa_a 4 (fun _ => 0) := (oh1 _ (ne_kk (a := 5) (b := 15) (by decide))).trans hA5
  have hA6 : h1.1 (k + 6) = xa_a 4 (fun _ => 0) := (oh1 _ (ne_kk (a := 6) (b := 15) (by decide))).trans hA6
  have hA7 : h1.1 (k + 7) = xa_a 2 (fun _ => 0) := (oh1 _ (ne_kk (a := 7) (b := 15) (by decide))).trans hA7
  have hA8 : h1.1 (k + 8) = xa_a 2 (fun _ => 0) := (oh1 _ (ne_kk (a := 8) (b := 15) (by decide))).trans hA8
  have hA9 : h1.1 (k + 9) = xa_a 12 (fun _ => 0) := (oh1 _ (ne_kk (a := 9) (b := 15) (by decide))).trans hA9
  have hA10 : h1.1 (k + 10) = xa_a 720 (fun _ => 0) := (oh1 _ (ne_kk (a := 10) (b := 15) (by decide))).trans hA10
  have hA11 : h1.1 (k + 11) = xa_a 3 (fun _ => 0) := (oh1 _ (ne_kk (a := 11) (b := 15) (by decide))).trans hA11
  have hA12 : h1.1 (k + 12) = xa_a 360 (fun _ => 0) := (oh1 _ (ne_kk (a := 12) (b := 15) (by decide))).trans hA12
  have hA13 : h1.1 (k + 13) = xa_a 3 (fun _ => 0) := (oh1 _ (ne_kk (a := 13) (b := 15) (by decide))).trans hA13
  have hA14 : h1.1 (k + 14) = xa_a 583200 (fun _ => 0) := (oh1 _ (ne_kk (a := 14) (b := 15) (by decide))).trans hA14
  have hA15 : h1.1 (k + 15) = xa_a 583200 (fun _ => 0) := ch1
  have hcn : h1.2 = k + 16 := nh1
  have fr : ∀ i, i < k → h1.1 i = h0.1 i := fun i hi => (oh1 i (by omega)).trans (fr i hi)
  refine xa_putwF (pc := 121) [xa_i 0, xa_r (k + 1), xa_r (k + 2), xa_r (k + 3), xa_r (k + 4), xa_r (k + 5), xa_r (k + 6), xa_r (k + 7), xa_r (k + 8), xa_r (k + 9), xa_r (k + 10), xa_r (k + 11), xa_r (k + 12), xa_i 0, xa_i 0, xa_i 0, xa_r (k + 13), xa_i 0, xa_i 0, xa_i 0, xa_i (-4), xa_r (k + 14), xa_r (k + 15), xa_i 0, xa_n] dX10_init_121 rfl flRX10_57 plX10_22 (by omega) (by omega) hO trivial rfl rfl (fun h2 nh2 ch2 oh2 => ?_)
  have hO : h2.1 k = xa_o 10 [xa_i 0, xa_r (k + 1), xa_r (k + 2), xa_r (k + 3), xa_r (k + 4), xa_r (k + 5), xa_r (k + 6), xa_r (k + 7), xa_r (k + 8), xa_r (k + 9), xa_r (k + 10), xa_r (k + 11), xa_r (k + 12), xa_i 0, xa_i 0, xa_i 0, xa_r (k + 13), xa_i 0, xa_i 0, xa_i 0, xa_i (-4), xa_r (k + 14), xa_r (k + 15), xa_i 0, xa_n] := ch2
  have hA1 : h2.1 (k + 1) = xa_a 120 (fun _ => 0) := (oh2 _ (ne_kk (a := 1) (b := 0) (by decide))).trans hA1
  have hA2 : h2.1 (k + 2) = xa_a 2 (fun _ => 0) := (oh2 _ (ne_kk (a := 2) (b := 0) (by decide))).trans hA2
  have hA3 : h2.1 (k + 3) = xa_a 18 (fun _ => 0) := (oh2 _ (ne_kk (a := 3) (b := 0) (by decide))).trans hA3
  have hA4 : h2.1 (k + 4) = xa_a 2 (fun _ => 0) := (oh2 _ (ne_kk (a := 4) (b := 0) (by decide))).trans hA4
  have hA5 : h2.1 (k + 5) = xa_a 4 (fun _ => 0) := (oh2 _ (ne_kk (a := 5) (b := 0) (by decide))).trans hA5
  have hA6 : h2.1 (k + 6) = xa_a 4 (fun _ => 0) := (oh2 _ (ne_kk (a := 6) (b := 0) (by decide))).trans hA6
  have hA7 : h2.1 (k + 7) = xa_a 2 (fun _ => 0) := (oh2 _ (ne_kk (a := 7) (b := 0) (by decide))).trans hA7
  have hA8 : h2.1 (k + 8) = xa_a 2 (fun _ => 0) := (oh2 _ (ne_kk (a := 8) (b := 0) (by decide))).trans hA8
  have hA9 : h2.1 (k + 9) = xa_a 12 (fun _ => 0) := (oh2 _ (ne_kk (a := 9) (b := 0) (by decide))).trans hA9
  have hA10 : h2.1 (k + 10) = xa_a 720 (fun _ => 0) := (oh2 _ (ne_kk (a := 10) (b := 0) (by decide))).trans hA10
  have hA11 : h2.1 (k + 11) = xa_a 3 (fun _ => 0) := (oh2 _ (ne_kk (a := 11) (b := 0) (by decide))).trans hA11
  have hA12 : h2.1 (k + 12) = xa_a 360 (fun _ => 0) := (oh2 _ (ne_kk (a := 12) (b := 0) (by decide))).trans hA12
  have hA13 : h2.1 (k + 13) = xa_a 3 (fun _ => 0) := (oh2 _ (ne_kk (a := 13) (b := 0) (by decide))).trans hA13
  have hA14 : h2.1 (k + 14) = xa_a 583200 (fun _ => 0) := (oh2 _ (ne_kk (a := 14) (b := 0) (by decide))).trans hA14
  have hA15 : h2.1 (k + 15) = xa_a 583200 (fun _ => 0) := (oh2 _ (ne_kk (a := 15) (b := 0) (by decide))).trans hA15
  have hcn : h2.2 = k + 16 := nh2.trans hcn
  have fr : ∀ i, i < k → h2.1 i = h0.1 i := fun i hi => (oh2 i (by omega)).trans (fr i hi)
  refine xa_aload_n (pc := 124) dX10_init_124 rfl ?_
  refine xa_iconst (pc := 125) dX10_init_125 ?_
  refine xa_newap (pc := 126) (mc0 := 0) (ms0 := 0) 4 (k + 16) hcn dX10_init_126 rfl (by decide) rfl rfl (fun h3 nh3 ch3 oh3 => ?_)
  have hO : h3.1 k = xa_o 10 [xa_i 0, xa_r (k + 1), xa_r (k + 2), xa_r (k + 3), xa_r (k + 4), xa_r (k + 5), xa_r (k + 6), xa_r (k + 7), xa_r (k + 8), xa_r (k + 9), xa_r (k + 10), xa_r (k + 11), xa_r (k + 12), xa_i 0, xa_i 0, xa_i 0, xa_r (k + 13), xa_i 0, xa_i 0, xa_i 0, xa_i (-4), xa_r (k + 14), xa_r (k + 15), xa_i 0, xa_n] := (oh3 _ (ne_kk (a := 0) (b := 16) (by decide))).trans hO
  have hA1 : h3.1 (k + 1) = xa_a 120 (fun _ => 0) := (oh3 _ (ne_kk (a := 1) (b := 16) (by decide))).trans hA1
  have hA2 : h3.1 (k + 2) = xa_a 2 (fun _ => 0) := (oh3 _ (ne_kk (a := 2) (b := 16) (by decide))).trans hA2
  have hA3 : h3.1 (k + 3) = xa_a 18 (fun _ => 0) := (oh3 _ (ne_kk (a := 3) (b := 16) (by decide))).trans hA3
  have hA4 : h3.1 (k + 4) = xa_a 2 (fun _ => 0) := (oh3 _ (ne_kk (a := 4) (b := 16) (by decide))).trans hA4
  have hA5 : h3.1 (k + 5) = xa_a 4 (fun _ => 0) := (oh3 _ (ne_kk (a := 5) (b := 16) (by decide))).trans hA5
  have hA6 : h3.1 (k + 6) = xa_a 4 (fun _ => 0) := (oh3 _ (ne_kk (a := 6) (b := 16) (by decide))).trans hA6
  have hA7 : h3.1 (k + 7) = xa_a 2 (fun _ => 0) := (oh3 _ (ne_kk (a := 7) (b := 16) (by decide))).trans hA7
  have hA8 : h3.1 (k + 8) = xa_a 2 (fun _ => 0) := (oh3 _ (ne_kk (a := 8) (b := 16) (by decide))).trans hA8
  have hA9 : h3.1 (k + 9) = xa_a 12 (fun _ => 0) := (oh3 _ (ne_kk (a := 9) (b := 16) (by decide))).trans hA9
  have hA10 : h3.1 (k + 10) = xa_a 720 (fun _ => 0) := (oh3 _ (ne_kk (a := 10) (b := 16) (by decide))).trans hA10
  have hA11 : h3.1 (k + 11) = xa_a 3 (fun _ => 0) := (oh3 _ (ne_kk (a := 11) (b := 16) (by decide))).trans hA11
  have hA12 : h3.1 (k + 12) = xa_a 360 (fun _ => 0) := (oh3 _ (ne_kk (a := 12) (b := 16) (by decide))).trans hA12
  have hA13 : h3.1 (k + 13) = xa_a 3 (fun _ => 0) := (oh3 _ (ne_kk (a := 13) (b := 16) (by decide))).trans hA13
  have hA14 : h3.1 (k + 14) = xa_a 583200 (fun _ => 0) := (oh3 _ (ne_kk (a := 14) (b := 16) (by decide))).trans hA14
  have hA15 : h3.1 (k + 15) = xa_a 583200 (fun _ => 0) := (oh3 _ (ne_kk (a := 15) (b := 16) (by decide))).trans hA15
  have hA16 : h3.1 (k + 16) = xa_a 4 (fun _ => 0) := ch3
  have hcn : h3.2 = k + 17 := nh3
  have fr : ∀ i, i < k → h3.1 i = h0.1 i := fun i hi => (oh3 i (by omega)).trans (fr i hi)
  refine xa_putwF (pc := 128) [xa_i 0, xa_r (k + 1), xa_r (k + 2), xa_r (k + 3), xa_r (k + 4), xa_r (k + 5), xa_r (k + 6), xa_r (k + 7), xa_r (k + 8), xa_r (k + 9), xa_r (k + 10), xa_r (k + 11), xa_r (k + 12), xa_i 0, xa_i 0, xa_i 0, xa_r (k + 13), xa_i 0, xa_i 0, xa_i 0, xa_i (-4), xa_r (k + 14), xa_r (k + 15), xa_i 0, xa_r (k + 16)] dX10_init_128 rfl flRX10_60 plX10_24 (by omega) (by omega) hO trivial rfl rfl (fun h4 nh4 ch4 oh4 => ?_)
  have hO : h4.1 k = xa_o 10 [xa_i 0, xa_r (k + 1), xa_r (k + 2), xa_r (k + 3), xa_r (k + 4), xa_r (k + 5), xa_r (k + 6), xa_r (k + 7), xa_r (k + 8), xa_r (k + 9), xa_r (k + 10), xa_r (k + 11), xa_r (k + 12), xa_i 0, xa_i 0, xa_i 0, xa_r (k + 13), xa_i 0, xa_i 0, xa_i 0, xa_i (-4), xa_r (k + 14), xa_r (k + 15), xa_i 0, xa_r (k + 16)] := ch4
  have hA1 : h4.1 (k + 1) = xa_a 120 (fun _ => 0) := (oh4 _ (ne_kk (a := 1) (b := 0) (by decide))).trans hA1
  have hA2 : h4.1 (k + 2) = xa_a 2 (fun _ => 0) := (oh4 _ (ne_kk (a := 2) (b := 0) (by decide))).trans hA2
  have hA3 : h4.1 (k + 3) = xa_a 18 (fun _ => 0) := (oh4 _ (ne_kk (a := 3) (b := 0) (by decide))).trans hA3
  have hA4 : h4.1 (k + 4) = xa_a 2 (fun _ => 0) := (oh4 _ (ne_kk (a := 4) (b := 0) (by decide))).trans hA4
  have hA5 : h4.1 (k + 5) = xa_a 4 (fun _ => 0) := (oh4 _ (ne_kk (a := 5) (b := 0) (by decide))).trans hA5
  have hA6 : h4.1 (k + 6) = xa_a 4 (fun _ => 0) := (oh4 _ (ne_kk (a := 6) (b := 0) (by decide))).trans hA6
  have hA7 : h4.1 (k + 7) = xa_a 2 (fun _ => 0) := (oh4 _ (ne_kk (a := 7) (b := 0) (by decide))).trans hA7
  have hA8 : h4.1 (k + 8) = xa_a 2 (fun _ => 0) := (oh4 _ (ne_kk (a := 8) (b := 0) (by decide))).trans hA8
  have hA9 : h4.1 (k + 9) = xa_a 12 (fun _ => 0) := (oh4 _ (ne_kk (a := 9) (b := 0) (by decide))).trans hA9
  have hA10 : h4.1 (k + 10) = xa_a 720 (fun _ => 0) := (oh4 _ (ne_kk (a := 10) (b := 0) (by decide))).trans hA10
  have hA11 : h4.1 (k + 11) = xa_a 3 (fun _ => 0) := (oh4 _ (ne_kk (a := 11) (b := 0) (by decide))).trans hA11
  have hA12 : h4.1 (k + 12) = xa_a 360 (fun _ => 0) := (oh4 _ (ne_kk (a := 12) (b := 0) (by decide))).trans hA12
  have hA13 : h4.1 (k + 13) = xa_a 3 (fun _ => 0) := (oh4 _ (ne_kk (a := 13) (b := 0) (by decide))).trans hA13
  have hA14 : h4.1 (k + 14) = xa_a 583200 (fun _ => 0) := (oh4 _ (ne_kk (a := 14) (b := 0) (by decide))).trans hA14
  have hA15 : h4.1 (k + 15) = xa_a 583200 (fun _ => 0) := (oh4 _ (ne_kk (a := 15) (b := 0) (by decide))).trans hA15
  have hA16 : h4.1 (k + 16) = xa_a 4 (fun _ => 0) := (oh4 _ (ne_kk (a := 16) (b := 0) (by decide))).trans hA16
  have hcn : h4.2 = k + 17 := nh4.trans hcn
  have fr : ∀ i, i < k → h4.1 i = h0.1 i := fun i hi => (oh4 i (by omega)).trans (fr i hi)
  exact c_Model_init_6 k hk hcn fr hO hA1 hA2 hA3 hA4 hA5 hA6 hA7 hA8 hA9 hA10 hA11 hA12 hA13 hA14 hA15 hA16
theorem c_Model_init_4 {G : xa_G} {h0 h : xa_H} (k : Nat) (hk : 2 ≤ k) (hcn : h.2 = k + 14) (fr : ∀ i, i < k → h.1 i = h0.1 i) (hO : h.1 k = xa_o 10 [xa_i 0, xa_r (k + 1), xa_r (k + 2), xa_r (k + 3), xa_r (k + 4), xa_r (k + 5), xa_r (k + 6), xa_r (k + 7), xa_r (k + 8), xa_r (k + 9), xa_r (k + 10), xa_r (k + 11), xa_r (k + 12), xa_i 0, xa_i 0, xa_i 0, xa_r (k + 13), xa_i 0, xa_i 0, xa_i 0, xa_i 0, xa_n, xa_n, xa_i 0, xa_n]) (hA1 : h.1 (k + 1) = xa_a 120 (fun _ => 0)) (hA2 : h.1 (k + 2) = xa_a 2 (fun _ => 0)) (hA3 : h.1 (k + 3) = xa_a 18 (fun _ => 0)) (hA4 : h.1 (k + 4) = xa_a 2 (fun _ => 0)) (hA5 : h.1 (k + 5) = xa_a 4 (fun _ => 0)) (hA6 : h.1 (k + 6) = xa_a 4 (fun _ => 0)) (hA7 : h.1 (k + 7) = xa_a 2 (fun _ => 0)) (hA8 : h.1 (k + 8) = xa_a 2 (fun _ => 0)) (hA9 : h.1 (k + 9) = xa_a 12 (fun _ => 0)) (hA10 : h.1 (k + 10) = xa_a 720 (fun _ => 0)) (hA11 : h.1 (k + 11) = xa_a 3 (fun _ => 0)) (hA12 : h.1 (k + 12) = xa_a 360 (fun _ => 0)) (hA13 : h.1 (k + 13) = xa_a 3 (fun _ => 0))  : xa_W G mX10_init (xa_Z G (fun r h' => r = none ∧ xM h' k (xa_uF (xa_uF (xa_uF (xa_uF (xa_uF (fun _ _ => 0) 2 (xa_upf (fun _ => 0) 0 2)) 3 (xa_upf (xa_upf (xa_upf (xa_upf (xa_upf (xa_upf (fun _ => 0) 0 1) 1 1) 2 1) 3 1) 4 1) 5 1)) 4 (xa_upf (fun _ => 0) 0 1)) 5 (xa_upf (fun _ => 0) 0 10)) 8 (xa_upf (fun _ => 0) 0 10)) (xa_upf (fun _ => 0) 20 (-4)) ∧ h'.2 = k + 17 ∧ ∀ i, i < k → h'.1 i = h0.1 i)) 102 [some (xa_r k), none] [] h 3 1166404 := by
  refine xa_aload_n (pc := 102) dX10_init_102 rfl ?_
  refine xa_bipush (pc := 103) dX10_init_103 rfl ?_
  refine xa_putw (pc := 105) [xa_i 0, xa_r (k + 1), xa_r (k + 2), xa_r (k + 3), xa_r (k + 4), xa_r (k + 5), xa_r (k + 6), xa_r (k + 7), xa_r (k + 8), xa_r (k + 9), xa_r (k + 10), xa_r (k + 11), xa_r (k + 12), xa_i 0, xa_i 0, xa_i 0, xa_r (k + 13), xa_i 0, xa_i 0, xa_i 0, xa_i (-4), xa_n, xa_n, xa_i 0, xa_n] dX10_init_105 flRX10_49 plX10_20 (by omega) (by omega) hO trivial rfl (fun h1 nh1 ch1 oh1 => ?_)
  have hO : h1.1 k = xa_o 10 [xa_i 0, xa_r (k + 1), xa_r (k + 2), xa_r (k + 3), xa_r (k + 4), xa_r (k + 5), xa_r (k + 6), xa_r (k + 7), xa_r (k + 8), xa_r (k + 9), xa_r (k + 10), xa_r (k + 11), xa_r (k + 12), xa_i 0, xa_i 0, xa_i 0, xa_r (k + 13), xa_i 0, xa_i 0, xa_i 0, xa_i (-4), xa_n, xa_n, xa_i 0, xa_n] := ch1
  have hA1 : h1.1 (k + 1) = xa_a 120 (fun _ => 0) := (oh1 _ (ne_kk (a := 1) (b := 0) (by decide))).trans hA1
  have hA2 : h1.1 (k + 2) = xa_a 2 (fun _ => 0) := (oh1 _ (ne_kk (a := 2) (b := 0) (by decide))).trans hA2
  have hA3 : h1.1 (k + 3) = xa_a 18 (fun _ => 0) := (oh1 _ (ne_kk (a := 3) (b := 0) (by decide))).trans hA3
  have hA4 : h1.1 (k + 4) = xa_a 2 (fun _ => 0) := (oh1 _ (ne_kk (a := 4) (b := 0) (by decide))).trans hA4
  have hA5 : h1.1 (k + 5) = xa_a 4 (fun _ => 0) := (oh1 _ (ne_kk (a := 5) (b := 0) (by decide))).trans hA5
  have hA6 : h1.1 (k + 6) = xa_a 4 (fun _ => 0) := (oh1 _ (ne_kk (a := 6) (b := 0) (by decide))).trans hA6
  have hA7 : h1.1 (k + 7) = xa_a 2 (fun _ => 0) := (oh1 _ (ne_kk (a := 7) (b := 0) (by decide))).trans hA7
  have hA8 : h1.1 (k + 8) = xa_a 2 (fun _ => 0) := (oh1 _ (ne_kk (a := 8) (b := 0) (by decide))).trans hA8
  have hA9 : h1.1 (k + 9) = xa_a 12 (fun _ => 0) := (oh1 _ (ne_kk (a := 9) (b := 0) (by decide))).trans hA9
  have hA10 : h1.1 (k + 10) = xa_a 720 (fun _ => 0) := (oh1 _ (ne_kk (a := 10) (b := 0) (by decide))).trans hA10
  have hA11 : h1.1 (k + 11) = xa_a 3 (fun _ => 0) := (oh1 _ (ne_kk (a := 11) (b := 0) (by decide))).trans hA11
  have hA12 : h1.1 (k + 12) = xa_a 360 (fun _ => 0) := (oh1 _ (ne_kk (a := 12) (b := 0) (by decide))).trans hA12
  have hA13 : h1.1 (k + 13) = xa_a 3 (fun _ => 0) := (oh1 _ (ne_kk (a := 13) (b := 0) (by decide))).trans hA13
  have hcn : h1.2 = k + 14 := nh1.trans hcn
  have fr : ∀ i, i < k → h1.1 i = h0.1 i := fun i hi => (oh1 i (by omega)).trans (fr i hi)
  refine xa_aload_n (pc := 108) dX10_init_108 rfl ?_
  refine xa_ldc (pc := 109) (n := 583200) dX10_init_109 ctRX10_53 rfl ?_
  refine xa_newap (pc := 111) (mc0 := 2) (ms0 := 583204) 583200 (k + 14) hcn dX10_init_111 rfl (by decide) rfl rfl (fun h2 nh2 ch2 oh2 => ?_)
  have hO : h2.1 k = xa_o 10 [xa_i 0, xa_r (k + 1), xa_r (k + 2), xa_r (k + 3), xa_r (k + 4), xa_r (k + 5), xa_r (k + 6), xa_r (k + 7), xa_r (k + 8), xa_r (k + 9), xa_r (k + 10), xa_r (k + 11), xa_r (k + 12), xa_i 0, xa_i 0, xa_i 0, xa_r (k + 13), xa_i 0, xa_i 0, xa_i 0, xa_i (-4), xa_n, xa_n, xa_i 0, xa_n] := (oh2 _ (ne_kk (a := 0) (b := 14) (by decide))).trans hO
  have hA1 : h2.1 (k + 1) = xa_a 120 (fun _ => 0) := (oh2 _ (ne_kk (a := 1) (b := 14) (by decide))).trans hA1
  have hA2 : h2.1 (k + 2) = xa_a 2 (fun _ => 0) := (oh2 _ (ne_kk (a := 2) (b := 14) (by decide))).trans hA2
  have hA3 : h2.1 (k + 3) = xa_a 18 (fun _ => 0) := (oh2 _ (ne_kk (a := 3) (b := 14) (by decide))).trans hA3
  have hA4 : h2.1 (k + 4) = xa_a 2 (fun _ => 0) := (oh2 _ (ne_kk (a := 4) (b := 14) (by decide))).trans hA4
  have hA5 : h2.1 (k + 5) = xa_a 4 (fun _ => 0) := (oh2 _ (ne_kk (a := 5) (b := 14) (by decide))).trans hA5
  have hA6 : h2.1 (k + 6) = xa_a 4 (fun _ => 0) := (oh2 _ (ne_kk (a := 6) (b := 14) (by decide))).trans hA6
  have hA7 : h2.1 (k + 7) = xa_a 2 (fun _ => 0) := (oh2 _ (ne_kk (a := 7) (b := 14) (by decide))).trans hA7
  have hA8 : h2.1 (k + 8) = xa_a 2 (fun _ => 0) := (oh2 _ (ne_kk (a := 8) (b := 14) (by decide))).trans hA8
  have hA9 : h2.1 (k + 9) = xa_a 12 (fun _ => 0) := (oh2 _ (ne_kk (a := 9) (b := 14) (by decide))).trans hA9
  have hA10 : h2.1 (k + 10) = xa_a 720 (fun _ => 0) := (oh2 _ (ne_kk (a := 10) (b := 14) (by decide))).trans hA10
  have hA11 : h2.1 (k + 11) = xa_a 3 (fun _ => 0) := (oh2 _ (ne_kk (a := 11) (b := 14) (by decide))).trans hA11
  have hA12 : h2.1 (k + 12) = xa_a 360 (fun _ => 0) := (oh2 _ (ne_kk (a := 12) (b := 14) (by decide))).trans hA12
  have hA13 : h2.1 (k + 13) = xa_a 3 (fun _ => 0) := (oh2 _ (ne_kk (a := 13) (b := 14) (by decide))).trans hA13
  have hA14 : h2.1 (k + 14) = xa_a 583200 (fun _ => 0) := ch2
  have hcn : h2.2 = k + 15 := nh2
  have fr : ∀ i, i < k → h2.1 i = h0.1 i := fun i hi => (oh2 i (by omega)).trans (fr i hi)
  refine xa_putwF (pc := 113) [xa_i 0, xa_r (k + 1), xa_r (k + 2), xa_r (k + 3), xa_r (k + 4), xa_r (k + 5), xa_r (k + 6), xa_r (k + 7), xa_r (k + 8), xa_r (k + 9), xa_r (k + 10), xa_r (k + 11), xa_r (k + 12), xa_i 0, xa_i 0, xa_i 0, xa_r (k + 13), xa_i 0, xa_i 0, xa_i 0, xa_i (-4), xa_r (k + 14), xa_n, xa_i 0, xa_n] dX10_init_113 rfl flRX10_54 plX10_21 (by omega) (by omega) hO trivial rfl rfl (fun h3 nh3 ch3 oh3 => ?_)
  have hO : h3.1 k = xa_o 10 [xa_i 0, xa_r (k + 1), xa_r (k + 2), xa_r (k + 3), xa_r (k + 4), xa_r (k + 5), xa_r (k + 6), xa_r (k + 7), xa_r (k + 8), xa_r (k + 9), xa_r (k + 10), xa_r (k + 11), xa_r (k + 12), xa_i 0, xa_i 0, xa_i 0, xa_r (k + 13), xa_i 0, xa_i 0, xa_i 0, xa_i (-4), xa_r (k + 14), xa_n, xa_i 0, xa_n] := ch3
  have hA1 : h3.1 (k + 1) = xa_a 120 (fun _ => 0) := (oh3 _ (ne_kk (a := 1) (b := 0) (by decide))).trans hA1
  have hA2 : h3.1 (k + 2) = xa_a 2 (fun _ => 0) := (oh3 _ (ne_kk (a := 2) (b := 0) (by decide))).trans hA2
  have hA3 : h3.1 (k + 3) = xa_a 18 (fun _ => 0) := (oh3 _ (ne_kk (a := 3) (b := 0) (by decide))).trans hA3
  have hA4 : h3.1 (k + 4) = xa_a 2 (fun _ => 0) := (oh3 _ (ne_kk (a := 4) (b := 0) (by decide))).trans hA4
  have hA5 : h3.1 (k + 5) = xa_a 4 (fun _ => 0) := (oh3 _ (ne_kk (a := 5) (b := 0) (by decide))).trans hA5
  have hA6 : h3.1 (k + 6) = xa_a 4 (fun _ => 0) := (oh3 _ (ne_kk (a := 6) (b := 0) (by decide))).trans hA6
  have hA7 : h3.1 (k + 7) = xa_a 2 (fun _ => 0) := (oh3 _ (ne_kk (a := 7) (b := 0) (by decide))).trans hA7
  have hA8 : h3.1 (k + 8) = xa_a 2 (fun _ => 0) := (oh3 _ (ne_kk (a := 8) (b := 0) (by decide))).trans hA8
  have hA9 : h3.1 (k + 9) = xa_a 12 (fun _ => 0) := (oh3 _ (ne_kk (a := 9) (b := 0) (by decide))).trans hA9
  have hA10 : h3.1 (k + 10) = xa_a 720 (fun _ => 0) := (oh3 _ (ne_kk (a := 10) (b := 0) (by decide))).trans hA10
  have hA11 : h3.1 (k + 11) = xa_a 3 (fun _ => 0) := (oh3 _ (ne_kk (a := 11) (b := 0) (by decide))).trans hA11
  have hA12 : h3.1 (k + 12) = xa_a 360 (fun _ => 0) := (oh3 _ (ne_kk (a := 12) (b := 0) (by decide))).trans hA12
  have hA13 : h3.1 (k + 13) = xa_a 3 (fun _ => 0) := (oh3 _ (ne_kk (a := 13) (b := 0) (by decide))).trans hA13
  have hA14 : h3.1 (k + 14) = xa_a 583200 (fun _ => 0) := (oh3 _ (ne_kk (a := 14) (b := 0) (by decide))).trans hA14
  have hcn : h3.2 = k + 15 := nh3.trans hcn
  have fr : ∀ i, i < k → h3.1 i = h0.1 i := fun i hi => (oh3 i (by omega)).trans (fr i hi)
  exact c_Model_init_5 k hk hcn fr hO hA1 hA2 hA3 hA4 hA5 hA6 hA7 hA8 hA9 hA10 hA11 hA12 hA13 hA14
theorem c_Model_init_3 {G : xa_G} {h0 h : xa_H} (k : Nat) (hk : 2 ≤ k) (hcn : h.2 = k + 12) (fr : ∀ i, i < k → h.1 i = h0.1 i) (hO : h.1 k = xa_o 10 [xa_i 0, xa_r (k + 1), xa_r (k + 2), xa_r (k + 3), xa_r (k + 4), xa_r (k + 5), xa_r (k + 6), xa_r (k + 7), xa_r (k + 8), xa_r (k + 9), xa_r (k + 10), xa_r (k + 11), xa_n, xa_i 0, xa_i 0, xa_i 0, xa_n, xa_i 0, xa_i 0, xa_i 0, xa_i 0, xa_n, xa_n, xa_i 0, xa_n]) (hA1 : h.1 (k + 1) = xa_a 120 (fun _ => 0)) (hA2 : h.1 (k + 2) = xa_a 2 (fun _ => 0)) (hA3 : h.1 (k + 3) = xa_a 18 (fun _ => 0)) (hA4 : h.1 (k + 4) = xa_a 2 (fun _ => 0)) (hA5 : h.1 (k + 5) = xa_a 4 (fun _ => 0)) (hA6 : h.1 (k + 6) = xa_a 4 (fun _ => 0)) (hA7 : h.1 (k + 7) = xa_a 2 (fun _ => 0)) (hA8 : h.1 (k + 8) = xa_a 2 (fun _ => 0)) (hA9 : h.1 (k + 9) = xa_a 12 (fun _ => 0)) (hA10 : h.1 (k + 10) = xa_a 720 (fun _ => 0)) (hA11 : h.1 (k + 11) = xa_a 3 (fun _ => 0))  : xa_W G mX10_init (xa_Z G (fun r h' => r = none ∧ xM h' k (xa_uF (xa_uF (xa_uF (xa_uF (xa_uF (fun _ _ => 0) 2 (xa_upf (fun _ => 0) 0 2)) 3 (xa_upf (xa_upf (xa_upf (xa_upf (xa_upf (xa_upf (fun _ => 0) 0 1) 1 1) 2 1) 3 1) 4 1) 5 1)) 4 (xa_upf (fun _ => 0) 0 1)) 5 (xa_upf (fun _ => 0) 0 10)) 8 (xa_upf (fun _ => 0) 0 10)) (xa_upf (fun _ => 0) 20 (-4)) ∧ h'.2 = k + 17 ∧ ∀ i, i < k → h'.1 i = h0.1 i)) 86 [some (xa_r k), none] [] h 5 1166767 := by
  refine xa_aload_n (pc := 86) dX10_init_86 rfl ?_
  refine xa_sipush (pc := 87) dX10_init_87 rfl ?_
  refine xa_newap (pc := 90) (mc0 := 4) (ms0 := 1166407) 360 (k + 12) hcn dX10_init_90 rfl (by decide) rfl rfl (fun h1 nh1 ch1 oh1 => ?_)
  have hO : h1.1 k = xa_o 10 [xa_i 0, xa_r (k + 1), xa_r (k + 2), xa_r (k + 3), xa_r (k + 4), xa_r (k + 5), xa_r (k + 6), xa_r (k + 7), xa_r (k + 8), xa_r (k + 9), xa_r (k + 10), xa_r (k + 11), xa_n, xa_i 0, xa_i 0, xa_i 0, xa_n, xa_i 0, xa_i 0, xa_i 0, xa_i 0, xa_n, xa_n, xa_i 0, xa_n] := (oh1 _ (ne_kk (a := 0) (b := 12) (by decide))).trans hO
  have hA1 : h1.1 (k + 1) = xa_a 120 (fun _ => 0) := (oh1 _ (ne_kk (a := 1) (b := 12) (by decide))).trans hA1
  have hA2 : h1.1 (k + 2) = xa_a 2 (fun _ => 0) := (oh1 _ (ne_kk (a := 2) (b := 12) (by decide))).trans hA2
  have hA3 : h1.1 (k + 3) = xa_a 18 (fun _ => 0) := (oh1 _ (ne_kk (a := 3) (b := 12) (by decide))).trans hA3
  have hA4 : h1.1 (k + 4) = xa_a 2 (fun _ => 0) := (oh1 _ (ne_kk (a := 4) (b := 12) (by decide))).trans hA4
  have hA5 : h1.1 (k + 5) = xa_a 4 (fun _ => 0) := (oh1 _ (ne_kk (a := 5) (b := 12) (by decide))).trans hA5
  have hA6 : h1.1 (k + 6) = xa_a 4 (fun _ => 0) := (oh1 _ (ne_kk (a := 6) (b := 12) (by decide))).trans hA6
  have hA7 : h1.1 (k + 7) = xa_a 2 (fun _ => 0) := (oh1 _ (ne_kk (a := 7) (b := 12) (by decide))).trans hA7
  have hA8 : h1.1 (k + 8) = xa_a 2 (fun _ => 0) := (oh1 _ (ne_kk (a := 8) (b := 12) (by decide))).trans hA8
  have hA9 : h1.1 (k + 9) = xa_a 12 (fun _ => 0) := (oh1 _ (ne_kk (a := 9) (b := 12) (by decide))).trans hA9
  have hA10 : h1.1 (k + 10) = xa_a 720 (fun _ => 0) := (oh1 _ (ne_kk (a := 10) (b := 12) (by decide))).trans hA10
  have hA11 : h1.1 (k + 11) = xa_a 3 (fun _ => 0) := (oh1 _ (ne_kk (a := 11) (b := 12) (by decide))).trans hA11
  have hA12 : h1.1 (k + 12) = xa_a 360 (fun _ => 0) := ch1
  have hcn : h1.2 = k + 13 := nh1
  have fr : ∀ i, i < k → h1.1 i = h0.1 i := fun i hi => (oh1 i (by omega)).trans (fr i hi)
  refine xa_putwF (pc := 92) [xa_i 0, xa_r (k + 1), xa_r (k + 2), xa_r (k + 3), xa_r (k + 4), xa_r (k + 5), xa_r (k + 6), xa_r (k + 7), xa_r (k + 8), xa_r (k + 9), xa_r (k + 10), xa_r (k + 11), xa_r (k + 12), xa_i 0, xa_i 0, xa_i 0, xa_n, xa_i 0, xa_i 0, xa_i 0, xa_i 0, xa_n, xa_n, xa_i 0, xa_n] dX10_init_92 rfl flRX10_43 plX10_12 (by omega) (by omega) hO trivial rfl rfl (fun h2 nh2 ch2 oh2 => ?_)
  have hO : h2.1 k = xa_o 10 [xa_i 0, xa_r (k + 1), xa_r (k + 2), xa_r (k + 3), xa_r (k + 4), xa_r (k + 5), xa_r (k + 6), xa_r (k + 7), xa_r (k + 8), xa_r (k + 9), xa_r (k + 10), xa_r (k + 11), xa_r (k + 12), xa_i 0, xa_i 0, xa_i 0, xa_n, xa_i 0, xa_i 0, xa_i 0, xa_i 0, xa_n, xa_n, xa_i 0, xa_n] := ch2
  have hA1 : h2.1 (k + 1) = xa_a 120 (fun _ => 0) := (oh2 _ (ne_kk (a := 1) (b := 0) (by decide))).trans hA1
  have hA2 : h2.1 (k + 2) = xa_a 2 (fun _ => 0) := (oh2 _ (ne_kk (a := 2) (b := 0) (by decide))).trans hA2
  have hA3 : h2.1 (k + 3) = xa_a 18 (fun _ => 0) := (oh2 _ (ne_kk (a := 3) (b := 0) (by decide))).trans hA3
  have hA4 : h2.1 (k + 4) = xa_a 2 (fun _ => 0) := (oh2 _ (ne_kk (a := 4) (b := 0) (by decide))).trans hA4
  have hA5 : h2.1 (k + 5) = xa_a 4 (fun _ => 0) := (oh2 _ (ne_kk (a := 5) (b := 0) (by decide))).trans hA5
  have hA6 : h2.1 (k + 6) = xa_a 4 (fun _ => 0) := (oh2 _ (ne_kk (a := 6) (b := 0) (by decide))).trans hA6
  have hA7 : h2.1 (k + 7) = xa_a 2 (fun _ => 0) := (oh2 _ (ne_kk (a := 7) (b := 0) (by decide))).trans hA7
  have hA8 : h2.1 (k + 8) = xa_a 2 (fun _ => 0) := (oh2 _ (ne_kk (a := 8) (b := 0) (by decide))).trans hA8
  have hA9 : h2.1 (k + 9) = xa_a 12 (fun _ => 0) := (oh2 _ (ne_kk (a := 9) (b := 0) (by decide))).trans hA9
  have hA10 : h2.1 (k + 10) = xa_a 720 (fun _ => 0) := (oh2 _ (ne_kk (a := 10) (b := 0) (by decide))).trans hA10
  have hA11 : h2.1 (k + 11) = xa_a 3 (fun _ => 0) := (oh2 _ (ne_kk (a := 11) (b := 0) (by decide))).trans hA11
  have hA12 : h2.1 (k + 12) = xa_a 360 (fun _ => 0) := (oh2 _ (ne_kk (a := 12) (b := 0) (by decide))).trans hA12
  have hcn : h2.2 = k + 13 := nh2.trans hcn
  have fr : ∀ i, i < k → h2.1 i = h0.1 i := fun i hi => (oh2 i (by omega)).trans (fr i hi)
  refine xa_aload_n (pc := 95) dX10_init_95 rfl ?_
  refine xa_iconst (pc := 96) dX10_init_96 ?_
  refine xa_newap (pc := 97) (mc0 := 3) (ms0 := 1166404) 3 (k + 13) hcn dX10_init_97 rfl (by decide) rfl rfl (fun h3 nh3 ch3 oh3 => ?_)
  have hO : h3.1 k = xa_o 10 [xa_i 0, xa_r (k + 1), xa_r (k + 2), xa_r (k + 3), xa_r (k + 4), xa_r (k + 5), xa_r (k + 6), xa_r (k + 7), xa_r (k + 8), xa_r (k + 9), xa_r (k + 10), xa_r (k + 11), xa_r (k + 12), xa_i 0, xa_i 0, xa_i 0, xa_n, xa_i 0, xa_i 0, xa_i 0, xa_i 0, xa_n, xa_n, xa_i 0, xa_n] := (oh3 _ (ne_kk (a := 0) (b := 13) (by decide))).trans hO
  have hA1 : h3.1 (k + 1) = xa_a 120 (fun _ => 0) := (oh3 _ (ne_kk (a := 1) (b := 13) (by decide))).trans hA1
  have hA2 : h3.1 (k + 2) = xa_a 2 (fun _ => 0) := (oh3 _ (ne_kk (a := 2) (b := 13) (by decide))).trans hA2
  have hA3 : h3.1 (k + 3) = xa_a 18 (fun _ => 0) := (oh3 _ (ne_kk (a := 3) (b := 13) (by decide))).trans hA3
  have hA4 : h3.1 (k + 4) = xa_a 2 (fun _ => 0) := (oh3 _ (ne_kk (a := 4) (b := 13) (by decide))).trans hA4
  have hA5 : h3.1 (k + 5) = xa_a 4 (fun _ => 0) := (oh3 _ (ne_kk (a := 5) (b := 13) (by decide))).trans hA5
  have hA6 : h3.1 (k + 6) = xa_a 4 (fun _ => 0) := (oh3 _ (ne_kk (a := 6) (b := 13) (by decide))).trans hA6
  have hA7 : h3.1 (k + 7) = xa_a 2 (fun _ => 0) := (oh3 _ (ne_kk (a := 7) (b := 13) (by decide))).trans hA7
  have hA8 : h3.1 (k + 8) = xa_a 2 (fun _ => 0) := (oh3 _ (ne_kk (a := 8) (b := 13) (by decide))).trans hA8
  have hA9 : h3.1 (k + 9) = xa_a 12 (fun _ => 0) := (oh3 _ (ne_kk (a := 9) (b := 13) (by decide))).trans hA9
  have hA10 : h3.1 (k + 10) = xa_a 720 (fun _ => 0) := (oh3 _ (ne_kk (a := 10) (b := 13) (by decide))).trans hA10
  have hA11 : h3.1 (k + 11) = xa_a 3 (fun _ => 0) := (oh3 _ (ne_kk (a := 11) (b := 13) (by decide))).trans hA11
  have hA12 : h3.1 (k + 12) = xa_a 360 (fun _ => 0) := (oh3 _ (ne_kk (a := 12) (b := 13) (by decide))).trans hA12
  have hA13 : h3.1 (k + 13) = xa_a 3 (fun _ => 0) := ch3
  have hcn : h3.2 = k + 14 := nh3
  have fr : ∀ i, i < k → h3.1 i = h0.1 i := fun i hi => (oh3 i (by omega)).trans (fr i hi)
  refine xa_putwF (pc := 99) [xa_i 0, xa_r (k + 1), xa_r (k + 2), xa_r (k + 3), xa_r (k + 4), xa_r (k + 5), xa_r (k + 6), xa_r (k + 7), xa_r (k + 8), xa_r (k + 9), xa_r (k + 10), xa_r (k + 11), xa_r (k + 12), xa_i 0, xa_i 0, xa_i 0, xa_r (k + 13), xa_i 0, xa_i 0, xa_i 0, xa_i 0, xa_n, xa_n, xa_i 0, xa_n] dX10_init_99 rfl flRX10_46 plX10_16 (by omega) (by omega) hO trivial rfl rfl (fun h4 nh4 ch4 oh4 => ?_)
  have hO : h4.1 k = xa_o 10 [xa_i 0, xa_r (k + 1), xa_r (k + 2), xa_r (k + 3), xa_r (k + 4), xa_r (k + 5), xa_r (k + 6), xa_r (k + 7), xa_r (k + 8), xa_r (k + 9), xa_r (k + 10), xa_r (k + 11), xa_r (k + 12), xa_i 0, xa_i 0, xa_i 0, xa_r (k + 13), xa_i 0, xa_i 0, xa_i 0, xa_i 0, xa_n, xa_n, xa_i 0, xa_n] := ch4
  have hA1 : h4.1 (k + 1) = xa_a 120 (fun _ => 0) := (oh4 _ (ne_kk (a := 1) (b := 0) (by decide))).trans hA1
  have hA2 : h4.1 (k + 2) = xa_a 2 (fun _ => 0) := (oh4 _ (ne_kk (a := 2) (b := 0) (by decide))).trans hA2
  have hA3 : h4.1 (k + 3) = xa_a 18 (fun _ => 0) := (oh4 _ (ne_kk (a := 3) (b := 0) (by decide))).trans hA3
  have hA4 : h4.1 (k + 4) = xa_a 2 (fun _ => 0) := (oh4 _ (ne_kk (a := 4) (b := 0) (by decide))).trans hA4
  have hA5 : h4.1 (k + 5) = xa_a 4 (fun _ => 0) := (oh4 _ (ne_kk (a := 5) (b := 0) (by decide))).trans hA5
  have hA6 : h4.1 (k + 6) = xa_a 4 (fun _ => 0) := (oh4 _ (ne_kk (a := 6) (b := 0) (by decide))).trans hA6
  have hA7 : h4.1 (k + 7) = xa_a 2 (fun _ => 0) := (oh4 _ (ne_kk (a := 7) (b := 0) (by decide))).trans hA7
  have hA8 : h4.1 (k + 8) = xa_a 2 (fun _ => 0) := (oh4 _ (ne_kk (a := 8) (b := 0) (by decide))).trans hA8
  have hA9 : h4.1 (k + 9) = xa_a 12 (fun _ => 0) := (oh4 _ (ne_kk (a := 9) (b := 0) (by decide))).trans hA9
  have hA10 : h4.1 (k + 10) = xa_a 720 (fun _ => 0) := (oh4 _ (ne_kk (a := 10) (b := 0) (by decide))).trans hA10
  have hA11 : h4.1 (k + 11) = xa_a 3 (fun _ => 0) := (oh4 _ (ne_kk (a := 11) (b := 0) (by decide))).trans hA11
  have hA12 : h4.1 (k + 12) = xa_a 360 (fun _ => 0) := (oh4 _ (ne_kk (a := 12) (b := 0) (by decide))).trans hA12
  have hA13 : h4.1 (k + 13) = xa_a 3 (fun _ => 0) := (oh4 _ (ne_kk (a := 13) (b := 0) (by decide))).trans hA13
  have hcn : h4.2 = k + 14 := nh4.trans hcn
  have fr : ∀ i, i < k → h4.1 i = h0.1 i := fun i hi => (oh4 i (by omega)).trans (fr i hi)
  exact c_Model_init_4 k hk hcn fr hO hA1 hA2 hA3 hA4 hA5 hA6 hA7 hA8 hA9 hA10 hA11 hA12 hA13
theorem c_Model_init_2 {G : xa_G} {h0 h : xa_H} (k : Nat) (hk : 2 ≤ k) (hcn : h.2 = k + 9) (fr : ∀ i, i < k → h.1 i = h0.1 i) (hO : h.1 k = xa_o 10 [xa_i 0, xa_r (k + 1), xa_r (k + 2), xa_r (k + 3), xa_r (k + 4), xa_r (k + 5), xa_r (k + 6), xa_r (k + 7), xa_r (k + 8), xa_n, xa_n, xa_n, xa_n, xa_i 0, xa_i 0, xa_i 0, xa_n, xa_i 0, xa_i 0, xa_i 0, xa_i 0, xa_n, xa_n, xa_i 0, xa_n]) (hA1 : h.1 (k + 1) = xa_a 120 (fun _ => 0)) (hA2 : h.1 (k + 2) = xa_a 2 (fun _ => 0)) (hA3 : h.1 (k + 3) = xa_a 18 (fun _ => 0)) (hA4 : h.1 (k + 4) = xa_a 2 (fun _ => 0)) (hA5 : h.1 (k + 5) = xa_a 4 (fun _ => 0)) (hA6 : h.1 (k + 6) = xa_a 4 (fun _ => 0)) (hA7 : h.1 (k + 7) = xa_a 2 (fun _ => 0)) (hA8 : h.1 (k + 8) = xa_a 2 (fun _ => 0))  : xa_W G mX10_init (xa_Z G (fun r h' => r = none ∧ xM h' k (xa_uF (xa_uF (xa_uF (xa_uF (xa_uF (fun _ _ => 0) 2 (xa_upf (fun _ => 0) 0 2)) 3 (xa_upf (xa_upf (xa_upf (xa_upf (xa_upf (xa_upf (fun _ => 0) 0 1) 1 1) 2 1) 3 1) 4 1) 5 1)) 4 (xa_upf (fun _ => 0) 0 1)) 5 (xa_upf (fun _ => 0) 0 10)) 8 (xa_upf (fun _ => 0) 0 10)) (xa_upf (fun _ => 0) 20 (-4)) ∧ h'.2 = k + 17 ∧ ∀ i, i < k → h'.1 i = h0.1 i)) 62 [some (xa_r k), none] [] h 8 1167502 := by
  refine xa_aload_n (pc := 62) dX10_init_62 rfl ?_
  refine xa_bipush (pc := 63) dX10_init_63 rfl ?_
  refine xa_newap (pc := 65) (mc0 := 7) (ms0 := 1167490) 12 (k + 9) hcn dX10_init_65 rfl (by decide) rfl rfl (fun h1 nh1 ch1 oh1 => ?_)
  have hO : h1.1 k = xa_o 10 [xa_i 0, xa_r (k + 1), xa_r (k + 2), xa_r (k + 3), xa_r (k + 4), xa_r (k + 5), xa_r (k + 6), xa_r (k + 7), xa_r (k + 8), xa_n, xa_n, xa_n, xa_n, xa_i 0, xa_i 0, xa_i 0, xa_n, xa_i 0, xa_i 0, xa_i 0, xa_i 0, xa_n, xa_n, xa_i 0, xa_n] := (oh1 _ (ne_kk (a := 0) (b := 9) (by decide))).trans hO
  have hA1 : h1.1 (k + 1) = xa_a 120 (fun _ => 0) := (oh1 _ (ne_kk (a := 1) (b := 9) (by decide))).trans hA1
  have hA2 : h1.1 (k + 2) = xa_a 2 (fun _ => 0) := (oh1 _ (ne_kk (a := 2) (b := 9) (by decide))).trans hA2
  have hA3 : h1.1 (k + 3) = xa_a 18 (fun _ => 0) := (oh1 _ (ne_kk (a := 3) (b := 9) (by decide))).trans hA3
  have hA4 : h1.1 (k + 4) = xa_a 2 (fun _ => 0) := (oh1 _ (ne_kk (a := 4) (b := 9) (by decide))).trans hA4
  have hA5 : h1.1 (k + 5) = xa_a 4 (fun _ => 0) := (oh1 _ (ne_kk (a := 5) (b := 9) (by decide))).trans hA5
  have hA6 : h1.1 (k + 6) = xa_a 4 (fun _ => 0) := (oh1 _ (ne_kk (a := 6) (b := 9) (by decide))).trans hA6
  have hA7 : h1.1 (k + 7) = xa_a 2 (fun _ => 0) := (oh1 _ (ne_kk (a := 7) (b := 9) (by decide))).trans hA7
  have hA8 : h1.1 (k + 8) = xa_a 2 (fun _ => 0) := (oh1 _ (ne_kk (a := 8) (b := 9) (by decide))).trans hA8
  have hA9 : h1.1 (k + 9) = xa_a 12 (fun _ => 0) := ch1
  have hcn : h1.2 = k + 10 := nh1
  have fr : ∀ i, i < k → h1.1 i = h0.1 i := fun i hi => (oh1 i (by omega)).trans (fr i hi)
  refine xa_putwF (pc := 67) [xa_i 0, xa_r (k + 1), xa_r (k + 2), xa_r (k + 3), xa_r (k + 4), xa_r (k + 5), xa_r (k + 6), xa_r (k + 7), xa_r (k + 8), xa_r (k + 9), xa_n, xa_n, xa_n, xa_i 0, xa_i 0, xa_i 0, xa_n, xa_i 0, xa_i 0, xa_i 0, xa_i 0, xa_n, xa_n, xa_i 0, xa_n] dX10_init_67 rfl flRX10_34 plX10_9 (by omega) (by omega) hO trivial rfl rfl (fun h2 nh2 ch2 oh2 => ?_)
  have hO : h2.1 k = xa_o 10 [xa_i 0, xa_r (k + 1), xa_r (k + 2), xa_r (k + 3), xa_r (k + 4), xa_r (k + 5), xa_r (k + 6), xa_r (k + 7), xa_r (k + 8), xa_r (k + 9), xa_n, xa_n, xa_n, xa_i 0, xa_i 0, xa_i 0, xa_n, xa_i 0, xa_i 0, xa_i 0, xa_i 0, xa_n, xa_n, xa_i 0, xa_n] := ch2
  have hA1 : h2.1 (k + 1) = xa_a 120 (fun _ => 0) := (oh2 _ (ne_kk (a := 1) (b := 0) (by decide))).trans hA1
  have hA2 : h2.1 (k + 2) = xa_a 2 (fun _ => 0) := (oh2 _ (ne_kk (a := 2) (b := 0) (by decide))).trans hA2
  have hA3 : h2.1 (k + 3) = xa_a 18 (fun _ => 0) := (oh2 _ (ne_kk (a := 3) (b := 0) (by decide))).trans hA3
  have hA4 : h2.1 (k + 4) = xa_a 2 (fun _ => 0) := (oh2 _ (ne_kk (a := 4) (b := 0) (by decide))).trans hA4
  have hA5 : h2.1 (k + 5) = xa_a 4 (fun _ => 0) := (oh2 _ (ne_kk (a := 5) (b := 0) (by decide))).trans hA5
  have hA6 : h2.1 (k + 6) = xa_a 4 (fun _ => 0) := (oh2 _ (ne_kk (a := 6) (b := 0) (by decide))).trans hA6
  have hA7 : h2.1 (k + 7) = xa_a 2 (fun _ => 0) := (oh2 _ (ne_kk (a := 7) (b := 0) (by decide))).trans hA7
  have hA8 : h2.1 (k + 8) = xa_a 2 (fun _ => 0) := (oh2 _ (ne_kk (a := 8) (b := 0) (by decide))).trans hA8
  have hA9 : h2.1 (k + 9) = xa_a 12 (fun _ => 0) := (oh2 _ (ne_kk (a := 9) (b := 0) (by decide))).trans hA9
  have hcn : h2.2 = k + 10 := nh2.trans hcn
  have fr : ∀ i, i < k → h2.1 i = h0.1 i := fun i hi => (oh2 i (by omega)).trans (fr i hi)
  refine xa_aload_n (pc := 70) dX10_init_70 rfl ?_
  refine xa_sipush (pc := 71) dX10_init_71 rfl ?_
  refine xa_newap (pc := 74) (mc0 := 6) (ms0 := 1166770) 720 (k + 10) hcn dX10_init_74 rfl (by decide) rfl rfl (fun h3 nh3 ch3 oh3 => ?_)
  have hO : h3.1 k = xa_o 10 [xa_i 0, xa_r (k + 1), xa_r (k + 2), xa_r (k + 3), xa_r (k + 4), xa_r (k + 5), xa_r (k + 6), xa_r (k + 7), xa_r (k + 8), xa_r (k + 9), xa_n, xa_n, xa_n, xa_i 0, xa_i 0, xa_i 0, xa_n, xa_i 0, xa_i 0, xa_i 0, xa_i 0, xa_n, xa_n, xa_i 0, xa_n] := (oh3 _ (ne_kk (a := 0) (b := 10) (by decide))).trans hO
  have hA1 : h3.1 (k + 1) = xa_a 120 (fun _ => 0) := (oh3 _ (ne_kk (a := 1) (b := 10) (by decide))).trans hA1
  have hA2 : h3.1 (k + 2) = xa_a 2 (fun _ => 0) := (oh3 _ (ne_kk (a := 2) (b := 10) (by decide))).trans hA2
  have hA3 : h3.1 (k + 3) = xa_a 18 (fun _ => 0) := (oh3 _ (ne_kk (a := 3) (b := 10) (by decide))).trans hA3
  have hA4 : h3.1 (k + 4) = xa_a 2 (fun _ => 0) := (oh3 _ (ne_kk (a := 4) (b := 10) (by decide))).trans hA4
  have hA5 : h3.1 (k + 5) = xa_a 4 (fun _ => 0) := (oh3 _ (ne_kk (a := 5) (b := 10) (by decide))).trans hA5
  have hA6 : h3.1 (k + 6) = xa_a 4 (fun _ => 0) := (oh3 _ (ne_kk (a := 6) (b := 10) (by decide))).trans hA6
  have hA7 : h3.1 (k + 7) = xa_a 2 (fun _ => 0) := (oh3 _ (ne_kk (a := 7) (b := 10) (by decide))).trans hA7
  have hA8 : h3.1 (k + 8) = xa_a 2 (fun _ => 0) := (oh3 _ (ne_kk (a := 8) (b := 10) (by decide))).trans hA8
  have hA9 : h3.1 (k + 9) = xa_a 12 (fun _ => 0) := (oh3 _ (ne_kk (a := 9) (b := 10) (by decide))).trans hA9
  have hA10 : h3.1 (k + 10) = xa_a 720 (fun _ => 0) := ch3
  have hcn : h3.2 = k + 11 := nh3
  have fr : ∀ i, i < k → h3.1 i = h0.1 i := fun i hi => (oh3 i (by omega)).trans (fr i hi)
  refine xa_putwF (pc := 76) [xa_i 0, xa_r (k + 1), xa_r (k + 2), xa_r (k + 3), xa_r (k + 4), xa_r (k + 5), xa_r (k + 6), xa_r (k + 7), xa_r (k + 8), xa_r (k + 9), xa_r (k + 10), xa_n, xa_n, xa_i 0, xa_i 0, xa_i 0, xa_n, xa_i 0, xa_i 0, xa_i 0, xa_i 0, xa_n, xa_n, xa_i 0, xa_n] dX10_init_76 rfl flRX10_37 plX10_10 (by omega) (by omega) hO trivial rfl rfl (fun h4 nh4 ch4 oh4 => ?_)
  have hO : h4.1 k = xa_o 10 [xa_i 0, xa_r (k + 1), xa_r (k + 2), xa_r (k + 3), xa_r (k + 4), xa_r (k + 5), xa_r (k + 6), xa_r (k + 7), xa_r (k + 8), xa_r (k + 9), xa_r (k + 10), xa_n, xa_n, xa_i 0, xa_i 0, xa_i 0, xa_n, xa_i 0, xa_i 0, xa_i 0, xa_i 0, xa_n, xa_n, xa_i 0, xa_n] := ch4
  have hA1 : h4.1 (k + 1) = xa_a 120 (fun _ => 0) := (oh4 _ (ne_kk (a := 1) (b := 0) (by decide))).trans hA1
  have hA2 : h4.1 (k + 2) = xa_a 2 (fun _ => 0) := (oh4 _ (ne_kk (a := 2) (b := 0) (by decide))).trans hA2
  have hA3 : h4.1 (k + 3) = xa_a 18 (fun _ => 0) := (oh4 _ (ne_kk (a := 3) (b := 0) (by decide))).trans hA3
  have hA4 : h4.1 (k + 4) = xa_a 2 (fun _ => 0) := (oh4 _ (ne_kk (a := 4) (b := 0) (by decide))).trans hA4
  have hA5 : h4.1 (k + 5) = xa_a 4 (fun _ => 0) := (oh4 _ (ne_kk (a := 5) (b := 0) (by decide))).trans hA5
  have hA6 : h4.1 (k + 6) = xa_a 4 (fun _ => 0) := (oh4 _ (ne_kk (a := 6) (b := 0) (by decide))).trans hA6
  have hA7 : h4.1 (k + 7) = xa_a 2 (fun _ => 0) := (oh4 _ (ne_kk (a := 7) (b := 0) (by decide))).trans hA7
  have hA8 : h4.1 (k + 8) = xa_a 2 (fun _ => 0) := (oh4 _ (ne_kk (a := 8) (b := 0) (by decide))).trans hA8
  have hA9 : h4.1 (k + 9) = xa_a 12 (fun _ => 0) := (oh4 _ (ne_kk (a := 9) (b := 0) (by decide))).trans hA9
  have hA10 : h4.1 (k + 10) = xa_a 720 (fun _ => 0) := (oh4 _ (ne_kk (a := 10) (b := 0) (by decide))).trans hA10
  have hcn : h4.2 = k + 11 := nh4.trans hcn
  have fr : ∀ i, i < k → h4.1 i = h0.1 i := fun i hi => (oh4 i (by omega)).trans (fr i hi)
  refine xa_aload_n (pc := 79) dX10_init_79 rfl ?_
  refine xa_iconst (pc := 80) dX10_init_80 ?_
  refine xa_newap (pc := 81) (mc0 := 5) (ms0 := 1166767) 3 (k + 11) hcn dX10_init_81 rfl (by decide) rfl rfl (fun h5 nh5 ch5 oh5 => ?_)
  have hO : h5.1 k = xa_o 10 [xa_i 0, xa_r (k + 1), xa_r (k + 2), xa_r (k + 3), xa_r (k + 4), xa_r (k + 5), xa_r (k + 6), xa_r (k + 7), xa_r (k + 8), xa_r (k + 9), xa_r (k + 10), xa_n, xa_n, xa_i 0, xa_i 0, xa_i 0, xa_n, xa_i 0, xa_i 0, xa_i 0, xa_i 0, xa_n, xa_n, xa_i 0, xa_n] := (oh5 _ (ne_kk (a := 0) (b := 11) (by decide))).trans hO
  have hA1 : h5.1 (k + 1) = xa_a 120 (fun _ => 0) := (oh5 _ (ne_kk (a := 1) (b := 11) (by decide))).trans hA1
  have hA2 : h5.1 (k + 2) = xa_a 2 (fun _ => 0) := (oh5 _ (ne_kk (a := 2) (b := 11) (by decide))).trans hA2
  have hA3 : h5.1 (k + 3) = xa_a 18 (fun _ => 0) := (oh5 _ (ne_kk (a := 3) (b := 11) (by decide))).trans hA3
  have hA4 : h5.1 (k + 4) = xa_a 2 (fun _ => 0) := (oh5 _ (ne_kk (a := 4) (b := 11) (by decide))).trans hA4
  have hA5 : h5.1 (k + 5) = xa_a 4 (fun _ => 0) := (oh5 _ (ne_kk (a := 5) (b := 11) (by decide))).trans hA5
  have hA6 : h5.1 (k + 6) = xa_a 4 (fun _ => 0) := (oh5 _ (ne_kk (a := 6) (b := 11) (by decide))).trans hA6
  have hA7 : h5.1 (k + 7) = xa_a 2 (fun _ => 0) := (oh5 _ (ne_kk (a := 7) (b := 11) (by decide))).trans hA7
  have hA8 : h5.1 (k + 8) = xa_a 2 (fun _ => 0) := (oh5 _ (ne_kk (a := 8) (b := 11) (by decide))).trans hA8
  have hA9 : h5.1 (k + 9) = xa_a 12 (fun _ => 0) := (oh5 _ (ne_kk (a := 9) (b := 11) (by decide))).trans hA9
  have hA10 : h5.1 (k + 10) = xa_a 720 (fun _ => 0) := (oh5 _ (ne_kk (a := 10) (b := 11) (by decide))).trans hA10
  have hA11 : h5.1 (k + 11) = xa_a 3 (fun _ => 0) := ch5
  have hcn : h5.2 = k + 12 := nh5
  have fr : ∀ i, i < k → h5.1 i = h0.1 i := fun i hi => (oh5 i (by omega)).trans (fr i hi)
  refine xa_putwF (pc := 83) [xa_i 0, xa_r (k + 1), xa_r (k + 2), xa_r (k + 3), xa_r (k + 4), xa_r (k + 5), xa_r (k + 6), xa_r (k + 7), xa_r (k + 8), xa_r (k + 9), xa_r (k + 10), xa_r (k + 11), xa_n, xa_i 0, xa_i 0, xa_i 0, xa_n, xa_i 0, xa_i 0, xa_i 0, xa_i 0, xa_n, xa_n, xa_i 0, xa_n] dX10_init_83 rfl flRX10_40 plX10_11 (by omega) (by omega) hO trivial rfl rfl (fun h6 nh6 ch6 oh6 => ?_)
  have hO : h6.1 k = xa_o 10 [xa_i 0, xa_r (k + 1), xa_r (k + 2), xa_r (k + 3), xa_r (k + 4), xa_r (k + 5), xa_r (k + 6), xa_r (k + 7), xa_r (k + 8), xa_r (k + 9), xa_r (k + 10), xa_r (k + 11), xa_n, xa_i 0, xa_i 0, xa_i 0, xa_n, xa_i 0, xa_i 0, xa_i 0, xa_i 0, xa_n, xa_n, xa_i 0, xa_n] := ch6
  have hA1 : h6.1 (k + 1) = xa_a 120 (fun _ => 0) := (oh6 _ (ne_kk (a := 1) (b := 0) (by decide))).trans hA1
  have hA2 : h6.1 (k + 2) = xa_a 2 (fun _ => 0) := (oh6 _ (ne_kk (a := 2) (b := 0) (by decide))).trans hA2
  have hA3 : h6.1 (k + 3) = xa_a 18 (fun _ => 0) := (oh6 _ (ne_kk (a := 3) (b := 0) (by decide))).trans hA3
  have hA4 : h6.1 (k + 4) = xa_a 2 (fun _ => 0) := (oh6 _ (ne_kk (a := 4) (b := 0) (by decide))).trans hA4
  have hA5 : h6.1 (k + 5) = xa_a 4 (fun _ => 0) := (oh6 _ (ne_kk (a := 5) (b := 0) (by decide))).trans hA5
  have hA6 : h6.1 (k + 6) = xa_a 4 (fun _ => 0) := (oh6 _ (ne_kk (a := 6) (b := 0) (by decide))).trans hA6
  have hA7 : h6.1 (k + 7) = xa_a 2 (fun _ => 0) := (oh6 _ (ne_kk (a := 7) (b := 0) (by decide))).trans hA7
  have hA8 : h6.1 (k + 8) = xa_a 2 (fun _ => 0) := (oh6 _ (ne_kk (a := 8) (b := 0) (by decide))).trans hA8
  have hA9 : h6.1 (k + 9) = xa_a 12 (fun _ => 0) := (oh6 _ (ne_kk (a := 9) (b := 0) (by decide))).trans hA9
  have hA10 : h6.1 (k + 10) = xa_a 720 (fun _ => 0) := (oh6 _ (ne_kk (a := 10) (b := 0) (by decide))).trans hA10
  have hA11 : h6.1 (k + 11) = xa_a 3 (fun _ => 0) := (oh6 _ (ne_kk (a := 11) (b := 0) (by decide))).trans hA11
  have hcn : h6.2 = k + 12 := nh6.trans hcn
  have fr : ∀ i, i < k → h6.1 i = h0.1 i := fun i hi => (oh6 i (by omega)).trans (fr i hi)
  exact c_Model_init_3 k hk hcn fr hO hA1 hA2 hA3 hA4 hA5 hA6 hA7 hA8 hA9 hA10 hA11
theorem c_Model_init_1 {G : xa_G} {h0 h : xa_H} (k : Nat) (hk : 2 ≤ k) (hcn : h.2 = k + 5) (fr : ∀ i, i < k → h.1 i = h0.1 i) (hO : h.1 k = xa_o 10 [xa_i 0, xa_r (k + 1), xa_r (k + 2), xa_r (k + 3), xa_r (k + 4), xa_n, xa_n, xa_n, xa_n, xa_n, xa_n, xa_n, xa_n, xa_i 0, xa_i 0, xa_i 0, xa_n, xa_i 0, xa_i 0, xa_i 0, xa_i 0, xa_n, xa_n, xa_i 0, xa_n]) (hA1 : h.1 (k + 1) = xa_a 120 (fun _ => 0)) (hA2 : h.1 (k + 2) = xa_a 2 (fun _ => 0)) (hA3 : h.1 (k + 3) = xa_a 18 (fun _ => 0)) (hA4 : h.1 (k + 4) = xa_a 2 (fun _ => 0))  : xa_W G mX10_init (xa_Z G (fun r h' => r = none ∧ xM h' k (xa_uF (xa_uF (xa_uF (xa_uF (xa_uF (fun _ _ => 0) 2 (xa_upf (fun _ => 0) 0 2)) 3 (xa_upf (xa_upf (xa_upf (xa_upf (xa_upf (xa_upf (fun _ => 0) 0 1) 1 1) 2 1) 3 1) 4 1) 5 1)) 4 (xa_upf (fun _ => 0) 0 1)) 5 (xa_upf (fun _ => 0) 0 10)) 8 (xa_upf (fun _ => 0) 0 10)) (xa_upf (fun _ => 0) 20 (-4)) ∧ h'.2 = k + 17 ∧ ∀ i, i < k → h'.1 i = h0.1 i)) 34 [some (xa_r k), none] [] h 12 1167514 := by
  refine xa_aload_n (pc := 34) dX10_init_34 rfl ?_
  refine xa_iconst (pc := 35) dX10_init_35 ?_
  refine xa_newap (pc := 36) (mc0 := 11) (ms0 := 1167510) 4 (k + 5) hcn dX10_init_36 rfl (by decide) rfl rfl (fun h1 nh1 ch1 oh1 => ?_)
  have hO : h1.1 k = xa_o 10 [xa_i 0, xa_r (k + 1), xa_r (k + 2), xa_r (k + 3), xa_r (k + 4), xa_n, xa_n, xa_n, xa_n, xa_n, xa_n, xa_n, xa_n, xa_i 0, xa_i 0, xa_i 0, xa_n, xa_i 0, xa_i 0, xa_i 0, xa_i 0, xa_n, xa_n, xa_i 0, xa_n] := (oh1 _ (ne_kk (a := 0) (b := 5) (by decide))).trans hO
  have hA1 : h1.1 (k + 1) = xa_a 120 (fun _ => 0) := (oh1 _ (ne_kk (a := 1) (b := 5) (by decide))).trans hA1
  have hA2 : h1.1 (k + 2) = xa_a 2 (fun _ => 0) := (oh1 _ (ne_kk (a := 2) (b := 5) (by decide))).trans hA2
  have hA3 : h1.1 (k + 3) = xa_a 18 (fun _ => 0) := (oh1 _ (ne_kk (a := 3) (b := 5) (by decide))).trans hA3
  have hA4 : h1.1 (k + 4) = xa_a 2 (fun _ => 0) := (oh1 _ (ne_kk (a := 4) (b := 5) (by decide))).trans hA4
  have hA5 : h1.1 (k + 5) = xa_a 4 (fun _ => 0) := ch1
  have hcn : h1.2 = k + 6 := nh1
  have fr : ∀ i, i < k → h1.1 i = h0.1 i := fun i hi => (oh1 i (by omega)).trans (fr i hi)
  refine xa_putwF (pc := 38) [xa_i 0, xa_r (k + 1), xa_r (k + 2), xa_r (k + 3), xa_r (k + 4), xa_r (k + 5), xa_n, xa_n, xa_n, xa_n, xa_n, xa_n, xa_n, xa_i 0, xa_i 0, xa_i 0, xa_n, xa_i 0, xa_i 0, xa_i 0, xa_i 0, xa_n, xa_n, xa_i 0, xa_n] dX10_init_38 rfl flRX10_22 plX10_5 (by omega) (by omega) hO trivial rfl rfl (fun h2 nh2 ch2 oh2 => ?_)
  have hO : h2.1 k = xa_o 10 [xa_i 0, xa_r (k + 1), xa_r (k + 2), xa_r (k + 3), xa_r (k + 4), xa_r (k + 5), xa_n, xa_n, xa_n, xa_n, xa_n, xa_n, xa_n, xa_i 0, xa_i 0, xa_i 0, xa_n, xa_i 0, xa_i 0, xa_i 0, xa_i 0, xa_n, xa_n, xa_i 0, xa_n] := ch2
  have hA1 : h2.1 (k + 1) = xa_a 120 (fun _ => 0) := (oh2 _ (ne_kk (a := 1) (b := 0) (by decide))).trans hA1
  have hA2 : h2.1 (k + 2) = xa_a 2 (fun _ => 0) := (oh2 _ (ne_kk (a := 2) (b := 0) (by decide))).trans hA2
  have hA3 : h2.1 (k + 3) = xa_a 18 (fun _ => 0) := (oh2 _ (ne_kk (a := 3) (b := 0) (by decide))).trans hA3
  have hA4 : h2.1 (k + 4) = xa_a 2 (fun _ => 0) := (oh2 _ (ne_kk (a := 4) (b := 0) (by decide))).trans hA4
  have hA5 : h2.1 (k + 5) = xa_a 4 (fun _ => 0) := (oh2 _ (ne_kk (a := 5) (b := 0) (by decide))).trans hA5
  have hcn : h2.2 = k + 6 := nh2.trans hcn
  have fr : ∀ i, i < k → h2.1 i = h0.1 i := fun i hi => (oh2 i (by omega)).trans (fr i hi)
  refine xa_aload_n (pc := 41) dX10_init_41 rfl ?_
  refine xa_iconst (pc := 42) dX10_init_42 ?_
  refine xa_newap (pc := 43) (mc0 := 10) (ms0 := 1167506) 4 (k + 6) hcn dX10_init_43 rfl (by decide) rfl rfl (fun h3 nh3 ch3 oh3 => ?_)
  have hO : h3.1 k = xa_o 10 [xa_i 0, xa_r (k + 1), xa_r (k + 2), xa_r (k + 3), xa_r (k + 4), xa_r (k + 5), xa_n, xa_n, xa_n, xa_n, xa_n, xa_n, xa_n, xa_i 0, xa_i 0, xa_i 0, xa_n, xa_i 0, xa_i 0, xa_i 0, xa_i 0, xa_n, xa_n, xa_i 0, xa_n] := (oh3 _ (ne_kk (a := 0) (b := 6) (by decide))).trans hO
  have hA1 : h3.1 (k + 1) = xa_a 120 (fun _ => 0) := (oh3 _ (ne_kk (a := 1) (b := 6) (by decide))).trans hA1
  have hA2 : h3.1 (k + 2) = xa_a 2 (fun _ => 0) := (oh3 _ (ne_kk (a := 2) (b := 6) (by decide))).trans hA2
  have hA3 : h3.1 (k + 3) = xa_a 18 (fun _ => 0) := (oh3 _ (ne_kk (a := 3) (b := 6) (by decide))).trans hA3
  have hA4 : h3.1 (k + 4) = xa_a 2 (fun _ => 0) := (oh3 _ (ne_kk (a := 4) (b := 6) (by decide))).trans hA4
  have hA5 : h3.1 (k + 5) = xa_a 4 (fun _ => 0) := (oh3 _ (ne_kk (a := 5) (b := 6) (by decide))).trans hA5
  have hA6 : h3.1 (k + 6) = xa_a 4 (fun _ => 0) := ch3
  have hcn : h3.2 = k + 7 := nh3
  have fr : ∀ i, i < k → h3.1 i = h0.1 i := fun i hi => (oh3 i (by omega)).trans (fr i hi)
  refine xa_putwF (pc := 45) [xa_i 0, xa_r (k + 1), xa_r (k + 2), xa_r (k + 3), xa_r (k + 4), xa_r (k + 5), xa_r (k + 6), xa_n, xa_n, xa_n, xa_n, xa_n, xa_n, xa_i 0, xa_i 0, xa_i 0, xa_n, xa_i 0, xa_i 0, xa_i 0, xa_i 0, xa_n, xa_n, xa_i 0, xa_n] dX10_init_45 rfl flRX10_25 plX10_6 (by omega) (by omega) hO trivial rfl rfl (fun h4 nh4 ch4 oh4 => ?_)
  have hO : h4.1 k = xa_o 10 [xa_i 0, xa_r (k + 1), xa_r (k + 2), xa_r (k + 3), xa_r (k + 4), xa_r (k + 5), xa_r (k + 6), xa_n, xa_n, xa_n, xa_n, xa_n, xa_n, xa_i 0, xa_i 0, xa_i 0, xa_n, xa_i 0, xa_i 0, xa_i 0, xa_i 0, xa_n, xa_n, xa_i 0, xa_n] := ch4
  have hA1 : h4.1 (k + 1) = xa_a 120 (fun _ => 0) := (oh4 _ (ne_kk (a := 1) (b := 0) (by decide))).trans hA1
  have hA2 : h4.1 (k + 2) = xa_a 2 (fun _ => 0) := (oh4 _ (ne_kk (a := 2) (b := 0) (by decide))).trans hA2
  have hA3 : h4.1 (k + 3) = xa_a 18 (fun _ => 0) := (oh4 _ (ne_kk (a := 3) (b := 0) (by decide))).trans hA3
  have hA4 : h4.1 (k + 4) = xa_a 2 (fun _ => 0) := (oh4 _ (ne_kk (a := 4) (b := 0) (by decide))).trans hA4
  have hA5 : h4.1 (k + 5) = xa_a 4 (fun _ => 0) := (oh4 _ (ne_kk (a := 5) (b := 0) (by decide))).trans hA5
  have hA6 : h4.1 (k + 6) = xa_a 4 (fun _ => 0) := (oh4 _ (ne_kk (a := 6) (b := 0) (by decide))).trans hA6
  have hcn : h4.2 = k + 7 := nh4.trans hcn
  have fr : ∀ i, i < k → h4.1 i = h0.1 i := fun i hi => (oh4 i (by omega)).trans (fr i hi)
  refine xa_aload_n (pc := 48) dX10_init_48 rfl ?_
  refine xa_iconst (pc := 49) dX10_init_49 ?_
  refine xa_newap (pc := 50) (mc0 := 9) (ms0 := 1167504) 2 (k + 7) hcn dX10_init_50 rfl (by decide) rfl rfl (fun h5 nh5 ch5 oh5 => ?_)
  have hO : h5.1 k = xa_o 10 [xa_i 0, xa_r (k + 1), xa_r (k + 2), xa_r (k + 3), xa_r (k + 4), xa_r (k + 5), xa_r (k + 6), xa_n, xa_n, xa_n, xa_n, xa_n, xa_n, xa_i 0, xa_i 0, xa_i 0, xa_n, xa_i 0, xa_i 0, xa_i 0, xa_i 0, xa_n, xa_n, xa_i 0, xa_n] := (oh5 _ (ne_kk (a := 0) (b := 7) (by decide))).trans hO
  have hA1 : h5.1 (k + 1) = xa_a 120 (fun _ => 0) := (oh5 _ (ne_kk (a := 1) (b := 7) (by decide))).trans hA1
  have hA2 : h5.1 (k + 2) = xa_a 2 (fun _ => 0) := (oh5 _ (ne_kk (a := 2) (b := 7) (by decide))).trans hA2
  have hA3 : h5.1 (k + 3) = xa_a 18 (fun _ => 0) := (oh5 _ (ne_kk (a := 3) (b := 7) (by decide))).trans hA3
  have hA4 : h5.1 (k + 4) = xa_a 2 (fun _ => 0) := (oh5 _ (ne_kk (a := 4) (b := 7) (by decide))).trans hA4
  have hA5 : h5.1 (k + 5) = xa_a 4 (fun _ => 0) := (oh5 _ (ne_kk (a := 5) (b := 7) (by decide))).trans hA5
  have hA6 : h5.1 (k + 6) = xa_a 4 (fun _ => 0) := (oh5 _ (ne_kk (a := 6) (b := 7) (by decide))).trans hA6
  have hA7 : h5.1 (k + 7) = xa_a 2 (fun _ => 0) := ch5
  have hcn : h5.2 = k + 8 := nh5
  have fr : ∀ i, i < k → h5.1 i = h0.1 i := fun i hi => (oh5 i (by omega)).trans (fr i hi)
  refine xa_putwF (pc := 52) [xa_i 0, xa_r (k + 1), xa_r (k + 2), xa_r (k + 3), xa_r (k + 4), xa_r (k + 5), xa_r (k + 6), xa_r (k + 7), xa_n, xa_n, xa_n, xa_n, xa_n, xa_i 0, xa_i 0, xa_i 0, xa_n, xa_i 0, xa_i 0, xa_i 0, xa_i 0, xa_n, xa_n, xa_i 0, xa_n] dX10_init_52 rfl flRX10_28 plX10_7 (by omega) (by omega) hO trivial rfl rfl (fun h6 nh6 ch6 oh6 => ?_)
  have hO : h6.1 k = xa_o 10 [xa_i 0, xa_r (k + 1), xa_r (k + 2), xa_r (k + 3), xa_r (k + 4), xa_r (k + 5), xa_r (k + 6), xa_r (k + 7), xa_n, xa_n, xa_n, xa_n, xa_n, xa_i 0, xa_i 0, xa_i 0, xa_n, xa_i 0, xa_i 0, xa_i 0, xa_i 0, xa_n, xa_n, xa_i 0, xa_n] := ch6
  have hA1 : h6.1 (k + 1) = xa_a 120 (fun _ => 0) := (oh6 _ (ne_kk (a := 1) (b := 0) (by decide))).trans hA1
  have hA2 : h6.1 (k + 2) = xa_a 2 (fun _ => 0) := (oh6 _ (ne_kk (a := 2) (b := 0) (by decide))).trans hA2
  have hA3 : h6.1 (k + 3) = xa_a 18 (fun _ => 0) := (oh6 _ (ne_kk (a := 3) (b := 0) (by decide))).trans hA3
  have hA4 : h6.1 (k + 4) = xa_a 2 (fun _ => 0) := (oh6 _ (ne_kk (a := 4) (b := 0) (by decide))).trans hA4
  have hA5 : h6.1 (k + 5) = xa_a 4 (fun _ => 0) := (oh6 _ (ne_kk (a := 5) (b := 0) (by decide))).trans hA5
  have hA6 : h6.1 (k + 6) = xa_a 4 (fun _ => 0) := (oh6 _ (ne_kk (a := 6) (b := 0) (by decide))).trans hA6
  have hA7 : h6.1 (k + 7) = xa_a 2 (fun _ => 0) := (oh6 _ (ne_kk (a := 7) (b := 0) (by decide))).trans hA7
  have hcn : h6.2 = k + 8 := nh6.trans hcn
  have fr : ∀ i, i < k → h6.1 i = h0.1 i := fun i hi => (oh6 i (by omega)).trans (fr i hi)
  refine xa_aload_n (pc := 55) dX10_init_55 rfl ?_
  refine xa_iconst (pc := 56) dX10_init_56 ?_
  refine xa_newap (pc := 57) (mc0 := 8) (ms0 := 1167502) 2 (k + 8) hcn dX10_init_57 rfl (by decide) rfl rfl (fun h7 nh7 ch7 oh7 => ?_)
  have hO : h7.1 k = xa_o 10 [xa_i 0, xa_r (k + 1), xa_r (k + 2), xa_r (k + 3), xa_r (k + 4), xa_r (k + 5), xa_r (k + 6), xa_r (k + 7), xa_n, xa_n, xa_n, xa_n, xa_n, xa_i 0, xa_i 0, xa_i 0, xa_n, xa_i 0, xa_i 0, xa_i 0, xa_i 0, xa_n, xa_n, xa_i 0, xa_n] := (oh7 _ (ne_kk (a := 0) (b := 8) (by decide))).trans hO
  have hA1 : h7.1 (k + 1) = xa_a 120 (fun _ => 0) := (oh7 _ (ne_kk (a := 1) (b := 8) (by decide))).trans hA1
  have hA2 : h7.1 (k + 2) = xa_a 2 (fun _ => 0) := (oh7 _ (ne_kk (a := 2) (b := 8) (by decide))).trans hA2
  have hA3 : h7.1 (k + 3) = xa_a 18 (fun _ => 0) := (oh7 _ (ne_kk (a := 3) (b := 8) (by decide))).trans hA3
  have hA4 : h7.1 (k + 4) = xa_a 2 (fun _ => 0) := (oh7 _ (ne_kk (a := 4) (b := 8) (by decide))).trans hA4
  have hA5 : h7.1 (k + 5) = xa_a 4 (fun _ => 0) := (oh7 _ (ne_kk (a := 5) (b := 8) (by decide))).trans hA5
  have hA6 : h7.1 (k + 6) = xa_a 4 (fun _ => 0) := (oh7 _ (ne_kk (a := 6) (b := 8) (by decide))).trans hA6
  have hA7 : h7.1 (k + 7) = xa_a 2 (fun _ => 0) := (oh7 _ (ne_kk (a := 7) (b := 8) (by decide))).trans hA7
  have hA8 : h7.1 (k + 8) = xa_a 2 (fun _ => 0) := ch7
  have hcn : h7.2 = k + 9 := nh7
  have fr : ∀ i, i < k → h7.1 i = h0.1 i := fun i hi => (oh7 i (by omega)).trans (fr i hi)
  refine xa_putwF (pc := 59) [xa_i 0, xa_r (k + 1), xa_r (k + 2), xa_r (k + 3), xa_r (k + 4), xa_r (k + 5), xa_r (k + 6), xa_r (k + 7), xa_r (k + 8), xa_n, xa_n, xa_n, xa_n, xa_i 0, xa_i 0, xa_i 0, xa_n, xa_i 0, xa_i 0, xa_i 0, xa_i 0, xa_n, xa_n, xa_i 0, xa_n] dX10_init_59 rfl flRX10_31 plX10_8 (by omega) (by omega) hO trivial rfl rfl (fun h8 nh8 ch8 oh8 => ?_)
  have hO : h8.1 k = xa_o 10 [xa_i 0, xa_r (k + 1), xa_r (k + 2), xa_r (k + 3), xa_r (k + 4), xa_r (k + 5), xa_r (k + 6), xa_r (k + 7), xa_r (k + 8), xa_n, xa_n, xa_n, xa_n, xa_i 0, xa_i 0, xa_i 0, xa_n, xa_i 0, xa_i 0, xa_i 0, xa_i 0, xa_n, xa_n, xa_i 0, xa_n] := ch8
  have hA1 : h8.1 (k + 1) = xa_a 120 (fun _ => 0) := (oh8 _ (ne_kk (a := 1) (b := 0) (by decide))).trans hA1
  have hA2 : h8.1 (k + 2) = xa_a 2 (fun _ => 0) := (oh8 _ (ne_kk (a := 2) (b := 0) (by decide))).trans hA2
  have hA3 : h8.1 (k + 3) = xa_a 18 (fun _ => 0) := (oh8 _ (ne_kk (a := 3) (b := 0) (by decide))).trans hA3
  have hA4 : h8.1 (k + 4) = xa_a 2 (fun _ => 0) := (oh8 _ (ne_kk (a := 4) (b := 0) (by decide))).trans hA4
  have hA5 : h8.1 (k + 5) = xa_a 4 (fun _ => 0) := (oh8 _ (ne_kk (a := 5) (b := 0) (by decide))).trans hA5
  have hA6 : h8.1 (k + 6) = xa_a 4 (fun _ => 0) := (oh8 _ (ne_kk (a := 6) (b := 0) (by decide))).trans hA6
  have hA7 : h8.1 (k + 7) = xa_a 2 (fun _ => 0) := (oh8 _ (ne_kk (a := 7) (b := 0) (by decide))).trans hA7
  have hA8 : h8.1 (k + 8) = xa_a 2 (fun _ => 0) := (oh8 _ (ne_kk (a := 8) (b := 0) (by decide))).trans hA8
  have hcn : h8.2 = k + 9 := nh8.trans hcn
  have fr : ∀ i, i < k → h8.1 i = h0.1 i := fun i hi => (oh8 i (by omega)).trans (fr i hi)
  exact c_Model_init_2 k hk hcn fr hO hA1 hA2 hA3 hA4 hA5 hA6 hA7 hA8
theorem c_Model_init {G : xa_G} {h : xa_H} (k : Nat) (hk : 2 ≤ k) (hcn : h.2 = k + 1) (hO : h.1 k = xa_o 10 [xa_i 0, xa_n, xa_n, xa_n, xa_n, xa_n, xa_n, xa_n, xa_n, xa_n, xa_n, xa_n, xa_n, xa_i 0, xa_i 0, xa_i 0, xa_n, xa_i 0, xa_i 0, xa_i 0, xa_i 0, xa_n, xa_n, xa_i 0, xa_n])  : xa_M G mX10_init [xa_r k] h 16 1167656 (fun r h' => r = none ∧ xM h' k (xa_uF (xa_uF (xa_uF (xa_uF (xa_uF (fun _ _ => 0) 2 (xa_upf (fun _ => 0) 0 2)) 3 (xa_upf (xa_upf (xa_upf (xa_upf (xa_upf (xa_upf (fun _ => 0) 0 1) 1 1) 2 1) 3 1) 4 1) 5 1)) 4 (xa_upf (fun _ => 0) 0 1)) 5 (xa_upf (fun _ => 0) 0 10)) 8 (xa_upf (fun _ => 0) 0 10)) (xa_upf (fun _ => 0) 20 (-4)) ∧ h'.2 = k + 17 ∧ ∀ i, i < k → h'.1 i = h.1 i) := by
  refine xa_enter (by decide +kernel) (Nat.le_of_ble_eq_true rfl) ?_
  refine xa_locals (ls' := [some (xa_r k), none]) rfl ?_
  have fr : ∀ i, i < k → h.1 i = h.1 i := fun _ _ => rfl
  refine xa_aload_n (pc := 0) dX10_init_0 rfl ?_
  refine xa_objinit (pc := 1) dX10_init_1 lkRX10_1 zo_1 zo_2 (Nat.le_of_ble_eq_true rfl) (by decide) ?_
  refine xa_aload_n (pc := 4) dX10_init_4 rfl ?_
  refine xa_bipush (pc := 5) dX10_init_5 rfl ?_
  refine xa_newap (pc := 7) (mc0 := 15) (ms0 := 1167536) 120 (k + 1) hcn dX10_init_7 rfl (by decide) rfl rfl (fun h1 nh1 ch1 oh1 => ?_)
  have hO : h1.1 k = xa_o 10 [xa_i 0, xa_n, xa_n, xa_n, xa_n, xa_n, xa_n, xa_n, xa_n, xa_n, xa_n, xa_n, xa_n, xa_i 0, xa_i 0, xa_i 0, xa_n, xa_i 0, xa_i 0, xa_i 0, xa_i 0, xa_n, xa_n, xa_i 0, xa_n] := (oh1 _ (ne_kk (a := 0) (b := 1) (by decide))).trans hO
  have hA1 : h1.1 (k + 1) = xa_a 120 (fun _ => 0) := ch1
  have hcn : h1.2 = k + 2 := nh1
  have fr : ∀ i, i < k → h1.1 i = h.1 i := fun i hi => (oh1 i (by omega)).trans (fr i hi)
  refine xa_putwF (pc := 9) [xa_i 0, xa_r (k + 1), xa_n, xa_n, xa_n, xa_n, xa_n, xa_n, xa_n, xa_n, xa_n, xa_n, xa_n, xa_i 0, xa_i 0, xa_i 0, xa_n, xa_i 0, xa_i 0, xa_i 0, xa_i 0, xa_n, xa_n, xa_i 0, xa_n] dX10_init_9 rfl flRX10_7 plX10_1 (by omega) (by omega) hO trivial rfl rfl (fun h2 nh2 ch2 oh2 => ?_)
  have hO : h2.1 k = xa_o 10 [xa_i 0, xa_r (k + 1), xa_n, xa_n, xa_n, xa_n, xa_n, xa_n, xa_n, xa_n, xa_n, xa_n, xa_n, xa_i 0, xa_i 0, xa_i 0, xa_n, xa_i 0, xa_i 0, xa_i 0, xa_i 0, xa_n, xa_n, xa_i 0, xa_n] := ch2
  have hA1 : h2.1 (k + 1) = xa_a 120 (fun _ => 0) := (oh2 _ (ne_kk (a := 1) (b := 0) (by decide))).trans hA1
  have hcn : h2.2 = k + 2 := nh2.trans hcn
  have fr : ∀ i, i < k → h2.1 i = h.1 i := fun i hi => (oh2 i (by omega)).trans (fr i hi)
  refine xa_aload_n (pc := 12) dX10_init_12 rfl ?_
  refine xa_iconst (pc := 13) dX10_init_13 ?_
  refine xa_newap (pc := 14) (mc0 := 14) (ms0 := 1167534) 2 (k + 2) hcn dX10_init_14 rfl (by decide) rfl rfl (fun h3 nh3 ch3 oh3 => ?_)
  have hO : h3.1 k = xa_o 10 [xa_i 0, xa_r (k + 1), xa_n, xa_n, xa_n, xa_n, xa_n, xa_n, xa_n, xa_n, xa_n, xa_n, xa_n, xa_i 0, xa_i 0, xa_i 0, xa_n, xa_i 0, xa_i 0, xa_i 0, xa_i 0, xa_n, xa_n, xa_i 0, xa_n] := (oh3 _ (ne_kk (a := 0) (b := 2) (by decide))).trans hO
  have hA1 : h3.1 (k + 1) = xa_a 120 (fun _ => 0) := (oh3 _ (ne_kk (a := 1) (b := 2) (by decide))).trans hA1
  have hA2 : h3.1 (k + 2) = xa_a 2 (fun _ => 0) := ch3
  have hcn : h3.2 = k + 3 := nh3
  have fr : ∀ i, i < k → h3.1 i = h.1 i := fun i hi => (oh3 i (by omega)).trans (fr i hi)
  refine xa_putwF (pc := 16) [xa_i 0, xa_r (k + 1), xa_r (k + 2), xa_n, xa_n, xa_n, xa_n, xa_n, xa_n, xa_n, xa_n, xa_n, xa_n, xa_i 0, xa_i 0, xa_i 0, xa_n, xa_i 0, xa_i 0, xa_i 0, xa_i 0, xa_n, xa_n, xa_i 0, xa_n] dX10_init_16 rfl flRX10_13 plX10_2 (by omega) (by omega) hO trivial rfl rfl (fun h4 nh4 ch4 oh4 => ?_)
  have hO : h4.1 k = xa_o 10 [xa_i 0, xa_r (k + 1), xa_r (k + 2), xa_n, xa_n, xa_n, xa_n, xa_n, xa_n, xa_n, xa_n, xa_n, xa_n, xa_i 0, xa_i 0, xa_i 0, xa_n, xa_i 0, xa_i 0, xa_i 0, xa_i 0, xa_n, xa_n, xa_i 0, xa_n] := ch4
  have hA1 : h4.1 (k + 1) = xa_a 120 (fun _ => 0) := (oh4 _ (ne_kk (a := 1) (b := 0) (by decide))).trans hA1
  have hA2 : h4.1 (k + 2) = xa_a 2 (fun _ => 0) := (oh4 _ (ne_kk (a := 2) (b := 0) (by decide))).trans hA2
  have hcn : h4.2 = k + 3 := nh4.trans hcn
  have fr : ∀ i, i < k → h4.1 i = h.1 i := fun i hi => (oh4 i (by omega)).trans (fr i hi)
  refine xa_aload_n (pc := 19) dX10_init_19 rfl ?_
  refine xa_bipush (pc := 20) dX10_init_20 rfl ?_
  refine xa_newap (pc := 22) (mc0 := 13) (ms0 := 1167516) 18 (k + 3) hcn dX10_init_22 rfl (by decide) rfl rfl (fun h5 nh5 ch5 oh5 => ?_)
  have hO : h5.1 k = xa_o 10 [xa_i 0, xa_r (k + 1), xa_r (k + 2), xa_n, xa_n, xa_n, xa_n, xa_n, xa_n, xa_n, xa_n, xa_n, xa_n, xa_i 0, xa_i 0, xa_i 0, xa_n, xa_i 0, xa_i 0, xa_i 0, xa_i 0, xa_n, xa_n, xa_i 0, xa_n] := (oh5 _ (ne_kk (a := 0) (b := 3) (by decide))).trans hO
  have hA1 : h5.1 (k + 1) = xa_a 120 (fun _ => 0) := (oh5 _ (ne_kk (a := 1) (b := 3) (by decide))).trans hA1
  have hA2 : h5.1 (k + 2) = xa_a 2 (fun _ => 0) := (oh5 _ (ne_kk (a := 2) (b := 3) (by decide))).trans hA2
  have hA3 : h5.1 (k + 3) = xa_a 18 (fun _ => 0) := ch5
  have hcn : h5.2 = k + 4 := nh5
  have fr : ∀ i, i < k → h5.1 i = h.1 i := fun i hi => (oh5 i (by omega)).trans (fr i hi)
  refine xa_putwF (pc := 24) [xa_i 0, xa_r (k + 1), xa_r (k + 2), xa_r (k + 3), xa_n, xa_n, xa_n, xa_n, xa_n, xa_n, xa_n, xa_n, xa_n, xa_i 0, xa_i 0, xa_i 0, xa_n, xa_i 0, xa_i 0, xa_i 0, xa_i 0, xa_n, xa_n, xa_i 0, xa_n] dX10_init_24 rfl flRX10_16 plX10_3 (by omega) (by omega) hO trivial rfl rfl (fun h6 nh6 ch6 oh6 => ?_)
  have hO : h6.1 k = xa_o 10 [xa_i 0, xa_r (k + 1), xa_r (k + 2), xa_r (k + 3), xa_n, xa_n, xa_n, xa_n, xa_n, xa_n, xa_n, xa_n, xa_n, xa_i 0, xa_i 0, xa_i 0, xa_n, xa_i 0, xa_i 0, xa_i 0, xa_i 0, xa_n, xa_n, xa_i 0, xa_n] := ch6
  have hA1 : h6.1 (k + 1) = xa_a 120 (fun _ => 0) := (oh6 _ (ne_kk (a := 1) (b := 0) (by decide))).trans hA1
  have hA2 : h6.1 (k + 2) = xa_a 2 (fun _ => 0) := (oh6 _ (ne_kk (a := 2) (b := 0) (by decide))).trans hA2
  have hA3 : h6.1 (k + 3) = xa_a 18 (fun _ => 0) := (oh6 _ (ne_kk (a := 3) (b := 0) (by decide))).trans hA3
  have hcn : h6.2 = k + 4 := nh6.trans hcn
  have fr : ∀ i, i < k → h6.1 i = h.1 i := fun i hi => (oh6 i (by omega)).trans (fr i hi)
  refine xa_aload_n (pc := 27) dX10_init_27 rfl ?_
  refine xa_iconst (pc := 28) dX10_init_28 ?_
  refine xa_newap (pc := 29) (mc0 := 12) (ms0 := 1167514) 2 (k + 4) hcn dX10_init_29 rfl (by decide) rfl rfl (fun h7 nh7 ch7 oh7 => ?_)
  have hO : h7.1 k = xa_o 10 [xa_i 0, xa_r (k + 1), xa_r (k + 2), xa_r (k + 3), xa_n, xa_n, xa_n, xa_n, xa_n, xa_n, xa_n, xa_n, xa_n, xa_i 0, xa_i 0, xa_i 0, xa_n, xa_i 0, xa_i 0, xa_i 0, xa_i 0, xa_n, xa_n, xa_i 0, xa_n] := (oh7 _ (ne_kk (a := 0) (b := 4) (by decide))).trans hO
  have hA1 : h7.1 (k + 1) = xa_a 120 (fun _ => 0) := (oh7 _ (ne_kk (a := 1) (b := 4) (by decide))).trans hA1
  have hA2 : h7.1 (k + 2) = xa_a 2 (fun _ => 0) := (oh7 _ (ne_kk (a := 2) (b := 4) (by decide))).trans hA2
  have hA3 : h7.1 (k + 3) = xa_a 18 (fun _ => 0) := (oh7 _ (ne_kk (a := 3) (b := 4) (by decide))).trans hA3
  have hA4 : h7.1 (k + 4) = xa_a 2 (fun _ => 0) := ch7
  have hcn : h7.2 = k + 5 := nh7
  have fr : ∀ i, i < k → h7.1 i = h.1 i := fun i hi => (oh7 i (by omega)).trans (fr i hi)
  refine xa_putwF (pc := 31) [xa_i 0, xa_r (k + 1), xa_r (k + 2), xa_r (k + 3), xa_r (k + 4), xa_n, xa_n, xa_n, xa_n, xa_n, xa_n, xa_n, xa_n, xa_i 0, xa_i 0, xa_i 0, xa_n, xa_i 0, xa_i 0, xa_i 0, xa_i 0, xa_n, xa_n, xa_i 0, xa_n] dX10_init_31 rfl flRX10_19 plX10_4 (by omega) (by omega) hO trivial rfl rfl (fun h8 nh8 ch8 oh8 => ?_)
  have hO : h8.1 k = xa_o 10 [xa_i 0, xa_r (k + 1), xa_r (k + 2), xa_r (k + 3), xa_r (k + 4), xa_n, xa_n, xa_n, xa_n, xa_n, xa_n, xa_n, xa_n, xa_i 0, xa_i 0, xa_i 0, xa_n, xa_i 0, xa_i 0, xa_i 0, xa_i 0, xa_n, xa_n, xa_i 0, xa_n] := ch8
  have hA1 : h8.1 (k + 1) = xa_a 120 (fun _ => 0) := (oh8 _ (ne_kk (a := 1) (b := 0) (by decide))).trans hA1
  have hA2 : h8.1 (k + 2) = xa_a 2 (fun _ => 0) := (oh8 _ (ne_kk (a := 2) (b := 0) (by decide))).trans hA2
  have hA3 : h8.1 (k + 3) = xa_a 18 (fun _ => 0) := (oh8 _ (ne_kk (a := 3) (b := 0) (by decide))).trans hA3
  have hA4 : h8.1 (k + 4) = xa_a 2 (fun _ => 0) := (oh8 _ (ne_kk (a := 4) (b := 0) (by decide))).trans hA4
  have hcn : h8.2 = k + 5 := nh8.trans hcn
  have fr : ∀ i, i < k → h8.1 i = h.1 i := fun i hi => (oh8 i (by omega)).trans (fr i hi)
  exact c_Model_init_1 k hk hcn fr hO hA1 hA2 hA3 hA4
