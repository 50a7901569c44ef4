/-! The law's calls that change things -/
set_option maxHeartbeats 1000000 in
theorem lw_write {G : xa_G} {Z : xa_Zt} {h : xa_H} {i : Nat} {n : Nat} {f ld dg : Nat → Int} {pa jo : Nat} {wa sr pu ri : Int} {mv le fi : Nat → Int} {pc kp : Nat} {mv1 le1 fi1 : Nat → Int} {pc1 : Nat} {mv2 le2 fi2 : Nat → Int} {pc2 : Nat} {bc bs : Nat} {mc ms : Nat} (hi : i + 5 ≤ xa_L G) (hxs : ∀ j, xa_ok (xa_xs G j)) (hC : xCW h 2 n f ld dg pa jo wa sr pu ri mv le fi pc kp mv1 le1 fi1 pc1 mv2 le2 fi2 pc2 bc bs) (hM : xMW h 74 n f ld dg pa jo wa sr pu ri mv le fi pc kp mv1 le1 fi1 pc1 mv2 le2 fi2 pc2) (hmc : bc ≤ mc) (hms : bs ≤ ms) (hNx : lwN G Z i) : xa_W G mL_law Z 164 [some (xa_r 0), some (xa_r 2), some (xa_r 74), some (xa_i ((i : Nat) : Int))] [] h mc ms := by
  obtain ⟨fsC, hXC⟩ := hC.cell
  obtain ⟨⟨fsM, hXM⟩, hh91⟩ := hM.cell
  refine xa_scr0 (fun hSc => ?_)
  refine xa_aload_n (pc := 164) dL_law_164 rfl ?_
  refine xa_aload_n (pc := 165) dL_law_165 rfl ?_
  refine xa_iload_n (pc := 166) dL_law_166 rfl ?_
  refine xa_iconst (pc := 167) dL_law_167 ?_
  refine xa_iadd (pc := 168) dL_law_168 ?_
  refine xa_ialdw (pc := 169) (i + 1) dL_law_169 (by omega) hSc (by omega) (by omega) (by omega) ?_
  refine xa_aload_n (pc := 170) dL_law_170 rfl ?_
  refine xa_iload_n (pc := 171) dL_law_171 rfl ?_
  refine xa_iconst (pc := 172) dL_law_172 ?_
  refine xa_iadd (pc := 173) dL_law_173 ?_
  refine xa_ialdw (pc := 174) (i + 2) dL_law_174 (by omega) hSc (by omega) (by omega) (by omega) ?_
  refine xa_i2l (pc := 175) dL_law_175 (hxs _) ?_
  refine xa_bipush (pc := 176) dL_law_176 rfl ?_
  refine xa_lshlr (pc := 178) dL_law_178 ?_
  refine xa_aload_n (pc := 179) dL_law_179 rfl ?_
  refine xa_iload_n (pc := 180) dL_law_180 rfl ?_
  refine xa_iconst (pc := 181) dL_law_181 ?_
  refine xa_iadd (pc := 182) dL_law_182 ?_
  refine xa_ialdw (pc := 183) (i + 3) dL_law_183 (by omega) hSc (by omega) (by omega) (by omega) ?_
  refine xa_i2l (pc := 184) dL_law_184 (hxs _) ?_
  refine xa_ldc2 (pc := 185) (n := 4294967295) dL_law_185 ctRL_13 rfl ?_
  refine xa_landr (pc := 188) dL_law_188 ?_
  refine xa_lorr (pc := 189) dL_law_189 ?_
  refine xa_callV (pc := 190) (as := [xa_i ((xa_xs G) (i + 1)), xa_l (xa_lor (xa_lshl ((xa_xs G) (i + 2)) 32) (xa_land ((xa_xs G) (i + 3)) 4294967295))]) (rest := []) dL_law_190 ⟨qX9_write.1, qX9_write.2.1, qX9_write.2.2, by decide, by decide⟩ lkRL_15 imX9_write seX9_write rfl rfl (by omega) (by omega) hXC rfl (Nat.le_of_ble_eq_true rfl) (Nat.zero_le _) (Nat.zero_le _) (s_write (G := G) ((xa_xs G) (i + 1)) (xa_lor (xa_lshl ((xa_xs G) (i + 2)) 32) (xa_land ((xa_xs G) (i + 3)) 4294967295)) (hxs _) hC) (fun r h' hq => ?_)
  obtain ⟨hq, hfr, hh⟩ := hq
  rcases hq with ⟨y1, rfl, hC⟩ | ⟨y1, y2, rfl, hC⟩ | ⟨c, y1, y2, y3, rfl, hC⟩
  · skip
    have hM := hM.fr (fun i hi hj => hfr i (by omega) (by omega)) hh
    obtain ⟨fsC, hXC⟩ := hC.cell
    obtain ⟨⟨fsM, hXM⟩, hh91⟩ := hM.cell
    refine xa_scr0 (fun hSc => ?_)
    refine xa_aload_n (pc := 193) dL_law_193 rfl ?_
    refine xa_aload_n (pc := 194) dL_law_194 rfl ?_
    refine xa_iload_n (pc := 195) dL_law_195 rfl ?_
    refine xa_iconst (pc := 196) dL_law_196 ?_
    refine xa_iadd (pc := 197) dL_law_197 ?_
    refine xa_ialdw (pc := 198) (i + 1) dL_law_198 (by omega) hSc (by omega) (by omega) (by omega) ?_
    refine xa_aload_n (pc := 199) dL_law_199 rfl ?_
    refine xa_iload_n (pc := 200) dL_law_200 rfl ?_
    refine xa_iconst (pc := 201) dL_law_201 ?_
    refine xa_iadd (pc := 202) dL_law_202 ?_
    refine xa_ialdw (pc := 203) (i + 2) dL_law_203 (by omega) hSc (by omega) (by omega) (by omega) ?_
    refine xa_i2l (pc := 204) dL_law_204 (hxs _) ?_
    refine xa_bipush (pc := 205) dL_law_205 rfl ?_
    refine xa_lshlr (pc := 207) dL_law_207 ?_
    refine xa_aload_n (pc := 208) dL_law_208 rfl ?_
    refine xa_iload_n (pc := 209) dL_law_209 rfl ?_
    refine xa_iconst (pc := 210) dL_law_210 ?_
    refine xa_iadd (pc := 211) dL_law_211 ?_
    refine xa_ialdw (pc := 212) (i + 3) dL_law_212 (by omega) hSc (by omega) (by omega) (by omega) ?_
    refine xa_i2l (pc := 213) dL_law_213 (hxs _) ?_
    refine xa_ldc2 (pc := 214) (n := 4294967295) dL_law_214 ctRL_13 rfl ?_
    refine xa_landr (pc := 217) dL_law_217 ?_
    refine xa_lorr (pc := 218) dL_law_218 ?_
    refine xa_callV (pc := 219) (as := [xa_i ((xa_xs G) (i + 1)), xa_l (xa_lor (xa_lshl ((xa_xs G) (i + 2)) 32) (xa_land ((xa_xs G) (i + 3)) 4294967295))]) (rest := [xa_i (-1)]) dL_law_219 ⟨qX10_write.1, qX10_write.2.1, qX10_write.2.2, by decide, by decide⟩ lkRL_19 imX10_write seX10_write rfl rfl (by omega) (by omega) hXM rfl (Nat.le_of_ble_eq_true rfl) (Nat.zero_le _) (Nat.zero_le _) (m_write (G := G) ((xa_xs G) (i + 1)) (xa_lor (xa_lshl ((xa_xs G) (i + 2)) 32) (xa_land ((xa_xs G) (i + 3)) 4294967295)) (hxs _) hM) (fun r h' hq => ?_)
    obtain ⟨hq, hn2, hf2⟩ := hq
    rcases hq with ⟨z1, rfl, hM⟩ | ⟨z1, z2, rfl, hM⟩ | ⟨c2, z1, z2, z3, rfl, hM⟩
    · skip
      have hC := hC.fr (fun i hi => hf2 i (by omega)) (by omega)
      obtain ⟨fsC, hXC⟩ := hC.cell
      obtain ⟨⟨fsM, hXM⟩, hh91⟩ := hM.cell
      refine xa_scr0 (fun hSc => ?_)
      refine xa_icmp_eqs (pc := 222) (tgt := 991) dL_law_222 (by decide) ?_
      exact hNx _ _ _ _ _ _ _ _ _ _ _ _ _ _ _ _ _ _ _ _ _ _ _ _ _ _ _ _ hC hM (by omega) (by omega)
    · skip
      exfalso
      omega
    · skip
      exfalso
      omega
  · skip
    have hM := hM.fr (fun i hi hj => hfr i (by omega) (by omega)) hh
    obtain ⟨fsC, hXC⟩ := hC.cell
    obtain ⟨⟨fsM, hXM⟩, hh91⟩ := hM.cell
    refine xa_scr0 (fun hSc => ?_)
    refine xa_aload_n (pc := 193) dL_law_193 rfl ?_
    refine xa_aload_n (pc := 194) dL_law_194 rfl ?_
    refine xa_iload_n (pc := 195) dL_law_195 rfl ?_
    refine xa_iconst (pc := 196) dL_law_196 ?_
    refine xa_iadd (pc := 197) dL_law_197 ?_
    refine xa_ialdw (pc := 198) (i + 1) dL_law_198 (by omega) hSc (by omega) (by omega) (by omega) ?_
    refine xa_aload_n (pc := 199) dL_law_199 rfl ?_
    refine xa_iload_n (pc := 200) dL_law_200 rfl ?_
    refine xa_iconst (pc := 201) dL_law_201 ?_
    refine xa_iadd (pc := 202) dL_law_202 ?_
    refine xa_ialdw (pc := 203) (i + 2) dL_law_203 (by omega) hSc (by omega) (by omega) (by omega) ?_
    refine xa_i2l (pc := 204) dL_law_204 (hxs _) ?_
    refine xa_bipush (pc := 205) dL_law_205 rfl ?_
    refine xa_lshlr (pc := 207) dL_law_207 ?_
    refine xa_aload_n (pc := 208) dL_law_208 rfl ?_
    refine xa_iload_n (pc := 209) dL_law_209 rfl ?_
    refine xa_iconst (pc := 210) dL_law_210 ?_
    refine xa_iadd (pc := 211) dL_law_211 ?_
    refine xa_ialdw (pc := 212) (i + 3) dL_law_212 (by omega) hSc (by omega) (by omega) (by omega) ?_
    refine xa_i2l (pc := 213) dL_law_213 (hxs _) ?_
    refine xa_ldc2 (pc := 214) (n := 4294967295) dL_law_214 ctRL_13 rfl ?_
    refine xa_landr (pc := 217) dL_law_217 ?_
    refine xa_lorr (pc := 218) dL_law_218 ?_
    refine xa_callV (pc := 219) (as := [xa_i ((xa_xs G) (i + 1)), xa_l (xa_lor (xa_lshl ((xa_xs G) (i + 2)) 32) (xa_land ((xa_xs G) (i + 3)) 4294967295))]) (rest := [xa_i (-3)]) dL_law_219 ⟨qX10_write.1, qX10_write.2.1, qX10_write.2.2, by decide, by decide⟩ lkRL_19 imX10_write seX10_write rfl rfl (by omega) (by omega) hXM rfl (Nat.le_of_ble_eq_true rfl) (Nat.zero_le _) (Nat.zero_le _) (m_write (G := G) ((xa_xs G) (i + 1)) (xa_lor (xa_lshl ((xa_xs G) (i + 2)) 32) (xa_land ((xa_xs G) (i + 3)) 4294967295)) (hxs _) hM) (fun r h' hq => ?_)
    obtain ⟨hq, hn2, hf2⟩ := hq
    rcases hq with ⟨z1, rfl, hM⟩ | ⟨z1, z2, rfl, hM⟩ | ⟨c2, z1, z2, z3, rfl, hM⟩
    · skip
      exfalso
      omega
    · skip
      have hC := hC.fr (fun i hi => hf2 i (by omega)) (by omega)
      obtain ⟨fsC, hXC⟩ := hC.cell
      obtain ⟨⟨fsM, hXM⟩, hh91⟩ := hM.cell
      refine xa_scr0 (fun hSc => ?_)
      refine xa_icmp_eqs (pc := 222) (tgt := 991) dL_law_222 (by decide) ?_
      exact hNx _ _ _ _ _ _ _ _ _ _ _ _ _ _ _ _ _ _ _ _ _ _ _ _ _ _ _ _ hC hM (by omega) (by omega)
    · skip
      exfalso
      omega
  · skip
    have hM := hM.fr (fun i hi hj => hfr i (by omega) (by omega)) hh
    obtain ⟨fsC, hXC⟩ := hC.cell
    obtain ⟨⟨fsM, hXM⟩, hh91⟩ := hM.cell
    refine xa_scr0 (fun hSc => ?_)
    refine xa_aload_n (pc := 193) dL_law_193 rfl ?_
    refine xa_aload_n (pc := 194) dL_law_194 rfl ?_
    refine xa_iload_n (pc := 195) dL_law_195 rfl ?_
    refine xa_iconst (pc := 196) dL_law_196 ?_
    refine xa_iadd (pc := 197) dL_law_197 ?_
    refine xa_ialdw (pc := 198) (i + 1) dL_law_198 (by omega) hSc (by omega) (by omega) (by omega) ?_
    refine xa_aload_n (pc := 199) dL_law_199 rfl ?_
    refine xa_iload_n (pc := 200) dL_law_200 rfl ?_
    refine xa_iconst (pc := 201) dL_law_201 ?_
    refine xa_iadd (pc := 202) dL_law_202 ?_
    refine xa_ialdw (pc := 203) (i + 2) dL_law_203 (by omega) hSc (by omega) (by omega) (by omega) ?_
    refine xa_i2l (pc := 204) dL_law_204 (hxs _) ?_
    refine xa_bipush (pc := 205) dL_law_205 rfl ?_
    refine xa_lshlr (pc := 207) dL_law_207 ?_
    refine xa_aload_n (pc := 208) dL_law_208 rfl ?_
    refine xa_iload_n (pc := 209) dL_law_209 rfl ?_
    refine xa_iconst (pc := 210) dL_law_210 ?_
    refine xa_iadd (pc := 211) dL_law_211 ?_
    refine xa_ialdw (pc := 212) (i + 3) dL_law_212 (by omega) hSc (by omega) (by omega) (by omega) ?_
    refine xa_i2l (pc := 213) dL_law_213 (hxs _) ?_
    refine xa_ldc2 (pc := 214) (n := 4294967295) dL_law_214 ctRL_13 rfl ?_
    refine xa_landr (pc := 217) dL_law_217 ?_
    refine xa_lorr (pc := 218) dL_law_218 ?_
    refine xa_callV (pc := 219) (as := [xa_i ((xa_xs G) (i + 1)), xa_l (xa_lor (xa_lshl ((xa_xs G) (i + 2)) 32) (xa_land ((xa_xs G) (i + 3)) 4294967295))]) (rest := [xa_i _]) dL_law_219 ⟨qX10_write.1, qX10_write.2.1, qX10_write.2.2, by decide, by decide⟩ lkRL_19 imX10_write seX10_write rfl rfl (by omega) (by omega) hXM rfl (Nat.le_of_ble_eq_true rfl) (Nat.zero_le _) (Nat.zero_le _) (m_write (G := G) ((xa_xs G) (i + 1)) (xa_lor (xa_lshl ((xa_xs G) (i + 2)) 32) (xa_land ((xa_xs G) (i + 3)) 4294967295)) (hxs _) hM) (fun r h' hq => ?_)
    obtain ⟨hq, hn2, hf2⟩ := hq
    rcases hq with ⟨z1, rfl, hM⟩ | ⟨z1, z2, rfl, hM⟩ | ⟨c2, z1, z2, z3, rfl, hM⟩
    · skip
      exfalso
      omega
    · skip
      exfalso
      omega
    · skip
      have ec : c2 = c := by omega
      subst ec
      have hC := hC.fr (fun i hi => hf2 i (by omega)) (by omega)
      obtain ⟨fsC, hXC⟩ := hC.cell
      obtain ⟨⟨fsM, hXM⟩, hh91⟩ := hM.cell
      refine xa_scr0 (fun hSc => ?_)
      refine xa_icmp_eqs (pc := 222) (tgt := 991) dL_law_222 (by decide) ?_
      exact hNx _ _ _ _ _ _ _ _ _ _ _ _ _ _ _ _ _ _ _ _ _ _ _ _ _ _ _ _ hC hM (by omega) (by omega)
set_option maxHeartbeats 1000000 in
theorem lw_move {G : xa_G} {Z : xa_Zt} {h : xa_H} {i : Nat} {n : Nat} {f ld dg : Nat → Int} {pa jo : Nat} {wa sr pu ri : Int} {mv le fi : Nat → Int} {pc kp : Nat} {mv1 le1 fi1 : Nat → Int} {pc1 : Nat} {mv2 le2 fi2 : Nat → Int} {pc2 : Nat} {bc bs : Nat} {mc ms : Nat} (hi : i + 5 ≤ xa_L G) (hxs : ∀ j, xa_ok (xa_xs G j)) (hC : xCW h 2 n f ld dg pa jo wa sr pu ri mv le fi pc kp mv1 le1 fi1 pc1 mv2 le2 fi2 pc2 bc bs) (hM : xMW h 74 n f ld dg pa jo wa sr pu ri mv le fi pc kp mv1 le1 fi1 pc1 mv2 le2 fi2 pc2) (hmc : bc ≤ mc) (hms : bs ≤ ms) (hNx : lwN G Z i) : xa_W G mL_law Z 355 [some (xa_r 0), some (xa_r 2), some (xa_r 74), some (xa_i ((i : Nat) : Int))] [] h mc ms := by
  obtain ⟨fsC, hXC⟩ := hC.cell
  obtain ⟨⟨fsM, hXM⟩, hh91⟩ := hM.cell
  refine xa_scr0 (fun hSc => ?_)
  refine xa_aload_n (pc := 355) dL_law_355 rfl ?_
  refine xa_aload_n (pc := 356) dL_law_356 rfl ?_
  refine xa_iload_n (pc := 357) dL_law_357 rfl ?_
  refine xa_iconst (pc := 358) dL_law_358 ?_
  refine xa_iadd (pc := 359) dL_law_359 ?_
  refine xa_ialdw (pc := 360) (i + 1) dL_law_360 (by omega) hSc (by omega) (by omega) (by omega) ?_
  refine xa_aload_n (pc := 361) dL_law_361 rfl ?_
  refine xa_iload_n (pc := 362) dL_law_362 rfl ?_
  refine xa_iconst (pc := 363) dL_law_363 ?_
  refine xa_iadd (pc := 364) dL_law_364 ?_
  refine xa_ialdw (pc := 365) (i + 2) dL_law_365 (by omega) hSc (by omega) (by omega) (by omega) ?_
  refine xa_callV (pc := 366) (as := [xa_i ((xa_xs G) (i + 1)), xa_i ((xa_xs G) (i + 2))]) (rest := []) dL_law_366 ⟨qX9_move.1, qX9_move.2.1, qX9_move.2.2, by decide, by decide⟩ lkRL_47 imX9_move seX9_move rfl rfl (by omega) (by omega) hXC rfl (Nat.le_of_ble_eq_true rfl) (Nat.zero_le _) (Nat.zero_le _) (s_move (G := G) ((xa_xs G) (i + 1)) ((xa_xs G) (i + 2)) (hxs _) (hxs _) hC) (fun r h' hq => ?_)
  obtain ⟨hq, hfr, hh⟩ := hq
  rcases hq with ⟨y1, rfl, hC⟩ | ⟨wn, y1, y2, y3, rfl, hC⟩ | ⟨wn, y1, y2, y3, rfl, hC⟩
  · skip
    have hM := hM.fr (fun i hi hj => hfr i (by omega) (by omega)) hh
    obtain ⟨fsC, hXC⟩ := hC.cell
    obtain ⟨⟨fsM, hXM⟩, hh91⟩ := hM.cell
    refine xa_scr0 (fun hSc => ?_)
    refine xa_aload_n (pc := 369) dL_law_369 rfl ?_
    refine xa_aload_n (pc := 370) dL_law_370 rfl ?_
    refine xa_iload_n (pc := 371) dL_law_371 rfl ?_
    refine xa_iconst (pc := 372) dL_law_372 ?_
    refine xa_iadd (pc := 373) dL_law_373 ?_
    refine xa_ialdw (pc := 374) (i + 1) dL_law_374 (by omega) hSc (by omega) (by omega) (by omega) ?_
    refine xa_aload_n (pc := 375) dL_law_375 rfl ?_
    refine xa_iload_n (pc := 376) dL_law_376 rfl ?_
    refine xa_iconst (pc := 377) dL_law_377 ?_
    refine xa_iadd (pc := 378) dL_law_378 ?_
    refine xa_ialdw (pc := 379) (i + 2) dL_law_379 (by omega) hSc (by omega) (by omega) (by omega) ?_
    refine xa_callV (pc := 380) (as := [xa_i ((xa_xs G) (i + 1)), xa_i ((xa_xs G) (i + 2))]) (rest := [xa_i (-1)]) dL_law_380 ⟨qX10_move.1, qX10_move.2.1, qX10_move.2.2, by decide, by decide⟩ lkRL_50 imX10_move seX10_move rfl rfl (by omega) (by omega) hXM rfl (Nat.le_of_ble_eq_true rfl) (Nat.zero_le _) (Nat.zero_le _) (m_move (G := G) ((xa_xs G) (i + 1)) ((xa_xs G) (i + 2)) (hxs _) (hxs _) hM) (fun r h' hq => ?_)
    obtain ⟨hq, hn2, hf2⟩ := hq
    rcases hq with ⟨z1, rfl, hM⟩ | ⟨wn2, z1, z2, z3, rfl, hM⟩ | ⟨wn2, z1, z2, z3, rfl, hM⟩
    · skip
      have hC := hC.fr (fun i hi => hf2 i (by omega)) (by omega)
      obtain ⟨fsC, hXC⟩ := hC.cell
      obtain ⟨⟨fsM, hXM⟩, hh91⟩ := hM.cell
      refine xa_scr0 (fun hSc => ?_)
      refine xa_icmp_eqs (pc := 383) (tgt := 991) dL_law_383 (by decide) ?_
      exact hNx _ _ _ _ _ _ _ _ _ _ _ _ _ _ _ _ _ _ _ _ _ _ _ _ _ _ _ _ hC hM (by omega) (by omega)
    · skip
      exfalso
      first | omega | (cases (show wn2 = wn by omega); omega)
    · skip
      exfalso
      first | omega | (cases (show wn2 = wn by omega); omega)
  · skip
    have hM := hM.fr (fun i hi hj => hfr i (by omega) (by omega)) hh
    obtain ⟨fsC, hXC⟩ := hC.cell
    obtain ⟨⟨fsM, hXM⟩, hh91⟩ := hM.cell
    refine xa_scr0 (fun hSc => ?_)
    refine xa_aload_n (pc := 369) dL_law_369 rfl ?_
    refine xa_aload_n (pc := 370) dL_law_370 rfl ?_
    refine xa_iload_n (pc := 371) dL_law_371 rfl ?_
    refine xa_iconst (pc := 372) dL_law_372 ?_
    refine xa_iadd (pc := 373) dL_law_373 ?_
    refine xa_ialdw (pc := 374) (i + 1) dL_law_374 (by omega) hSc (by omega) (by omega) (by omega) ?_
    refine xa_aload_n (pc := 375) dL_law_375 rfl ?_
    refine xa_iload_n (pc := 376) dL_law_376 rfl ?_
    refine xa_iconst (pc := 377) dL_law_377 ?_
    refine xa_iadd (pc := 378) dL_law_378 ?_
    refine xa_ialdw (pc := 379) (i + 2) dL_law_379 (by omega) hSc (by omega) (by omega) (by omega) ?_
    refine xa_callV (pc := 380) (as := [xa_i ((xa_xs G) (i + 1)), xa_i ((xa_xs G) (i + 2))]) (rest := [xa_i (-3)]) dL_law_380 ⟨qX10_move.1, qX10_move.2.1, qX10_move.2.2, by decide, by decide⟩ lkRL_50 imX10_move seX10_move rfl rfl (by omega) (by omega) hXM rfl (Nat.le_of_ble_eq_true rfl) (Nat.zero_le _) (Nat.zero_le _) (m_move (G := G) ((xa_xs G) (i + 1)) ((xa_xs G) (i + 2)) (hxs _) (hxs _) hM) (fun r h' hq => ?_)
    obtain ⟨hq, hn2, hf2⟩ := hq
    rcases hq with ⟨z1, rfl, hM⟩ | ⟨wn2, z1, z2, z3, rfl, hM⟩ | ⟨wn2, z1, z2, z3, rfl, hM⟩
    · skip
      exfalso
      first | omega | (cases (show wn2 = wn by omega); omega)
    · skip
      have hC := hC.fr (fun i hi => hf2 i (by omega)) (by omega)
      obtain ⟨fsC, hXC⟩ := hC.cell
      obtain ⟨⟨fsM, hXM⟩, hh91⟩ := hM.cell
      refine xa_scr0 (fun hSc => ?_)
      refine xa_icmp_eqs (pc := 383) (tgt := 991) dL_law_383 (by decide) ?_
      exact hNx _ _ _ _ _ _ _ _ _ _ _ _ _ _ _ _ _ _ _ _ _ _ _ _ _ _ _ _ hC hM (by omega) (by omega)
    · skip
      exfalso
      first | omega | (cases (show wn2 = wn by omega); omega)
  · skip
    have hM := hM.fr (fun i hi hj => hfr i (by omega) (by omega)) hh
    obtain ⟨fsC, hXC⟩ := hC.cell
    obtain ⟨⟨fsM, hXM⟩, hh91⟩ := hM.cell
    refine xa_scr0 (fun hSc => ?_)
    refine xa_aload_n (pc := 369) dL_law_369 rfl ?_
    refine xa_aload_n (pc := 370) dL_law_370 rfl ?_
    refine xa_iload_n (pc := 371) dL_law_371 rfl ?_
    refine xa_iconst (pc := 372) dL_law_372 ?_
    refine xa_iadd (pc := 373) dL_law_373 ?_
    refine xa_ialdw (pc := 374) (i + 1) dL_law_374 (by omega) hSc (by omega) (by omega) (by omega) ?_
    refine xa_aload_n (pc := 375) dL_law_375 rfl ?_
    refine xa_iload_n (pc := 376) dL_law_376 rfl ?_
    refine xa_iconst (pc := 377) dL_law_377 ?_
    refine xa_iadd (pc := 378) dL_law_378 ?_
    refine xa_ialdw (pc := 379) (i + 2) dL_law_379 (by omega) hSc (by omega) (by omega) (by omega) ?_
    refine xa_callV (pc := 380) (as := [xa_i ((xa_xs G) (i + 1)), xa_i ((xa_xs G) (i + 2))]) (rest := [xa_i _]) dL_law_380 ⟨qX10_move.1, qX10_move.2.1, qX10_move.2.2, by decide, by decide⟩ lkRL_50 imX10_move seX10_move rfl rfl (by omega) (by omega) hXM rfl (Nat.le_of_ble_eq_true rfl) (Nat.zero_le _) (Nat.zero_le _) (m_move (G := G) ((xa_xs G) (i + 1)) ((xa_xs G) (i + 2)) (hxs _) (hxs _) hM) (fun r h' hq => ?_)
    obtain ⟨hq, hn2, hf2⟩ := hq
    rcases hq with ⟨z1, rfl, hM⟩ | ⟨wn2, z1, z2, z3, rfl, hM⟩ | ⟨wn2, z1, z2, z3, rfl, hM⟩
    · skip
      exfalso
      first | omega | (cases (show wn2 = wn by omega); omega)
    · skip
      exfalso
      first | omega | (cases (show wn2 = wn by omega); omega)
    · skip
      have ew : wn2 = wn := by omega
      subst ew
      have hC := hC.fr (fun i hi => hf2 i (by omega)) (by omega)
      obtain ⟨fsC, hXC⟩ := hC.cell
      obtain ⟨⟨fsM, hXM⟩, hh91⟩ := hM.cell
      refine xa_scr0 (fun hSc => ?_)
      refine xa_icmp_eqs (pc := 383) (tgt := 991) dL_law_383 (by decide) ?_
      exact hNx _ _ _ _ _ _ _ _ _ _ _ _ _ _ _ _ _ _ _ _ _ _ _ _ _ _ _ _ hC hM (by omega) (by omega)
set_option maxHeartbeats 1000000 in
theorem lw_noWay {G : xa_G} {Z : xa_Zt} {h : xa_H} {i : Nat} {n : Nat} {f ld dg : Nat → Int} {pa jo : Nat} {wa sr pu ri : Int} {mv le fi : Nat → Int} {pc kp : Nat} {mv1 le1 fi1 : Nat → Int} {pc1 : Nat} {mv2 le2 fi2 : Nat → Int} {pc2 : Nat} {bc bs : Nat} {mc ms : Nat} (hi : i + 5 ≤ xa_L G) (hxs : ∀ j, xa_ok (xa_xs G j)) (hC : xCW h 2 n f ld dg pa jo wa sr pu ri mv le fi pc kp mv1 le1 fi1 pc1 mv2 le2 fi2 pc2 bc bs) (hM : xMW h 74 n f ld dg pa jo wa sr pu ri mv le fi pc kp mv1 le1 fi1 pc1 mv2 le2 fi2 pc2) (hmc : bc ≤ mc) (hms : bs ≤ ms) (hNx : lwN G Z i) : xa_W G mL_law Z 388 [some (xa_r 0), some (xa_r 2), some (xa_r 74), some (xa_i ((i : Nat) : Int))] [] h mc ms := by
  obtain ⟨fsC, hXC⟩ := hC.cell
  obtain ⟨⟨fsM, hXM⟩, hh91⟩ := hM.cell
  refine xa_scr0 (fun hSc => ?_)
  refine xa_aload_n (pc := 388) dL_law_388 rfl ?_
  refine xa_aload_n (pc := 389) dL_law_389 rfl ?_
  refine xa_iload_n (pc := 390) dL_law_390 rfl ?_
  refine xa_iconst (pc := 391) dL_law_391 ?_
  refine xa_iadd (pc := 392) dL_law_392 ?_
  refine xa_ialdw (pc := 393) (i + 1) dL_law_393 (by omega) hSc (by omega) (by omega) (by omega) ?_
  refine xa_callV (pc := 394) (as := [xa_i ((xa_xs G) (i + 1))]) (rest := []) dL_law_394 ⟨qX9_noWay.1, qX9_noWay.2.1, qX9_noWay.2.2, by decide, by decide⟩ lkRL_51 imX9_noWay seX9_noWay rfl rfl (by omega) (by omega) hXC rfl (Nat.le_of_ble_eq_true rfl) (Nat.zero_le _) (Nat.zero_le _) (s_noWay (G := G) ((xa_xs G) (i + 1)) (hxs _) hC) (fun r h' hq => ?_)
  obtain ⟨hq, hfr, hh⟩ := hq
  rcases hq with ⟨y1, rfl, hC⟩ | ⟨wn, y1, y2, rfl, hC⟩
  · skip
    have hM := hM.fr (fun i hi hj => hfr i (by omega) (by omega)) hh
    obtain ⟨fsC, hXC⟩ := hC.cell
    obtain ⟨⟨fsM, hXM⟩, hh91⟩ := hM.cell
    refine xa_scr0 (fun hSc => ?_)
    refine xa_aload_n (pc := 397) dL_law_397 rfl ?_
    refine xa_aload_n (pc := 398) dL_law_398 rfl ?_
    refine xa_iload_n (pc := 399) dL_law_399 rfl ?_
    refine xa_iconst (pc := 400) dL_law_400 ?_
    refine xa_iadd (pc := 401) dL_law_401 ?_
    refine xa_ialdw (pc := 402) (i + 1) dL_law_402 (by omega) hSc (by omega) (by omega) (by omega) ?_
    refine xa_callV (pc := 403) (as := [xa_i ((xa_xs G) (i + 1))]) (rest := [xa_i (-1)]) dL_law_403 ⟨qX10_noWay.1, qX10_noWay.2.1, qX10_noWay.2.2, by decide, by decide⟩ lkRL_54 imX10_noWay seX10_noWay rfl rfl (by omega) (by omega) hXM rfl (Nat.le_of_ble_eq_true rfl) (Nat.zero_le _) (Nat.zero_le _) (m_noWay (G := G) ((xa_xs G) (i + 1)) (hxs _) hM) (fun r h' hq => ?_)
    obtain ⟨hq, hn2, hf2⟩ := hq
    rcases hq with ⟨z1, rfl, hM⟩ | ⟨wn2, z1, z2, rfl, hM⟩
    · skip
      have hC := hC.fr (fun i hi => hf2 i (by omega)) (by omega)
      obtain ⟨fsC, hXC⟩ := hC.cell
      obtain ⟨⟨fsM, hXM⟩, hh91⟩ := hM.cell
      refine xa_scr0 (fun hSc => ?_)
      refine xa_icmp_eqs (pc := 406) (tgt := 991) dL_law_406 (by decide) ?_
      exact hNx _ _ _ _ _ _ _ _ _ _ _ _ _ _ _ _ _ _ _ _ _ _ _ _ _ _ _ _ hC hM (by omega) (by omega)
    · skip
      exfalso
      omega
  · skip
    have hM := hM.fr (fun i hi hj => hfr i (by omega) (by omega)) hh
    obtain ⟨fsC, hXC⟩ := hC.cell
    obtain ⟨⟨fsM, hXM⟩, hh91⟩ := hM.cell
    refine xa_scr0 (fun hSc => ?_)
    refine xa_aload_n (pc := 397) dL_law_397 rfl ?_
    refine xa_aload_n (pc := 398) dL_law_398 rfl ?_
    refine xa_iload_n (pc := 399) dL_law_399 rfl ?_
    refine xa_iconst (pc := 400) dL_law_400 ?_
    refine xa_iadd (pc := 401) dL_law_401 ?_
    refine xa_ialdw (pc := 402) (i + 1) dL_law_402 (by omega) hSc (by omega) (by omega) (by omega) ?_
    refine xa_callV (pc := 403) (as := [xa_i ((xa_xs G) (i + 1))]) (rest := [xa_i _]) dL_law_403 ⟨qX10_noWay.1, qX10_noWay.2.1, qX10_noWay.2.2, by decide, by decide⟩ lkRL_54 imX10_noWay seX10_noWay rfl rfl (by omega) (by omega) hXM rfl (Nat.le_of_ble_eq_true rfl) (Nat.zero_le _) (Nat.zero_le _) (m_noWay (G := G) ((xa_xs G) (i + 1)) (hxs _) hM) (fun r h' hq => ?_)
    obtain ⟨hq, hn2, hf2⟩ := hq
    rcases hq with ⟨z1, rfl, hM⟩ | ⟨wn2, z1, z2, rfl, hM⟩
    · skip
      exfalso
      omega
    · skip
      have ew : wn2 = wn := by omega
      subst ew
      have hC := hC.fr (fun i hi => hf2 i (by omega)) (by omega)
      obtain ⟨fsC, hXC⟩ := hC.cell
      obtain ⟨⟨fsM, hXM⟩, hh91⟩ := hM.cell
      refine xa_scr0 (fun hSc => ?_)
      refine xa_icmp_eqs (pc := 406) (tgt := 991) dL_law_406 (by decide) ?_
      exact hNx _ _ _ _ _ _ _ _ _ _ _ _ _ _ _ _ _ _ _ _ _ _ _ _ _ _ _ _ hC hM (by omega) (by omega)
set_option maxHeartbeats 1000000 in
theorem lw_picture {G : xa_G} {Z : xa_Zt} {h : xa_H} {i : Nat} {n : Nat} {f ld dg : Nat → Int} {pa jo : Nat} {wa sr pu ri : Int} {mv le fi : Nat → Int} {pc kp : Nat} {mv1 le1 fi1 : Nat → Int} {pc1 : Nat} {mv2 le2 fi2 : Nat → Int} {pc2 : Nat} {bc bs : Nat} {mc ms : Nat} (hi : i + 5 ≤ xa_L G) (hxs : ∀ j, xa_ok (xa_xs G j)) (hC : xCW h 2 n f ld dg pa jo wa sr pu ri mv le fi pc kp mv1 le1 fi1 pc1 mv2 le2 fi2 pc2 bc bs) (hM : xMW h 74 n f ld dg pa jo wa sr pu ri mv le fi pc kp mv1 le1 fi1 pc1 mv2 le2 fi2 pc2) (hmc : bc ≤ mc) (hms : bs ≤ ms) (hNx : lwN G Z i) : xa_W G mL_law Z 701 [some (xa_r 0), some (xa_r 2), some (xa_r 74), some (xa_i ((i : Nat) : Int))] [] h mc ms := by
  obtain ⟨fsC, hXC⟩ := hC.cell
  obtain ⟨⟨fsM, hXM⟩, hh91⟩ := hM.cell
  refine xa_scr0 (fun hSc => ?_)
  refine xa_aload_n (pc := 701) dL_law_701 rfl ?_
  refine xa_aload_n (pc := 702) dL_law_702 rfl ?_
  refine xa_iload_n (pc := 703) dL_law_703 rfl ?_
  refine xa_iconst (pc := 704) dL_law_704 ?_
  refine xa_iadd (pc := 705) dL_law_705 ?_
  refine xa_ialdw (pc := 706) (i + 1) dL_law_706 (by omega) hSc (by omega) (by omega) (by omega) ?_
  refine xa_aload_n (pc := 707) dL_law_707 rfl ?_
  refine xa_iload_n (pc := 708) dL_law_708 rfl ?_
  refine xa_iconst (pc := 709) dL_law_709 ?_
  refine xa_iadd (pc := 710) dL_law_710 ?_
  refine xa_ialdw (pc := 711) (i + 2) dL_law_711 (by omega) hSc (by omega) (by omega) (by omega) ?_
  refine xa_aload_n (pc := 712) dL_law_712 rfl ?_
  refine xa_iload_n (pc := 713) dL_law_713 rfl ?_
  refine xa_iconst (pc := 714) dL_law_714 ?_
  refine xa_iadd (pc := 715) dL_law_715 ?_
  refine xa_ialdw (pc := 716) (i + 3) dL_law_716 (by omega) hSc (by omega) (by omega) (by omega) ?_
  refine xa_aload_n (pc := 717) dL_law_717 rfl ?_
  refine xa_iload_n (pc := 718) dL_law_718 rfl ?_
  refine xa_iconst (pc := 719) dL_law_719 ?_
  refine xa_iadd (pc := 720) dL_law_720 ?_
  refine xa_ialdw (pc := 721) (i + 4) dL_law_721 (by omega) hSc (by omega) (by omega) (by omega) ?_
  refine xa_callV (pc := 722) (as := [xa_i ((xa_xs G) (i + 1)), xa_i ((xa_xs G) (i + 2)), xa_i ((xa_xs G) (i + 3)), xa_i ((xa_xs G) (i + 4))]) (rest := []) dL_law_722 ⟨qX9_picture.1, qX9_picture.2.1, qX9_picture.2.2, by decide, by decide⟩ lkRL_96 imX9_picture seX9_picture rfl rfl (by omega) (by omega) hXC rfl (Nat.le_of_ble_eq_true rfl) (Nat.zero_le _) (Nat.zero_le _) (s_picture (G := G) ((xa_xs G) (i + 1)) ((xa_xs G) (i + 2)) ((xa_xs G) (i + 3)) ((xa_xs G) (i + 4)) (hxs _) (hxs _) (hxs _) (hxs _) hC) (fun r h' hq => ?_)
  obtain ⟨hq, hfr, hh⟩ := hq
  rcases hq with ⟨y1, rfl, hC⟩ | ⟨y1, y2, rfl, hC⟩ | ⟨y1, y2, rfl, hC⟩
  · skip
    have hM := hM.fr (fun i hi hj => hfr i (by omega) (by omega)) hh
    obtain ⟨fsC, hXC⟩ := hC.cell
    obtain ⟨⟨fsM, hXM⟩, hh91⟩ := hM.cell
    refine xa_scr0 (fun hSc => ?_)
    refine xa_aload_n (pc := 725) dL_law_725 rfl ?_
    refine xa_aload_n (pc := 726) dL_law_726 rfl ?_
    refine xa_iload_n (pc := 727) dL_law_727 rfl ?_
    refine xa_iconst (pc := 728) dL_law_728 ?_
    refine xa_iadd (pc := 729) dL_law_729 ?_
    refine xa_ialdw (pc := 730) (i + 1) dL_law_730 (by omega) hSc (by omega) (by omega) (by omega) ?_
    refine xa_aload_n (pc := 731) dL_law_731 rfl ?_
    refine xa_iload_n (pc := 732) dL_law_732 rfl ?_
    refine xa_iconst (pc := 733) dL_law_733 ?_
    refine xa_iadd (pc := 734) dL_law_734 ?_
    refine xa_ialdw (pc := 735) (i + 2) dL_law_735 (by omega) hSc (by omega) (by omega) (by omega) ?_
    refine xa_aload_n (pc := 736) dL_law_736 rfl ?_
    refine xa_iload_n (pc := 737) dL_law_737 rfl ?_
    refine xa_iconst (pc := 738) dL_law_738 ?_
    refine xa_iadd (pc := 739) dL_law_739 ?_
    refine xa_ialdw (pc := 740) (i + 3) dL_law_740 (by omega) hSc (by omega) (by omega) (by omega) ?_
    refine xa_aload_n (pc := 741) dL_law_741 rfl ?_
    refine xa_iload_n (pc := 742) dL_law_742 rfl ?_
    refine xa_iconst (pc := 743) dL_law_743 ?_
    refine xa_iadd (pc := 744) dL_law_744 ?_
    refine xa_ialdw (pc := 745) (i + 4) dL_law_745 (by omega) hSc (by omega) (by omega) (by omega) ?_
    refine xa_callV (pc := 746) (as := [xa_i ((xa_xs G) (i + 1)), xa_i ((xa_xs G) (i + 2)), xa_i ((xa_xs G) (i + 3)), xa_i ((xa_xs G) (i + 4))]) (rest := [xa_i (-1)]) dL_law_746 ⟨qX10_picture.1, qX10_picture.2.1, qX10_picture.2.2, by decide, by decide⟩ lkRL_99 imX10_picture seX10_picture rfl rfl (by omega) (by omega) hXM rfl (Nat.le_of_ble_eq_true rfl) (Nat.zero_le _) (Nat.zero_le _) (m_picture (G := G) ((xa_xs G) (i + 1)) ((xa_xs G) (i + 2)) ((xa_xs G) (i + 3)) ((xa_xs G) (i + 4)) (hxs _) (hxs _) (hxs _) (hxs _) hM) (fun r h' hq => ?_)
    obtain ⟨hq, hn2, hf2⟩ := hq
    rcases hq with ⟨z1, rfl, hM⟩ | ⟨z1, z2, rfl, hM⟩ | ⟨z1, z2, rfl, hM⟩
    · skip
      have hC := hC.fr (fun i hi => hf2 i (by omega)) (by omega)
      obtain ⟨fsC, hXC⟩ := hC.cell
      obtain ⟨⟨fsM, hXM⟩, hh91⟩ := hM.cell
      refine xa_scr0 (fun hSc => ?_)
      refine xa_icmp_eqs (pc := 749) (tgt := 991) dL_law_749 (by decide) ?_
      exact hNx _ _ _ _ _ _ _ _ _ _ _ _ _ _ _ _ _ _ _ _ _ _ _ _ _ _ _ _ hC hM (by omega) (by omega)
    · skip
      exfalso
      omega
    · skip
      exfalso
      omega
  · skip
    have hM := hM.fr (fun i hi hj => hfr i (by omega) (by omega)) hh
    obtain ⟨fsC, hXC⟩ := hC.cell
    obtain ⟨⟨fsM, hXM⟩, hh91⟩ := hM.cell
    refine xa_scr0 (fun hSc => ?_)
    refine xa_aload_n (pc := 725) dL_law_725 rfl ?_
    refine xa_aload_n (pc := 726) dL_law_726 rfl ?_
    refine xa_iload_n (pc := 727) dL_law_727 rfl ?_
    refine xa_iconst (pc := 728) dL_law_728 ?_
    refine xa_iadd (pc := 729) dL_law_729 ?_
    refine xa_ialdw (pc := 730) (i + 1) dL_law_730 (by omega) hSc (by omega) (by omega) (by omega) ?_
    refine xa_aload_n (pc := 731) dL_law_731 rfl ?_
    refine xa_iload_n (pc := 732) dL_law_732 rfl ?_
    refine xa_iconst (pc := 733) dL_law_733 ?_
    refine xa_iadd (pc := 734) dL_law_734 ?_
    refine xa_ialdw (pc := 735) (i + 2) dL_law_735 (by omega) hSc (by omega) (by omega) (by omega) ?_
    refine xa_aload_n (pc := 736) dL_law_736 rfl ?_
    refine xa_iload_n (pc := 737) dL_law_737 rfl ?_
    refine xa_iconst (pc := 738) dL_law_738 ?_
    refine xa_iadd (pc := 739) dL_law_739 ?_
    refine xa_ialdw (pc := 740) (i + 3) dL_law_740 (by omega) hSc (by omega) (by omega) (by omega) ?_
    refine xa_aload_n (pc := 741) dL_law_741 rfl ?_
    refine xa_iload_n (pc := 742) dL_law_742 rfl ?_
    refine xa_iconst (pc := 743) dL_law_743 ?_
    refine xa_iadd (pc := 744) dL_law_744 ?_
    refine xa_ialdw (pc := 745) (i + 4) dL_law_745 (by omega) hSc (by omega) (by omega) (by omega) ?_
    refine xa_callV (pc := 746) (as := [xa_i ((xa_xs G) (i + 1)), xa_i ((xa_xs G) (i + 2)), xa_i ((xa_xs G) (i + 3)), xa_i ((xa_xs G) (i + 4))]) (rest := [xa_i (-3)]) dL_law_746 ⟨qX10_picture.1, qX10_picture.2.1, qX10_picture.2.2, by decide, by decide⟩ lkRL_99 imX10_picture seX10_picture rfl rfl (by omega) (by omega) hXM rfl (Nat.le_of_ble_eq_true rfl) (Nat.zero_le _) (Nat.zero_le _) (m_picture (G := G) ((xa_xs G) (i + 1)) ((xa_xs G) (i + 2)) ((xa_xs G) (i + 3)) ((xa_xs G) (i + 4)) (hxs _) (hxs _) (hxs _) (hxs _) hM) (fun r h' hq => ?_)
    obtain ⟨hq, hn2, hf2⟩ := hq
    rcases hq with ⟨z1, rfl, hM⟩ | ⟨z1, z2, rfl, hM⟩ | ⟨z1, z2, rfl, hM⟩
    · skip
      exfalso
      omega
    · skip
      have hC := hC.fr (fun i hi => hf2 i (by omega)) (by omega)
      obtain ⟨fsC, hXC⟩ := hC.cell
      obtain ⟨⟨fsM, hXM⟩, hh91⟩ := hM.cell
      refine xa_scr0 (fun hSc => ?_)
      refine xa_icmp_eqs (pc := 749) (tgt := 991) dL_law_749 (by decide) ?_
      exact hNx _ _ _ _ _ _ _ _ _ _ _ _ _ _ _ _ _ _ _ _ _ _ _ _ _ _ _ _ hC hM (by omega) (by omega)
    · skip
      exfalso
      omega
  · skip
    have hM := hM.fr (fun i hi hj => hfr i (by omega) (by omega)) hh
    obtain ⟨fsC, hXC⟩ := hC.cell
    obtain ⟨⟨fsM, hXM⟩, hh91⟩ := hM.cell
    refine xa_scr0 (fun hSc => ?_)
    refine xa_aload_n (pc := 725) dL_law_725 rfl ?_
    refine xa_aload_n (pc := 726) dL_law_726 rfl ?_
    refine xa_iload_n (pc := 727) dL_law_727 rfl ?_
    refine xa_iconst (pc := 728) dL_law_728 ?_
    refine xa_iadd (pc := 729) dL_law_729 ?_
    refine xa_ialdw (pc := 730) (i + 1) dL_law_730 (by omega) hSc (by omega) (by omega) (by omega) ?_
    refine xa_aload_n (pc := 731) dL_law_731 rfl ?_
    refine xa_iload_n (pc := 732) dL_law_732 rfl ?_
    refine xa_iconst (pc := 733) dL_law_733 ?_
    refine xa_iadd (pc := 734) dL_law_734 ?_
    refine xa_ialdw (pc := 735) (i + 2) dL_law_735 (by omega) hSc (by omega) (by omega) (by omega) ?_
    refine xa_aload_n (pc := 736) dL_law_736 rfl ?_
    refine xa_iload_n (pc := 737) dL_law_737 rfl ?_
    refine xa_iconst (pc := 738) dL_law_738 ?_
    refine xa_iadd (pc := 739) dL_law_739 ?_
    refine xa_ialdw (pc := 740) (i + 3) dL_law_740 (by omega) hSc (by omega) (by omega) (by omega) ?_
    refine xa_aload_n (pc := 741) dL_law_741 rfl ?_
    refine xa_iload_n (pc := 742) dL_law_742 rfl ?_
    refine xa_iconst (pc := 743) dL_law_743 ?_
    refine xa_iadd (pc := 744) dL_law_744 ?_
    refine xa_ialdw (pc := 745) (i + 4) dL_law_745 (by omega) hSc (by omega) (by omega) (by omega) ?_
    refine xa_callV (pc := 746) (as := [xa_i ((xa_xs G) (i + 1)), xa_i ((xa_xs G) (i + 2)), xa_i ((xa_xs G) (i + 3)), xa_i ((xa_xs G) (i + 4))]) (rest := [xa_i _]) dL_law_746 ⟨qX10_picture.1, qX10_picture.2.1, qX10_picture.2.2, by decide, by decide⟩ lkRL_99 imX10_picture seX10_picture rfl rfl (by omega) (by omega) hXM rfl (Nat.le_of_ble_eq_true rfl) (Nat.zero_le _) (Nat.zero_le _) (m_picture (G := G) ((xa_xs G) (i + 1)) ((xa_xs G) (i + 2)) ((xa_xs G) (i + 3)) ((xa_xs G) (i + 4)) (hxs _) (hxs _) (hxs _) (hxs _) hM) (fun r h' hq => ?_)
    obtain ⟨hq, hn2, hf2⟩ := hq
    rcases hq with ⟨z1, rfl, hM⟩ | ⟨z1, z2, rfl, hM⟩ | ⟨z1, z2, rfl, hM⟩
    · skip
      exfalso
      omega
    · skip
      exfalso
      omega
    · skip
      have hC := hC.fr (fun i hi => hf2 i (by omega)) (by omega)
      obtain ⟨fsC, hXC⟩ := hC.cell
      obtain ⟨⟨fsM, hXM⟩, hh91⟩ := hM.cell
      refine xa_scr0 (fun hSc => ?_)
      refine xa_icmp_eqs (pc := 749) (tgt := 991) dL_law_749 (by decide) ?_
      exact hNx _ _ _ _ _ _ _ _ _ _ _ _ _ _ _ _ _ _ _ _ _ _ _ _ _ _ _ _ hC hM (by omega) (by omega)
set_option maxHeartbeats 1000000 in
theorem lw_keep {G : xa_G} {Z : xa_Zt} {h : xa_H} {i : Nat} {n : Nat} {f ld dg : Nat → Int} {pa jo : Nat} {wa sr pu ri : Int} {mv le fi : Nat → Int} {pc kp : Nat} {mv1 le1 fi1 : Nat → Int} {pc1 : Nat} {mv2 le2 fi2 : Nat → Int} {pc2 : Nat} {bc bs : Nat} {mc ms : Nat} (hi : i + 5 ≤ xa_L G) (hxs : ∀ j, xa_ok (xa_xs G j)) (hC : xCW h 2 n f ld dg pa jo wa sr pu ri mv le fi pc kp mv1 le1 fi1 pc1 mv2 le2 fi2 pc2 bc bs) (hM : xMW h 74 n f ld dg pa jo wa sr pu ri mv le fi pc kp mv1 le1 fi1 pc1 mv2 le2 fi2 pc2) (hmc : bc ≤ mc) (hms : bs ≤ ms) (hNx : lwN G Z i) : xa_W G mL_law Z 942 [some (xa_r 0), some (xa_r 2), some (xa_r 74), some (xa_i ((i : Nat) : Int))] [] h mc ms := by
  obtain ⟨fsC, hXC⟩ := hC.cell
  obtain ⟨⟨fsM, hXM⟩, hh91⟩ := hM.cell
  refine xa_scr0 (fun hSc => ?_)
  refine xa_aload_n (pc := 942) dL_law_942 rfl ?_
  refine xa_callV (pc := 943) (as := []) (rest := []) dL_law_943 ⟨qX9_keep.1, qX9_keep.2.1, qX9_keep.2.2, by decide, by decide⟩ lkRL_124 imX9_keep seX9_keep rfl rfl (by omega) (by omega) hXC rfl (Nat.le_of_ble_eq_true rfl) (Nat.zero_le _) (Nat.zero_le _) (s_keep (G := G)  hC) (fun r h' hq => ?_)
  obtain ⟨hq, hfr, hh⟩ := hq
  rcases hq with ⟨y1, rfl, hC⟩ | ⟨y1, rfl, hC⟩ | ⟨y1, rfl, hC⟩
  · skip
    have hM := hM.fr (fun i hi hj => hfr i (by omega) (by omega)) hh
    obtain ⟨fsC, hXC⟩ := hC.cell
    obtain ⟨⟨fsM, hXM⟩, hh91⟩ := hM.cell
    refine xa_scr0 (fun hSc => ?_)
    refine xa_aload_n (pc := 946) dL_law_946 rfl ?_
    refine xa_callV (pc := 947) (as := []) (rest := [xa_i 1]) dL_law_947 ⟨qX10_keep.1, qX10_keep.2.1, qX10_keep.2.2, by decide, by decide⟩ lkRL_127 imX10_keep seX10_keep rfl rfl (by omega) (by omega) hXM rfl (Nat.le_of_ble_eq_true rfl) (Nat.zero_le _) (Nat.zero_le _) (m_keep (G := G)  hM) (fun r h' hq => ?_)
    obtain ⟨hq, hn2, hf2⟩ := hq
    rcases hq with ⟨z1, rfl, hM⟩ | ⟨z1, rfl, hM⟩ | ⟨z1, rfl, hM⟩
    · skip
      have hC := hC.fr (fun i hi => hf2 i (by omega)) (by omega)
      obtain ⟨fsC, hXC⟩ := hC.cell
      obtain ⟨⟨fsM, hXM⟩, hh91⟩ := hM.cell
      refine xa_scr0 (fun hSc => ?_)
      refine xa_icmp_eqs (pc := 950) (tgt := 991) dL_law_950 (by decide) ?_
      exact hNx _ _ _ _ _ _ _ _ _ _ _ _ _ _ _ _ _ _ _ _ _ _ _ _ _ _ _ _ hC hM (by omega) (by omega)
    · skip
      exfalso
      omega
    · skip
      exfalso
      omega
  · skip
    have hM := hM.fr (fun i hi hj => hfr i (by omega) (by omega)) hh
    obtain ⟨fsC, hXC⟩ := hC.cell
    obtain ⟨⟨fsM, hXM⟩, hh91⟩ := hM.cell
    refine xa_scr0 (fun hSc => ?_)
    refine xa_aload_n (pc := 946) dL_law_946 rfl ?_
    refine xa_callV (pc := 947) (as := []) (rest := [xa_i 2]) dL_law_947 ⟨qX10_keep.1, qX10_keep.2.1, qX10_keep.2.2, by decide, by decide⟩ lkRL_127 imX10_keep seX10_keep rfl rfl (by omega) (by omega) hXM rfl (Nat.le_of_ble_eq_true rfl) (Nat.zero_le _) (Nat.zero_le _) (m_keep (G := G)  hM) (fun r h' hq => ?_)
    obtain ⟨hq, hn2, hf2⟩ := hq
    rcases hq with ⟨z1, rfl, hM⟩ | ⟨z1, rfl, hM⟩ | ⟨z1, rfl, hM⟩
    · skip
      exfalso
      omega
    · skip
      have hC := hC.fr (fun i hi => hf2 i (by omega)) (by omega)
      obtain ⟨fsC, hXC⟩ := hC.cell
      obtain ⟨⟨fsM, hXM⟩, hh91⟩ := hM.cell
      refine xa_scr0 (fun hSc => ?_)
      refine xa_icmp_eqs (pc := 950) (tgt := 991) dL_law_950 (by decide) ?_
      exact hNx _ _ _ _ _ _ _ _ _ _ _ _ _ _ _ _ _ _ _ _ _ _ _ _ _ _ _ _ hC hM (by omega) (by omega)
    · skip
      exfalso
      omega
  · skip
    have hM := hM.fr (fun i hi hj => hfr i (by omega) (by omega)) hh
    obtain ⟨fsC, hXC⟩ := hC.cell
    obtain ⟨⟨fsM, hXM⟩, hh91⟩ := hM.cell
    refine xa_scr0 (fun hSc => ?_)
    refine xa_aload_n (pc := 946) dL_law_946 rfl ?_
    refine xa_callV (pc := 947) (as := []) (rest := [xa_i (-3)]) dL_law_947 ⟨qX10_keep.1, qX10_keep.2.1, qX10_keep.2.2, by decide, by decide⟩ lkRL_127 imX10_keep seX10_keep rfl rfl (by omega) (by omega) hXM rfl (Nat.le_of_ble_eq_true rfl) (Nat.zero_le _) (Nat.zero_le _) (m_keep (G := G)  hM) (fun r h' hq => ?_)
    obtain ⟨hq, hn2, hf2⟩ := hq
    rcases hq with ⟨z1, rfl, hM⟩ | ⟨z1, rfl, hM⟩ | ⟨z1, rfl, hM⟩
    · skip
      exfalso
      omega
    · skip
      exfalso
      omega
    · skip
      have hC := hC.fr (fun i hi => hf2 i (by omega)) (by omega)
      obtain ⟨fsC, hXC⟩ := hC.cell
      obtain ⟨⟨fsM, hXM⟩, hh91⟩ := hM.cell
      refine xa_scr0 (fun hSc => ?_)
      refine xa_icmp_eqs (pc := 950) (tgt := 991) dL_law_950 (by decide) ?_
      exact hNx _ _ _ _ _ _ _ _ _ _ _ _ _ _ _ _ _ _ _ _ _ _ _ _ _ _ _ _ hC hM (by omega) (by omega)
set_option maxHeartbeats 1000000 in
theorem lw_back {G : xa_G} {Z : xa_Zt} {h : xa_H} {i : Nat} {n : Nat} {f ld dg : Nat → Int} {pa jo : Nat} {wa sr pu ri : Int} {mv le fi : Nat → Int} {pc kp : Nat} {mv1 le1 fi1 : Nat → Int} {pc1 : Nat} {mv2 le2 fi2 : Nat → Int} {pc2 : Nat} {bc bs : Nat} {mc ms : Nat} (hi : i + 5 ≤ xa_L G) (hxs : ∀ j, xa_ok (xa_xs G j)) (hC : xCW h 2 n f ld dg pa jo wa sr pu ri mv le fi pc kp mv1 le1 fi1 pc1 mv2 le2 fi2 pc2 bc bs) (hM : xMW h 74 n f ld dg pa jo wa sr pu ri mv le fi pc kp mv1 le1 fi1 pc1 mv2 le2 fi2 pc2) (hmc : bc ≤ mc) (hms : bs ≤ ms) (hNx : lwN G Z i) : xa_W G mL_law Z 955 [some (xa_r 0), some (xa_r 2), some (xa_r 74), some (xa_i ((i : Nat) : Int))] [] h mc ms := by
  obtain ⟨fsC, hXC⟩ := hC.cell
  obtain ⟨⟨fsM, hXM⟩, hh91⟩ := hM.cell
  refine xa_scr0 (fun hSc => ?_)
  refine xa_aload_n (pc := 955) dL_law_955 rfl ?_
  refine xa_callV (pc := 956) (as := []) (rest := []) dL_law_956 ⟨qX9_back.1, qX9_back.2.1, qX9_back.2.2, by decide, by decide⟩ lkRL_128 imX9_back seX9_back rfl rfl (by omega) (by omega) hXC rfl (Nat.le_of_ble_eq_true rfl) (Nat.zero_le _) (Nat.zero_le _) (s_back (G := G)  hC) (fun r h' hq => ?_)
  obtain ⟨hq, hfr, hh⟩ := hq
  rcases hq with ⟨y1, rfl, hC⟩ | ⟨y1, rfl, hC⟩ | ⟨y1, rfl, hC⟩
  · skip
    have hM := hM.fr (fun i hi hj => hfr i (by omega) (by omega)) hh
    obtain ⟨fsC, hXC⟩ := hC.cell
    obtain ⟨⟨fsM, hXM⟩, hh91⟩ := hM.cell
    refine xa_scr0 (fun hSc => ?_)
    refine xa_aload_n (pc := 959) dL_law_959 rfl ?_
    refine xa_callV (pc := 960) (as := []) (rest := [xa_i (-2)]) dL_law_960 ⟨qX10_back.1, qX10_back.2.1, qX10_back.2.2, by decide, by decide⟩ lkRL_131 imX10_back seX10_back rfl rfl (by omega) (by omega) hXM rfl (Nat.le_of_ble_eq_true rfl) (Nat.zero_le _) (Nat.zero_le _) (m_back (G := G)  hM) (fun r h' hq => ?_)
    obtain ⟨hq, hn2, hf2⟩ := hq
    rcases hq with ⟨z1, rfl, hM⟩ | ⟨z1, rfl, hM⟩ | ⟨z1, rfl, hM⟩
    · skip
      have hC := hC.fr (fun i hi => hf2 i (by omega)) (by omega)
      obtain ⟨fsC, hXC⟩ := hC.cell
      obtain ⟨⟨fsM, hXM⟩, hh91⟩ := hM.cell
      refine xa_scr0 (fun hSc => ?_)
      refine xa_icmp_eqs (pc := 963) (tgt := 991) dL_law_963 (by decide) ?_
      exact hNx _ _ _ _ _ _ _ _ _ _ _ _ _ _ _ _ _ _ _ _ _ _ _ _ _ _ _ _ hC hM (by omega) (by omega)
    · skip
      exfalso
      omega
    · skip
      exfalso
      omega
  · skip
    have hM := hM.fr (fun i hi hj => hfr i (by omega) (by omega)) hh
    obtain ⟨fsC, hXC⟩ := hC.cell
    obtain ⟨⟨fsM, hXM⟩, hh91⟩ := hM.cell
    refine xa_scr0 (fun hSc => ?_)
    refine xa_aload_n (pc := 959) dL_law_959 rfl ?_
    refine xa_callV (pc := 960) (as := []) (rest := [xa_i 0]) dL_law_960 ⟨qX10_back.1, qX10_back.2.1, qX10_back.2.2, by decide, by decide⟩ lkRL_131 imX10_back seX10_back rfl rfl (by omega) (by omega) hXM rfl (Nat.le_of_ble_eq_true rfl) (Nat.zero_le _) (Nat.zero_le _) (m_back (G := G)  hM) (fun r h' hq => ?_)
    obtain ⟨hq, hn2, hf2⟩ := hq
    rcases hq with ⟨z1, rfl, hM⟩ | ⟨z1, rfl, hM⟩ | ⟨z1, rfl, hM⟩
    · skip
      exfalso
      omega
    · skip
      have hC := hC.fr (fun i hi => hf2 i (by omega)) (by omega)
      obtain ⟨fsC, hXC⟩ := hC.cell
      obtain ⟨⟨fsM, hXM⟩, hh91⟩ := hM.cell
      refine xa_scr0 (fun hSc => ?_)
      refine xa_icmp_eqs (pc := 963) (tgt := 991) dL_law_963 (by decide) ?_
      exact hNx _ _ _ _ _ _ _ _ _ _ _ _ _ _ _ _ _ _ _ _ _ _ _ _ _ _ _ _ hC hM (by omega) (by omega)
    · skip
      exfalso
      omega
  · skip
    have hM := hM.fr (fun i hi hj => hfr i (by omega) (by omega)) hh
    obtain ⟨fsC, hXC⟩ := hC.cell
    obtain ⟨⟨fsM, hXM⟩, hh91⟩ := hM.cell
    refine xa_scr0 (fun hSc => ?_)
    refine xa_aload_n (pc := 959) dL_law_959 rfl ?_
    refine xa_callV (pc := 960) (as := []) (rest := [xa_i 1]) dL_law_960 ⟨qX10_back.1, qX10_back.2.1, qX10_back.2.2, by decide, by decide⟩ lkRL_131 imX10_back seX10_back rfl rfl (by omega) (by omega) hXM rfl (Nat.le_of_ble_eq_true rfl) (Nat.zero_le _) (Nat.zero_le _) (m_back (G := G)  hM) (fun r h' hq => ?_)
    obtain ⟨hq, hn2, hf2⟩ := hq
    rcases hq with ⟨z1, rfl, hM⟩ | ⟨z1, rfl, hM⟩ | ⟨z1, rfl, hM⟩
    · skip
      exfalso
      omega
    · skip
      exfalso
      omega
    · skip
      have hC := hC.fr (fun i hi => hf2 i (by omega)) (by omega)
      obtain ⟨fsC, hXC⟩ := hC.cell
      obtain ⟨⟨fsM, hXM⟩, hh91⟩ := hM.cell
      refine xa_scr0 (fun hSc => ?_)
      refine xa_icmp_eqs (pc := 963) (tgt := 991) dL_law_963 (by decide) ?_
      exact hNx _ _ _ _ _ _ _ _ _ _ _ _ _ _ _ _ _ _ _ _ _ _ _ _ _ _ _ _ hC hM (by omega) (by omega)
set_option maxHeartbeats 1000000 in
theorem lw_fall {G : xa_G} {Z : xa_Zt} {h : xa_H} {i : Nat} {n : Nat} {f ld dg : Nat → Int} {pa jo : Nat} {wa sr pu ri : Int} {mv le fi : Nat → Int} {pc kp : Nat} {mv1 le1 fi1 : Nat → Int} {pc1 : Nat} {mv2 le2 fi2 : Nat → Int} {pc2 : Nat} {bc bs : Nat} {mc ms : Nat} (hi : i + 5 ≤ xa_L G) (hxs : ∀ j, xa_ok (xa_xs G j)) (hC : xCW h 2 n f ld dg pa jo wa sr pu ri mv le fi pc kp mv1 le1 fi1 pc1 mv2 le2 fi2 pc2 bc bs) (hM : xMW h 74 n f ld dg pa jo wa sr pu ri mv le fi pc kp mv1 le1 fi1 pc1 mv2 le2 fi2 pc2) (hmc : bc ≤ mc) (hms : bs ≤ ms) (hNx : lwN G Z i) : xa_W G mL_law Z 586 [some (xa_r 0), some (xa_r 2), some (xa_r 74), some (xa_i ((i : Nat) : Int))] [] h mc ms := by
  obtain ⟨fsC, hXC⟩ := hC.cell
  obtain ⟨⟨fsM, hXM⟩, hh91⟩ := hM.cell
  refine xa_scr0 (fun hSc => ?_)
  refine xa_aload_n (pc := 586) dL_law_586 rfl ?_
  refine xa_aload_n (pc := 587) dL_law_587 rfl ?_
  refine xa_iload_n (pc := 588) dL_law_588 rfl ?_
  refine xa_iconst (pc := 589) dL_law_589 ?_
  refine xa_iadd (pc := 590) dL_law_590 ?_
  refine xa_ialdw (pc := 591) (i + 1) dL_law_591 (by omega) hSc (by omega) (by omega) (by omega) ?_
  refine xa_callV (pc := 592) (as := [xa_i ((xa_xs G) (i + 1))]) (rest := []) dL_law_592 ⟨qX9_fall.1, qX9_fall.2.1, qX9_fall.2.2, by decide, by decide⟩ lkRL_76 imX9_fall seX9_fall rfl rfl (by omega) (by omega) hXC rfl (Nat.le_of_ble_eq_true rfl) (Nat.zero_le _) (Nat.zero_le _) (s_fall (G := G) ((xa_xs G) (i + 1)) (hxs _) hC) (fun r h' hq => ?_)
  obtain ⟨hq, hC, hfr, hh⟩ := hq
  rcases hq with ⟨y1, rfl⟩ | ⟨y1, t1, rfl, y2, y3⟩
  · skip
    have hM := hM.fr (fun i hi hj => hfr i (by omega) (by omega)) hh
    obtain ⟨fsC, hXC⟩ := hC.cell
    obtain ⟨⟨fsM, hXM⟩, hh91⟩ := hM.cell
    refine xa_scr0 (fun hSc => ?_)
    refine xa_aload_n (pc := 595) dL_law_595 rfl ?_
    refine xa_aload_n (pc := 596) dL_law_596 rfl ?_
    refine xa_iload_n (pc := 597) dL_law_597 rfl ?_
    refine xa_iconst (pc := 598) dL_law_598 ?_
    refine xa_iadd (pc := 599) dL_law_599 ?_
    refine xa_ialdw (pc := 600) (i + 1) dL_law_600 (by omega) hSc (by omega) (by omega) (by omega) ?_
    refine xa_callV (pc := 601) (as := [xa_i ((xa_xs G) (i + 1))]) (rest := [xa_i (-1)]) dL_law_601 ⟨qX10_fall.1, qX10_fall.2.1, qX10_fall.2.2, by decide, by decide⟩ lkRL_79 imX10_fall seX10_fall rfl rfl (by omega) (by omega) hXM rfl (Nat.le_of_ble_eq_true rfl) (Nat.zero_le _) (Nat.zero_le _) (m_fall (G := G) ((xa_xs G) (i + 1)) (hxs _) hM) (fun r h' hq => ?_)
    obtain ⟨hq, hM, hn2, hf2⟩ := hq
    rcases hq with ⟨z1, rfl⟩ | ⟨z1, t2, rfl, z2, z3⟩
    · skip
      have hC := hC.fr (fun i hi => hf2 i (by omega)) (by omega)
      obtain ⟨fsC, hXC⟩ := hC.cell
      obtain ⟨⟨fsM, hXM⟩, hh91⟩ := hM.cell
      refine xa_scr0 (fun hSc => ?_)
      refine xa_icmp_eqs (pc := 604) (tgt := 991) dL_law_604 (by decide) ?_
      exact hNx _ _ _ _ _ _ _ _ _ _ _ _ _ _ _ _ _ _ _ _ _ _ _ _ _ _ _ _ hC hM (by omega) (by omega)
    · skip
      exfalso
      omega
  · skip
    have hM := hM.fr (fun i hi hj => hfr i (by omega) (by omega)) hh
    obtain ⟨fsC, hXC⟩ := hC.cell
    obtain ⟨⟨fsM, hXM⟩, hh91⟩ := hM.cell
    refine xa_scr0 (fun hSc => ?_)
    refine xa_aload_n (pc := 595) dL_law_595 rfl ?_
    refine xa_aload_n (pc := 596) dL_law_596 rfl ?_
    refine xa_iload_n (pc := 597) dL_law_597 rfl ?_
    refine xa_iconst (pc := 598) dL_law_598 ?_
    refine xa_iadd (pc := 599) dL_law_599 ?_
    refine xa_ialdw (pc := 600) (i + 1) dL_law_600 (by omega) hSc (by omega) (by omega) (by omega) ?_
    refine xa_callV (pc := 601) (as := [xa_i ((xa_xs G) (i + 1))]) (rest := [xa_i _]) dL_law_601 ⟨qX10_fall.1, qX10_fall.2.1, qX10_fall.2.2, by decide, by decide⟩ lkRL_79 imX10_fall seX10_fall rfl rfl (by omega) (by omega) hXM rfl (Nat.le_of_ble_eq_true rfl) (Nat.zero_le _) (Nat.zero_le _) (m_fall (G := G) ((xa_xs G) (i + 1)) (hxs _) hM) (fun r h' hq => ?_)
    obtain ⟨hq, hM, hn2, hf2⟩ := hq
    rcases hq with ⟨z1, rfl⟩ | ⟨z1, t2, rfl, z2, z3⟩
    · skip
      exfalso
      omega
    · skip
      have et := sp_fall_1 y2 y3 z2 z3
      subst et
      have hC := hC.fr (fun i hi => hf2 i (by omega)) (by omega)
      obtain ⟨fsC, hXC⟩ := hC.cell
      obtain ⟨⟨fsM, hXM⟩, hh91⟩ := hM.cell
      refine xa_scr0 (fun hSc => ?_)
      refine xa_icmp_eqs (pc := 604) (tgt := 991) dL_law_604 (by decide) ?_
      exact hNx _ _ _ _ _ _ _ _ _ _ _ _ _ _ _ _ _ _ _ _ _ _ _ _ _ _ _ _ hC hM (by omega) (by omega)
set_option maxHeartbeats 1000000 in
theorem lw_fault {G : xa_G} {Z : xa_Zt} {h : xa_H} {i : Nat} {n : Nat} {f ld dg : Nat → Int} {pa jo : Nat} {wa sr pu ri : Int} {mv le fi : Nat → Int} {pc kp : Nat} {mv1 le1 fi1 : Nat → Int} {pc1 : Nat} {mv2 le2 fi2 : Nat → Int} {pc2 : Nat} {bc bs : Nat} {mc ms : Nat} (hi : i + 5 ≤ xa_L G) (hxs : ∀ j, xa_ok (xa_xs G j)) (hC : xCW h 2 n f ld dg pa jo wa sr pu ri mv le fi pc kp mv1 le1 fi1 pc1 mv2 le2 fi2 pc2 bc bs) (hM : xMW h 74 n f ld dg pa jo wa sr pu ri mv le fi pc kp mv1 le1 fi1 pc1 mv2 le2 fi2 pc2) (hmc : bc ≤ mc) (hms : bs ≤ ms) (hNx : lwN G Z i) : xa_W G mL_law Z 240 [some (xa_r 0), some (xa_r 2), some (xa_r 74), some (xa_i ((i : Nat) : Int))] [] h mc ms := by
  obtain ⟨fsC, hXC⟩ := hC.cell
  obtain ⟨⟨fsM, hXM⟩, hh91⟩ := hM.cell
  refine xa_scr0 (fun hSc => ?_)
  refine xa_aload_n (pc := 240) dL_law_240 rfl ?_
  refine xa_callV (pc := 241) (as := []) (rest := []) dL_law_241 ⟨qX9_fault.1, qX9_fault.2.1, qX9_fault.2.2, by decide, by decide⟩ lkRL_25 imX9_fault seX9_fault rfl rfl (by omega) (by omega) hXC rfl (Nat.le_of_ble_eq_true rfl) (Nat.zero_le _) (Nat.zero_le _) (s_fault (G := G) hC) (fun r h' hq => ?_)
  obtain ⟨⟨ld2, dg2, ⟨d1, d2⟩, rfl⟩, hC, hfr, hh⟩ := hq
  have hM := hM.fr (fun i hi hj => hfr i (by omega) (by omega)) hh
  obtain ⟨fsC, hXC⟩ := hC.cell
  obtain ⟨⟨fsM, hXM⟩, hh91⟩ := hM.cell
  refine xa_scr0 (fun hSc => ?_)
  refine xa_aload_n (pc := 244) dL_law_244 rfl ?_
  refine xa_callV (pc := 245) (as := []) (rest := [xa_i _]) dL_law_245 ⟨qX10_fault.1, qX10_fault.2.1, qX10_fault.2.2, by decide, by decide⟩ lkRL_28 imX10_fault seX10_fault rfl rfl (by omega) (by omega) hXM rfl (Nat.le_of_ble_eq_true rfl) (Nat.zero_le _) (Nat.zero_le _) (m_fault (G := G) ld2 dg2 d1 d2 hM) (fun r h' hq => ?_)
  obtain ⟨rfl, hM, hn2, hf2⟩ := hq
  have hC := hC.fr (fun i hi => hf2 i (by omega)) (by omega)
  obtain ⟨fsC, hXC⟩ := hC.cell
  obtain ⟨⟨fsM, hXM⟩, hh91⟩ := hM.cell
  refine xa_scr0 (fun hSc => ?_)
  refine xa_icmp_eqs (pc := 248) (tgt := 991) dL_law_248 (by decide) ?_
  exact hNx _ _ _ _ _ _ _ _ _ _ _ _ _ _ _ _ _ _ _ _ _ _ _ _ _ _ _ _ hC hM (by omega) (by omega)
set_option maxHeartbeats 1000000 in
theorem lw_lay {G : xa_G} {Z : xa_Zt} {h : xa_H} {i : Nat} {n : Nat} {f ld dg : Nat → Int} {pa jo : Nat} {wa sr pu ri : Int} {mv le fi : Nat → Int} {pc kp : Nat} {mv1 le1 fi1 : Nat → Int} {pc1 : Nat} {mv2 le2 fi2 : Nat → Int} {pc2 : Nat} {bc bs : Nat} {mc ms : Nat} (hi : i + 5 ≤ xa_L G) (hxs : ∀ j, xa_ok (xa_xs G j)) (hC : xCW h 2 n f ld dg pa jo wa sr pu ri mv le fi pc kp mv1 le1 fi1 pc1 mv2 le2 fi2 pc2 bc bs) (hM : xMW h 74 n f ld dg pa jo wa sr pu ri mv le fi pc kp mv1 le1 fi1 pc1 mv2 le2 fi2 pc2) (hmc : bc ≤ mc) (hms : bs ≤ ms) (hNx : lwN G Z i) : xa_W G mL_law Z 253 [some (xa_r 0), some (xa_r 2), some (xa_r 74), some (xa_i ((i : Nat) : Int))] [] h mc ms := by
  obtain ⟨fsC, hXC⟩ := hC.cell
  obtain ⟨⟨fsM, hXM⟩, hh91⟩ := hM.cell
  refine xa_scr0 (fun hSc => ?_)
  refine xa_aload_n (pc := 253) dL_law_253 rfl ?_
  refine xa_callV (pc := 254) (as := []) (rest := []) dL_law_254 ⟨qX9_lay.1, qX9_lay.2.1, qX9_lay.2.2, by decide, by decide⟩ lkRL_29 imX9_lay seX9_lay rfl rfl (by omega) (by omega) hXC rfl (Nat.le_of_ble_eq_true rfl) (Nat.zero_le _) (Nat.zero_le _) (s_lay (G := G) hC) (fun r h' hq => ?_)
  obtain ⟨⟨ld2, dg2, ⟨d1, d2⟩, go, ld3, dg3, pa3, jo3, wa3, sr3, pu3, ri3, hgo, hq⟩, hfr, hh⟩ := hq
  rcases hq with ⟨y1, rfl, hC⟩ | ⟨y1, rfl, ld', dg', y2, y3, hC⟩
  · skip
    have hM := hM.fr (fun i hi hj => hfr i (by omega) (by omega)) hh
    obtain ⟨fsC, hXC⟩ := hC.cell
    obtain ⟨⟨fsM, hXM⟩, hh91⟩ := hM.cell
    refine xa_scr0 (fun hSc => ?_)
    refine xa_aload_n (pc := 257) dL_law_257 rfl ?_
    refine xa_callV (pc := 258) (as := []) (rest := [xa_i (-2)]) dL_law_258 ⟨qX10_lay.1, qX10_lay.2.1, qX10_lay.2.2, by decide, by decide⟩ lkRL_32 imX10_lay seX10_lay rfl rfl (by omega) (by omega) hXM rfl (Nat.le_of_ble_eq_true rfl) (Nat.zero_le _) (Nat.zero_le _) (m_lay (G := G) ld2 dg2 d1 d2 hgo hM) (fun r h' hq => ?_)
    obtain ⟨hq, hn2, hf2⟩ := hq
    rcases hq with ⟨z1, rfl, hM⟩ | ⟨z1, rfl, hMM⟩
    · skip
      have hC := hC.fr (fun i hi => hf2 i (by omega)) (by omega)
      obtain ⟨fsC, hXC⟩ := hC.cell
      obtain ⟨⟨fsM, hXM⟩, hh91⟩ := hM.cell
      refine xa_scr0 (fun hSc => ?_)
      refine xa_icmp_eqs (pc := 261) (tgt := 991) dL_law_261 (by decide) ?_
      exact hNx _ _ _ _ _ _ _ _ _ _ _ _ _ _ _ _ _ _ _ _ _ _ _ _ _ _ _ _ hC hM (by omega) (by omega)
    · skip
      first | exact absurd z1 y1 | exact absurd y1 z1
  · skip
    have hM := hM.fr (fun i hi hj => hfr i (by omega) (by omega)) hh
    obtain ⟨fsC, hXC⟩ := hC.cell
    obtain ⟨⟨fsM, hXM⟩, hh91⟩ := hM.cell
    refine xa_scr0 (fun hSc => ?_)
    refine xa_aload_n (pc := 257) dL_law_257 rfl ?_
    refine xa_callV (pc := 258) (as := []) (rest := [xa_i _]) dL_law_258 ⟨qX10_lay.1, qX10_lay.2.1, qX10_lay.2.2, by decide, by decide⟩ lkRL_32 imX10_lay seX10_lay rfl rfl (by omega) (by omega) hXM rfl (Nat.le_of_ble_eq_true rfl) (Nat.zero_le _) (Nat.zero_le _) (m_lay (G := G) ld2 dg2 d1 d2 hgo hM) (fun r h' hq => ?_)
    obtain ⟨hq, hn2, hf2⟩ := hq
    rcases hq with ⟨z1, rfl, hM⟩ | ⟨z1, rfl, hMM⟩
    · skip
      first | exact absurd z1 y1 | exact absurd y1 z1
    · skip
      have hM := hMM ld' dg' y2 y3 hC.2.2.2.2.2.1
      have hC := hC.fr (fun i hi => hf2 i (by omega)) (by omega)
      obtain ⟨fsC, hXC⟩ := hC.cell
      obtain ⟨⟨fsM, hXM⟩, hh91⟩ := hM.cell
      refine xa_scr0 (fun hSc => ?_)
      refine xa_icmp_eqs (pc := 261) (tgt := 991) dL_law_261 (by decide) ?_
      exact hNx _ _ _ _ _ _ _ _ _ _ _ _ _ _ _ _ _ _ _ _ _ _ _ _ _ _ _ _ hC hM (by omega) (by omega)
