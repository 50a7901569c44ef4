/-! The class: made -/
section XR7
variable {G : xa_G} {Y : xa_Y} {Z : xa_Zt} {pc : Nat} {ls : xa_Ls} {st : List xa_V} {h : xa_H} {mc ms : Nat}
theorem xa_anewq {index : Nat} {n : Int} {mc0 ms0 : Nat} (m p : Nat) (hp : h.2 = p) (hd : decode (xa_yc Y) pc = .ok (.anewarray index, 3)) (hcl : Cond.classLink (xa_yn Y).cls index "CatThatTurns$Sheet" ∈ xa_gw) (hm : n = (m : Int)) (h1 : m ≤ 100000000) (hmc : mc = mc0 + 1) (hms : ms = ms0 + m) (K : ∀ h1 : xa_H, h1.2 = p + 1 → h1.1 p = xa_q m (fun _ => none) → (∀ i, i ≠ p → h1.1 i = h.1 i) → xa_W G Y Z (pc + 3) ls (xa_r p :: st) h1 mc0 ms0) : xa_W G Y Z pc ls (xa_i n :: st) h mc ms := by
  subst hp
  subst hm
  refine xa_anewarray hd hcl (by omega) (by omega) hmc (by rw [Int.toNat_natCast]; exact hms) ?_
  rw [Int.toNat_natCast]
  exact K _ rfl (xa_push_at h _) (fun _ hi => xa_push_ne _ _ hi)
theorem xa_aastw {k n b : Nat} {fs : List xa_V} {f : Nat → Option Nat} {i : Int} (hd : decode (xa_yc Y) pc = .ok (.aastore, 1)) (hk : 2 ≤ k) (hk2 : k < h.2) (hc : h.1 k = xa_q n f) (h0 : 0 ≤ i) (h1 : i < n) (hb0 : 2 ≤ b) (hb1 : b < h.2) (hbc : h.1 b = xa_o 5 fs) (K : ∀ h1 : xa_H, h1.2 = h.2 → h1.1 k = xa_q n (fun j => if j = i.toNat then some b else f j) → (∀ i, i ≠ k → h1.1 i = h.1 i) → xa_W G Y Z (pc + 1) ls st h1 mc ms) : xa_W G Y Z pc ls (xa_r b :: xa_i i :: xa_r k :: st) h mc ms :=
  xa_aastore hd hk hk2 hc h0 h1 hb0 hb1 hbc (K _ rfl (xa_up_at h k _) (fun _ hi => xa_up_ne _ _ hi))
end XR7

theorem c_Cat_cells_12 {G : xa_G} {h0 h : xa_H} (k : Nat) (hk : 2 ≤ k) (hcn : h.2 = k + 72) (fr : ∀ i, i < k → h.1 i = h0.1 i) (hX0 : h.1 k = xa_o 9 [xa_r (k + 1), xa_r (k + 3), xa_r (k + 6), xa_r (k + 9), xa_r (k + 11), xa_r (k + 15), xa_i 0, xa_r (k + 24), xa_r (k + 31), xa_r (k + 32), xa_r (k + 36), xa_r (k + 48), xa_r (k + 60)]) (g1 : h.1 (k + 1) = xa_o 7 [xa_r (k + 1 + 1), xa_i 0]) (g1_1 : h.1 (k + 1 + 1) = xa_a 120 (fun _ => 0)) (g3 : h.1 (k + 3) = xa_o 0 [xa_r (k + 3 + 1), xa_r (k + 3 + 2), xa_i 0, xa_i 0, xa_i (-4), xa_i 0, xa_i 0, xa_i 10]) (g3_1 : h.1 (k + 3 + 1) = xa_a 9 (fun _ => 0)) (g3_2 : h.1 (k + 3 + 2) = xa_a 2 (fun _ => 0)) (g6 : h.1 (k + 6) = xa_o 0 [xa_r (k + 6 + 1), xa_r (k + 6 + 2), xa_i 0, xa_i 0, xa_i (-4), xa_i 0, xa_i 0, xa_i 10]) (g6_1 : h.1 (k + 6 + 1) = xa_a 9 (fun _ => 0)) (g6_2 : h.1 (k + 6 + 2) = xa_a 2 (fun _ => 0)) (g9 : h.1 (k + 9) = xa_o 2 [xa_r (k + 1), xa_r (k + 6), xa_r (k + 9 + 1), xa_i 0]) (g9_1 : h.1 (k + 9 + 1) = xa_a 3 (fun _ => 0)) (g11 : h.1 (k + 11) = xa_o 5 [xa_r (k + 11 + 1), xa_r (k + 11 + 2), xa_r (k + 11 + 3), xa_i 0]) (g11_1 : h.1 (k + 11 + 1) = xa_a 240 (fun _ => 0)) (g11_2 : h.1 (k + 11 + 2) = xa_a 4 (fun _ => 0)) (g11_3 : h.1 (k + 11 + 3) = xa_a 120 (fun _ => 0)) (gQ15 : h.1 (k + 15) = xa_q 2 (fun j => if j = 1 then some (k + 20) else (fun j => if j = 0 then some (k + 16) else (fun _ => none) j) j)) (g16 : h.1 (k + 16) = xa_o 5 [xa_r (k + 16 + 1), xa_r (k + 16 + 2), xa_r (k + 16 + 3), xa_i 0]) (g16_1 : h.1 (k + 16 + 1) = xa_a 240 (fun _ => 0)) (g16_2 : h.1 (k + 16 + 2) = xa_a 4 (fun _ => 0)) (g16_3 : h.1 (k + 16 + 3) = xa_a 120 (fun _ => 0)) (g20 : h.1 (k + 20) = xa_o 5 [xa_r (k + 20 + 1), xa_r (k + 20 + 2), xa_r (k + 20 + 3), xa_i 0]) (g20_1 : h.1 (k + 20 + 1) = xa_a 240 (fun _ => 0)) (g20_2 : h.1 (k + 20 + 2) = xa_a 4 (fun _ => 0)) (g20_3 : h.1 (k + 20 + 3) = xa_a 120 (fun _ => 0)) (g24 : h.1 (k + 24) = xa_o 8 [xa_r (k + 24 + 4), xa_r (k + 3), xa_r (k + 24 + 1), xa_r (k + 24 + 2), xa_r (k + 24 + 3), xa_i 0, xa_i 0]) (g24_1 : h.1 (k + 24 + 1) = xa_a 183 (fun _ => 0)) (g24_2 : h.1 (k + 24 + 2) = xa_a 61 (fun _ => 0)) (g24_3 : h.1 (k + 24 + 3) = xa_a 61 (fun _ => 0)) (g24_4 : h.1 (k + 24 + 4) = xa_o 4 [xa_r (k + 3), xa_r (k + 24 + 4 + 1), xa_r (k + 24 + 4 + 2), xa_i 0, xa_i 0]) (g24_4_1 : h.1 (k + 24 + 4 + 1) = xa_a 3 (fun _ => 0)) (g24_4_2 : h.1 (k + 24 + 4 + 2) = xa_a 2 (fun _ => 0)) (gA31 : h.1 (k + 31) = xa_a 4 (fun _ => 0)) (g32 : h.1 (k + 32) = xa_o 1 [xa_r (k + 3), xa_r (k + 32 + 1)]) (g32_1 : h.1 (k + 32 + 1) = xa_o 4 [xa_r (k + 3), xa_r (k + 32 + 1 + 1), xa_r (k + 32 + 1 + 2), xa_i 0, xa_i 0]) (g32_1_1 : h.1 (k + 32 + 1 + 1) = xa_a 3 (fun _ => 0)) (g32_1_2 : h.1 (k + 32 + 1 + 2) = xa_a 2 (fun _ => 0)) (g36 : h.1 (k + 36) = xa_o 3 [xa_r (k + 3), xa_r (k + 36 + 4), xa_r (k + 36 + 1), xa_r (k + 36 + 2), xa_r (k + 36 + 3), xa_i 0, xa_i 0, xa_i 0, xa_i 0, xa_i 0, xa_i 0, xa_i 0]) (g36_1 : h.1 (k + 36 + 1) = xa_a 360 (fun _ => 0)) (g36_2 : h.1 (k + 36 + 2) = xa_a 360 (fun _ => 0)) (g36_3 : h.1 (k + 36 + 3) = xa_a 0 (fun _ => 0)) (g36_4 : h.1 (k + 36 + 4) = xa_o 6 [xa_r (k + 3), xa_r (k + 36 + 4 + 5), xa_i (-1), xa_r (k + 36 + 4 + 1), xa_r (k + 36 + 4 + 2), xa_i 0, xa_i 0, xa_i 0, xa_r (k + 36 + 4 + 3), xa_r (k + 36 + 4 + 4)]) (g36_4_1 : h.1 (k + 36 + 4 + 1) = xa_a 2 (fun _ => 0)) (g36_4_2 : h.1 (k + 36 + 4 + 2) = xa_a 2 (fun _ => 0)) (g36_4_3 : h.1 (k + 36 + 4 + 3) = xa_a 0 (fun _ => 0)) (g36_4_4 : h.1 (k + 36 + 4 + 4) = xa_a 0 (fun _ => 0)) (g36_4_5 : h.1 (k + 36 + 4 + 5) = xa_o 4 [xa_r (k + 3), xa_r (k + 36 + 4 + 5 + 1), xa_r (k + 36 + 4 + 5 + 2), xa_i 0, xa_i 0]) (g36_4_5_1 : h.1 (k + 36 + 4 + 5 + 1) = xa_a 3 (fun _ => 0)) (g36_4_5_2 : h.1 (k + 36 + 4 + 5 + 2) = xa_a 2 (fun _ => 0)) (g48 : h.1 (k + 48) = xa_o 3 [xa_r (k + 3), xa_r (k + 48 + 4), xa_r (k + 48 + 1), xa_r (k + 48 + 2), xa_r (k + 48 + 3), xa_i 0, xa_i 0, xa_i 0, xa_i 0, xa_i 0, xa_i 0, xa_i 0]) (g48_1 : h.1 (k + 48 + 1) = xa_a 360 (fun _ => 0)) (g48_2 : h.1 (k + 48 + 2) = xa_a 360 (fun _ => 0)) (g48_3 : h.1 (k + 48 + 3) = xa_a 0 (fun _ => 0)) (g48_4 : h.1 (k + 48 + 4) = xa_o 6 [xa_r (k + 3), xa_r (k + 48 + 4 + 5), xa_i 0, xa_r (k + 48 + 4 + 1), xa_r (k + 48 + 4 + 2), xa_i 0, xa_i 0, xa_i 0, xa_r (k + 48 + 4 + 3), xa_r (k + 48 + 4 + 4)]) (g48_4_1 : h.1 (k + 48 + 4 + 1) = xa_a 2 (fun _ => 0)) (g48_4_2 : h.1 (k + 48 + 4 + 2) = xa_a 2 (fun _ => 0)) (g48_4_3 : h.1 (k + 48 + 4 + 3) = xa_a 0 (fun _ => 0)) (g48_4_4 : h.1 (k + 48 + 4 + 4) = xa_a 0 (fun _ => 0)) (g48_4_5 : h.1 (k + 48 + 4 + 5) = xa_o 4 [xa_r (k + 3), xa_r (k + 48 + 4 + 5 + 1), xa_r (k + 48 + 4 + 5 + 2), xa_i 0, xa_i 0]) (g48_4_5_1 : h.1 (k + 48 + 4 + 5 + 1) = xa_a 3 (fun _ => 0)) (g48_4_5_2 : h.1 (k + 48 + 4 + 5 + 2) = xa_a 2 (fun _ => 0)) (g60 : h.1 (k + 60) = xa_o 3 [xa_r (k + 3), xa_r (k + 60 + 4), xa_r (k + 60 + 1), xa_r (k + 60 + 2), xa_r (k + 60 + 3), xa_i 0, xa_i 0, xa_i 0, xa_i 0, xa_i 0, xa_i 0, xa_i 0]) (g60_1 : h.1 (k + 60 + 1) = xa_a 360 (fun _ => 0)) (g60_2 : h.1 (k + 60 + 2) = xa_a 360 (fun _ => 0)) (g60_3 : h.1 (k + 60 + 3) = xa_a 0 (fun _ => 0)) (g60_4 : h.1 (k + 60 + 4) = xa_o 6 [xa_r (k + 3), xa_r (k + 60 + 4 + 5), xa_i 1, xa_r (k + 60 + 4 + 1), xa_r (k + 60 + 4 + 2), xa_i 0, xa_i 0, xa_i 0, xa_r (k + 60 + 4 + 3), xa_r (k + 60 + 4 + 4)]) (g60_4_1 : h.1 (k + 60 + 4 + 1) = xa_a 2 (fun _ => 0)) (g60_4_2 : h.1 (k + 60 + 4 + 2) = xa_a 2 (fun _ => 0)) (g60_4_3 : h.1 (k + 60 + 4 + 3) = xa_a 0 (fun _ => 0)) (g60_4_4 : h.1 (k + 60 + 4 + 4) = xa_a 0 (fun _ => 0)) (g60_4_5 : h.1 (k + 60 + 4 + 5) = xa_o 4 [xa_r (k + 3), xa_r (k + 60 + 4 + 5 + 1), xa_r (k + 60 + 4 + 5 + 2), xa_i 0, xa_i 0]) (g60_4_5_1 : h.1 (k + 60 + 4 + 5 + 1) = xa_a 3 (fun _ => 0)) (g60_4_5_2 : h.1 (k + 60 + 4 + 5 + 2) = xa_a 2 (fun _ => 0))  : xa_W G mX9_init (xa_Z G (fun r h' => r = none ∧ h'.1 k = xa_o 9 [xa_r (k + 1), xa_r (k + 3), xa_r (k + 6), xa_r (k + 9), xa_r (k + 11), xa_r (k + 15), xa_i 0, xa_r (k + 24), xa_r (k + 31), xa_r (k + 32), xa_r (k + 36), xa_r (k + 48), xa_r (k + 60)] ∧ h'.1 (k + 1) = xa_o 7 [xa_r (k + 1 + 1), xa_i 0] ∧ h'.1 (k + 1 + 1) = xa_a 120 (fun _ => 0) ∧ h'.1 (k + 3) = xa_o 0 [xa_r (k + 3 + 1), xa_r (k + 3 + 2), xa_i 2, xa_i 1, xa_i (-4), xa_i 0, xa_i 0, xa_i 10] ∧ h'.1 (k + 3 + 1) = xa_a 9 (xa_upf (xa_upf (xa_upf (xa_upf (xa_upf (xa_upf (fun _ => 0) (0 * 3) 1) (0 * 3 + 1) 1) (0 * 3 + 2) 1) (1 * 3) 1) (1 * 3 + 1) 1) (1 * 3 + 2) 1) ∧ h'.1 (k + 3 + 2) = xa_a 2 (xa_upf (fun _ => 0) 0 10) ∧ h'.1 (k + 6) = xa_o 0 [xa_r (k + 6 + 1), xa_r (k + 6 + 2), xa_i 0, xa_i 0, xa_i (-4), xa_i 0, xa_i 0, xa_i 10] ∧ h'.1 (k + 6 + 1) = xa_a 9 (fun _ => 0) ∧ h'.1 (k + 6 + 2) = xa_a 2 (fun _ => 0) ∧ h'.1 (k + 9) = xa_o 2 [xa_r (k + 1), xa_r (k + 6), xa_r (k + 9 + 1), xa_i 0] ∧ h'.1 (k + 9 + 1) = xa_a 3 (fun _ => 0) ∧ h'.1 (k + 11) = xa_o 5 [xa_r (k + 11 + 1), xa_r (k + 11 + 2), xa_r (k + 11 + 3), xa_i 0] ∧ h'.1 (k + 11 + 1) = xa_a 240 (fun _ => 0) ∧ h'.1 (k + 11 + 2) = xa_a 4 (fun _ => 0) ∧ h'.1 (k + 11 + 3) = xa_a 120 (fun _ => 0) ∧ h'.1 (k + 15) = xa_q 2 (fun j => if j = 1 then some (k + 20) else (fun j => if j = 0 then some (k + 16) else (fun _ => none) j) j) ∧ h'.1 (k + 16) = xa_o 5 [xa_r (k + 16 + 1), xa_r (k + 16 + 2), xa_r (k + 16 + 3), xa_i 0] ∧ h'.1 (k + 16 + 1) = xa_a 240 (fun _ => 0) ∧ h'.1 (k + 16 + 2) = xa_a 4 (fun _ => 0) ∧ h'.1 (k + 16 + 3) = xa_a 120 (fun _ => 0) ∧ h'.1 (k + 20) = xa_o 5 [xa_r (k + 20 + 1), xa_r (k + 20 + 2), xa_r (k + 20 + 3), xa_i 0] ∧ h'.1 (k + 20 + 1) = xa_a 240 (fun _ => 0) ∧ h'.1 (k + 20 + 2) = xa_a 4 (fun _ => 0) ∧ h'.1 (k + 20 + 3) = xa_a 120 (fun _ => 0) ∧ h'.1 (k + 24) = xa_o 8 [xa_r (k + 24 + 4), xa_r (k + 3), xa_r (k + 24 + 1), xa_r (k + 24 + 2), xa_r (k + 24 + 3), xa_i 0, xa_i 0] ∧ h'.1 (k + 24 + 1) = xa_a 183 (fun _ => 0) ∧ h'.1 (k + 24 + 2) = xa_a 61 (fun _ => 0) ∧ h'.1 (k + 24 + 3) = xa_a 61 (fun _ => 0) ∧ h'.1 (k + 24 + 4) = xa_o 4 [xa_r (k + 3), xa_r (k + 24 + 4 + 1), xa_r (k + 24 + 4 + 2), xa_i 0, xa_i 0] ∧ h'.1 (k + 24 + 4 + 1) = xa_a 3 (fun _ => 0) ∧ h'.1 (k + 24 + 4 + 2) = xa_a 2 (fun _ => 0) ∧ h'.1 (k + 31) = xa_a 4 (fun _ => 0) ∧ h'.1 (k + 32) = xa_o 1 [xa_r (k + 3), xa_r (k + 32 + 1)] ∧ h'.1 (k + 32 + 1) = xa_o 4 [xa_r (k + 3), xa_r (k + 32 + 1 + 1), xa_r (k + 32 + 1 + 2), xa_i 0, xa_i 0] ∧ h'.1 (k + 32 + 1 + 1) = xa_a 3 (fun _ => 0) ∧ h'.1 (k + 32 + 1 + 2) = xa_a 2 (fun _ => 0) ∧ h'.1 (k + 36) = xa_o 3 [xa_r (k + 3), xa_r (k + 36 + 4), xa_r (k + 36 + 1), xa_r (k + 36 + 2), xa_r (k + 36 + 3), xa_i 0, xa_i 0, xa_i 0, xa_i 0, xa_i 0, xa_i 0, xa_i 0] ∧ h'.1 (k + 36 + 1) = xa_a 360 (fun _ => 0) ∧ h'.1 (k + 36 + 2) = xa_a 360 (fun _ => 0) ∧ h'.1 (k + 36 + 3) = xa_a 0 (fun _ => 0) ∧ h'.1 (k + 36 + 4) = xa_o 6 [xa_r (k + 3), xa_r (k + 36 + 4 + 5), xa_i (-1), xa_r (k + 36 + 4 + 1), xa_r (k + 36 + 4 + 2), xa_i 0, xa_i 0, xa_i 0, xa_r (k + 36 + 4 + 3), xa_r (k + 36 + 4 + 4)] ∧ h'.1 (k + 36 + 4 + 1) = xa_a 2 (fun _ => 0) ∧ h'.1 (k + 36 + 4 + 2) = xa_a 2 (fun _ => 0) ∧ h'.1 (k + 36 + 4 + 3) = xa_a 0 (fun _ => 0) ∧ h'.1 (k + 36 + 4 + 4) = xa_a 0 (fun _ => 0) ∧ h'.1 (k + 36 + 4 + 5) = xa_o 4 [xa_r (k + 3), xa_r (k + 36 + 4 + 5 + 1), xa_r (k + 36 + 4 + 5 + 2), xa_i 0, xa_i 0] ∧ h'.1 (k + 36 + 4 + 5 + 1) = xa_a 3 (fun _ => 0) ∧ h'.1 (k + 36 + 4 + 5 + 2) = xa_a 2 (fun _ => 0) ∧ h'.1 (k + 48) = xa_o 3 [xa_r (k + 3), xa_r (k + 48 + 4), xa_r (k + 48 + 1), xa_r (k + 48 + 2), xa_r (k + 48 + 3), xa_i 0, xa_i 0, xa_i 0, xa_i 0, xa_i 0, xa_i 0, xa_i 0] ∧ h'.1 (k + 48 + 1) = xa_a 360 (fun _ => 0) ∧ h'.1 (k + 48 + 2) = xa_a 360 (fun _ => 0) ∧ h'.1 (k + 48 + 3) = xa_a 0 (fun _ => 0) ∧ h'.1 (k + 48 + 4) = xa_o 6 [xa_r (k + 3), xa_r (k + 48 + 4 + 5), xa_i 0, xa_r (k + 48 + 4 + 1), xa_r (k + 48 + 4 + 2), xa_i 0, xa_i 0, xa_i 0, xa_r (k + 48 + 4 + 3), xa_r (k + 48 + 4 + 4)] ∧ h'.1 (k + 48 + 4 + 1) = xa_a 2 (fun _ => 0) ∧ h'.1 (k + 48 + 4 + 2) = xa_a 2 (fun _ => 0) ∧ h'.1 (k + 48 + 4 + 3) = xa_a 0 (fun _ => 0) ∧ h'.1 (k + 48 + 4 + 4) = xa_a 0 (fun _ => 0) ∧ h'.1 (k + 48 + 4 + 5) = xa_o 4 [xa_r (k + 3), xa_r (k + 48 + 4 + 5 + 1), xa_r (k + 48 + 4 + 5 + 2), xa_i 0, xa_i 0] ∧ h'.1 (k + 48 + 4 + 5 + 1) = xa_a 3 (fun _ => 0) ∧ h'.1 (k + 48 + 4 + 5 + 2) = xa_a 2 (fun _ => 0) ∧ h'.1 (k + 60) = xa_o 3 [xa_r (k + 3), xa_r (k + 60 + 4), xa_r (k + 60 + 1), xa_r (k + 60 + 2), xa_r (k + 60 + 3), xa_i 0, xa_i 0, xa_i 0, xa_i 0, xa_i 0, xa_i 0, xa_i 0] ∧ h'.1 (k + 60 + 1) = xa_a 360 (fun _ => 0) ∧ h'.1 (k + 60 + 2) = xa_a 360 (fun _ => 0) ∧ h'.1 (k + 60 + 3) = xa_a 0 (fun _ => 0) ∧ h'.1 (k + 60 + 4) = xa_o 6 [xa_r (k + 3), xa_r (k + 60 + 4 + 5), xa_i 1, xa_r (k + 60 + 4 + 1), xa_r (k + 60 + 4 + 2), xa_i 0, xa_i 0, xa_i 0, xa_r (k + 60 + 4 + 3), xa_r (k + 60 + 4 + 4)] ∧ h'.1 (k + 60 + 4 + 1) = xa_a 2 (fun _ => 0) ∧ h'.1 (k + 60 + 4 + 2) = xa_a 2 (fun _ => 0) ∧ h'.1 (k + 60 + 4 + 3) = xa_a 0 (fun _ => 0) ∧ h'.1 (k + 60 + 4 + 4) = xa_a 0 (fun _ => 0) ∧ h'.1 (k + 60 + 4 + 5) = xa_o 4 [xa_r (k + 3), xa_r (k + 60 + 4 + 5 + 1), xa_r (k + 60 + 4 + 5 + 2), xa_i 0, xa_i 0] ∧ h'.1 (k + 60 + 4 + 5 + 1) = xa_a 3 (fun _ => 0) ∧ h'.1 (k + 60 + 4 + 5 + 2) = xa_a 2 (fun _ => 0) ∧ h'.2 = k + 72 ∧ ∀ i, i < k → h'.1 i = h0.1 i)) 190 [some (xa_r k), some (xa_i 2)] [] h 0 0 := by
  refine xa_aload_n (pc := 190) dX9_init_190 rfl ?_
  refine xa_getfield (pc := 191) dX9_init_191 flRX9_19 (by omega) (by omega) hX0 rfl ?_
  refine xa_iconst (pc := 194) dX9_init_194 ?_
  refine xa_iconst (pc := 195) dX9_init_195 ?_
  refine xa_iconst (pc := 196) dX9_init_196 ?_
  refine xa_callV (pc := 197) (as := [xa_i 1, xa_i 1, xa_i 1]) (rest := []) dX9_init_197 ⟨qX0_takesPart.1, qX0_takesPart.2.1, qX0_takesPart.2.2, by decide, by decide⟩ lkRX9_81 imX0_takesPart seX0_takesPart rfl rfl (by omega) (by omega) g3 rfl (Nat.le_of_ble_eq_true rfl) (Nat.zero_le _) (Nat.zero_le _) (c_takesPart (k + 3) (fun _ => 0) (fun _ => 0) 0 0 (-4) 0 0 10 1 1 1 (by decide) (by decide) (by decide) (by decide) ⟨g3, g3_1, g3_2, by omega, by omega⟩) (fun r h' hq => ?_)
  obtain ⟨hqs, hqn, hqf⟩ := hq
  have hqs := hqs.elim (fun z => z.2) (fun z => absurd (by decide) z.1)
  obtain ⟨rfl, g3, g3_1, g3_2, -, -⟩ := hqs
  have hX0 : h'.1 k = xa_o 9 [xa_r (k + 1), xa_r (k + 3), xa_r (k + 6), xa_r (k + 9), xa_r (k + 11), xa_r (k + 15), xa_i 0, xa_r (k + 24), xa_r (k + 31), xa_r (k + 32), xa_r (k + 36), xa_r (k + 48), xa_r (k + 60)] := (hqf _ (by omega)).trans hX0
  have g1 : h'.1 (k + 1) = xa_o 7 [xa_r (k + 1 + 1), xa_i 0] := (hqf _ (by omega)).trans g1
  have g1_1 : h'.1 (k + 1 + 1) = xa_a 120 (fun _ => 0) := (hqf _ (by omega)).trans g1_1
  have g6 : h'.1 (k + 6) = xa_o 0 [xa_r (k + 6 + 1), xa_r (k + 6 + 2), xa_i 0, xa_i 0, xa_i (-4), xa_i 0, xa_i 0, xa_i 10] := (hqf _ (by omega)).trans g6
  have g6_1 : h'.1 (k + 6 + 1) = xa_a 9 (fun _ => 0) := (hqf _ (by omega)).trans g6_1
  have g6_2 : h'.1 (k + 6 + 2) = xa_a 2 (fun _ => 0) := (hqf _ (by omega)).trans g6_2
  have g9 : h'.1 (k + 9) = xa_o 2 [xa_r (k + 1), xa_r (k + 6), xa_r (k + 9 + 1), xa_i 0] := (hqf _ (by omega)).trans g9
  have g9_1 : h'.1 (k + 9 + 1) = xa_a 3 (fun _ => 0) := (hqf _ (by omega)).trans g9_1
  have g11 : h'.1 (k + 11) = xa_o 5 [xa_r (k + 11 + 1), xa_r (k + 11 + 2), xa_r (k + 11 + 3), xa_i 0] := (hqf _ (by omega)).trans g11
  have g11_1 : h'.1 (k + 11 + 1) = xa_a 240 (fun _ => 0) := (hqf _ (by omega)).trans g11_1
  have g11_2 : h'.1 (k + 11 + 2) = xa_a 4 (fun _ => 0) := (hqf _ (by omega)).trans g11_2
  have g11_3 : h'.1 (k + 11 + 3) = xa_a 120 (fun _ => 0) := (hqf _ (by omega)).trans g11_3
  have gQ15 : h'.1 (k + 15) = xa_q 2 (fun j => if j = 1 then some (k + 20) else (fun j => if j = 0 then some (k + 16) else (fun _ => none) j) j) := (hqf _ (by omega)).trans gQ15
  have g16 : h'.1 (k + 16) = xa_o 5 [xa_r (k + 16 + 1), xa_r (k + 16 + 2), xa_r (k + 16 + 3), xa_i 0] := (hqf _ (by omega)).trans g16
  have g16_1 : h'.1 (k + 16 + 1) = xa_a 240 (fun _ => 0) := (hqf _ (by omega)).trans g16_1
  have g16_2 : h'.1 (k + 16 + 2) = xa_a 4 (fun _ => 0) := (hqf _ (by omega)).trans g16_2
  have g16_3 : h'.1 (k + 16 + 3) = xa_a 120 (fun _ => 0) := (hqf _ (by omega)).trans g16_3
  have g20 : h'.1 (k + 20) = xa_o 5 [xa_r (k + 20 + 1), xa_r (k + 20 + 2), xa_r (k + 20 + 3), xa_i 0] := (hqf _ (by omega)).trans g20
  have g20_1 : h'.1 (k + 20 + 1) = xa_a 240 (fun _ => 0) := (hqf _ (by omega)).trans g20_1
  have g20_2 : h'.1 (k + 20 + 2) = xa_a 4 (fun _ => 0) := (hqf _ (by omega)).trans g20_2
  have g20_3 : h'.1 (k + 20 + 3) = xa_a 120 (fun _ => 0) := (hqf _ (by omega)).trans g20_3
  have g24 : h'.1 (k + 24) = xa_o 8 [xa_r (k + 24 + 4), xa_r (k + 3), xa_r (k + 24 + 1), xa_r (k + 24 + 2), xa_r (k + 24 + 3), xa_i 0, xa_i 0] := (hqf _ (by omega)).trans g24
  have g24_1 : h'.1 (k + 24 + 1) = xa_a 183 (fun _ => 0) := (hqf _ (by omega)).trans g24_1
  have g24_2 : h'.1 (k + 24 + 2) = xa_a 61 (fun _ => 0) := (hqf _ (by omega)).trans g24_2
  have g24_3 : h'.1 (k + 24 + 3) = xa_a 61 (fun _ => 0) := (hqf _ (by omega)).trans g24_3
  have g24_4 : h'.1 (k + 24 + 4) = xa_o 4 [xa_r (k + 3), xa_r (k + 24 + 4 + 1), xa_r (k + 24 + 4 + 2), xa_i 0, xa_i 0] := (hqf _ (by omega)).trans g24_4
  have g24_4_1 : h'.1 (k + 24 + 4 + 1) = xa_a 3 (fun _ => 0) := (hqf _ (by omega)).trans g24_4_1
  have g24_4_2 : h'.1 (k + 24 + 4 + 2) = xa_a 2 (fun _ => 0) := (hqf _ (by omega)).trans g24_4_2
  have gA31 : h'.1 (k + 31) = xa_a 4 (fun _ => 0) := (hqf _ (by omega)).trans gA31
  have g32 : h'.1 (k + 32) = xa_o 1 [xa_r (k + 3), xa_r (k + 32 + 1)] := (hqf _ (by omega)).trans g32
  have g32_1 : h'.1 (k + 32 + 1) = xa_o 4 [xa_r (k + 3), xa_r (k + 32 + 1 + 1), xa_r (k + 32 + 1 + 2), xa_i 0, xa_i 0] := (hqf _ (by omega)).trans g32_1
  have g32_1_1 : h'.1 (k + 32 + 1 + 1) = xa_a 3 (fun _ => 0) := (hqf _ (by omega)).trans g32_1_1
  have g32_1_2 : h'.1 (k + 32 + 1 + 2) = xa_a 2 (fun _ => 0) := (hqf _ (by omega)).trans g32_1_2
  have g36 : h'.1 (k + 36) = xa_o 3 [xa_r (k + 3), xa_r (k + 36 + 4), xa_r (k + 36 + 1), xa_r (k + 36 + 2), xa_r (k + 36 + 3), xa_i 0, xa_i 0, xa_i 0, xa_i 0, xa_i 0, xa_i 0, xa_i 0] := (hqf _ (by omega)).trans g36
  have g36_1 : h'.1 (k + 36 + 1) = xa_a 360 (fun _ => 0) := (hqf _ (by omega)).trans g36_1
  have g36_2 : h'.1 (k + 36 + 2) = xa_a 360 (fun _ => 0) := (hqf _ (by omega)).trans g36_2
  have g36_3 : h'.1 (k + 36 + 3) = xa_a 0 (fun _ => 0) := (hqf _ (by omega)).trans g36_3
  have g36_4 : h'.1 (k + 36 + 4) = xa_o 6 [xa_r (k + 3), xa_r (k + 36 + 4 + 5), xa_i (-1), xa_r (k + 36 + 4 + 1), xa_r (k + 36 + 4 + 2), xa_i 0, xa_i 0, xa_i 0, xa_r (k + 36 + 4 + 3), xa_r (k + 36 + 4 + 4)] := (hqf _ (by omega)).trans g36_4
  have g36_4_1 : h'.1 (k + 36 + 4 + 1) = xa_a 2 (fun _ => 0) := (hqf _ (by omega)).trans g36_4_1
  have g36_4_2 : h'.1 (k + 36 + 4 + 2) = xa_a 2 (fun _ => 0) := (hqf _ (by omega)).trans g36_4_2
  have g36_4_3 : h'.1 (k + 36 + 4 + 3) = xa_a 0 (fun _ => 0) := (hqf _ (by omega)).trans g36_4_3
  have g36_4_4 : h'.1 (k + 36 + 4 + 4) = xa_a 0 (fun _ => 0) := (hqf _ (by omega)).trans g36_4_4
  have g36_4_5 : h'.1 (k + 36 + 4 + 5) = xa_o 4 [xa_r (k + 3), xa_r (k + 36 + 4 + 5 + 1), xa_r (k + 36 + 4 + 5 + 2), xa_i 0, xa_i 0] := (hqf _ (by omega)).trans g36_4_5
  have g36_4_5_1 : h'.1 (k + 36 + 4 + 5 + 1) = xa_a 3 (fun _ => 0) := (hqf _ (by omega)).trans g36_4_5_1
  have g36_4_5_2 : h'.1 (k + 36 + 4 + 5 + 2) = xa_a 2 (fun _ => 0) := (hqf _ (by omega)).trans g36_4_5_2
  have g48 : h'.1 (k + 48) = xa_o 3 [xa_r (k + 3), xa_r (k + 48 + 4), xa_r (k + 48 + 1), xa_r (k + 48 + 2), xa_r (k + 48 + 3), xa_i 0, xa_i 0, xa_i 0, xa_i 0, xa_i 0, xa_i 0, xa_i 0] := (hqf _ (by omega)).trans g48
  have g48_1 : h'.1 (k + 48 + 1) = xa_a 360 (fun _ => 0) := (hqf _ (by omega)).trans g48_1
  have g48_2 : h'.1 (k + 48 + 2) = xa_a 360 (fun _ => 0) := (hqf _ (by omega)).trans g48_2
  have g48_3 : h'.1 (k + 48 + 3) = xa_a 0 (fun _ => 0) := (hqf _ (by omega)).trans g48_3
  have g48_4 : h'.1 (k + 48 + 4) = xa_o 6 [xa_r (k + 3), xa_r (k + 48 + 4 + 5), xa_i 0, xa_r (k + 48 + 4 + 1), xa_r (k + 48 + 4 + 2), xa_i 0, xa_i 0, xa_i 0, xa_r (k + 48 + 4 + 3), xa_r (k + 48 + 4 + 4)] := (hqf _ (by omega)).trans g48_4
  have g48_4_1 : h'.1 (k + 48 + 4 + 1) = xa_a 2 (fun _ => 0) := (hqf _ (by omega)).trans g48_4_1
  have g48_4_2 : h'.1 (k + 48 + 4 + 2) = xa_a 2 (fun _ => 0) := (hqf _ (by omega)).trans g48_4_2
  have g48_4_3 : h'.1 (k + 48 + 4 + 3) = xa_a 0 (fun _ => 0) := (hqf _ (by omega)).trans g48_4_3
  have g48_4_4 : h'.1 (k + 48 + 4 + 4) = xa_a 0 (fun _ => 0) := (hqf _ (by omega)).trans g48_4_4
  have g48_4_5 : h'.1 (k + 48 + 4 + 5) = xa_o 4 [xa_r (k + 3), xa_r (k + 48 + 4 + 5 + 1), xa_r (k + 48 + 4 + 5 + 2), xa_i 0, xa_i 0] := (hqf _ (by omega)).trans g48_4_5
  have g48_4_5_1 : h'.1 (k + 48 + 4 + 5 + 1) = xa_a 3 (fun _ => 0) := (hqf _ (by omega)).trans g48_4_5_1
  have g48_4_5_2 : h'.1 (k + 48 + 4 + 5 + 2) = xa_a 2 (fun _ => 0) := (hqf _ (by omega)).trans g48_4_5_2
  have g60 : h'.1 (k + 60) = xa_o 3 [xa_r (k + 3), xa_r (k + 60 + 4), xa_r (k + 60 + 1), xa_r (k + 60 + 2), xa_r (k + 60 + 3), xa_i 0, xa_i 0, xa_i 0, xa_i 0, xa_i 0, xa_i 0, xa_i 0] := (hqf _ (by omega)).trans g60
  have g60_1 : h'.1 (k + 60 + 1) = xa_a 360 (fun _ => 0) := (hqf _ (by omega)).trans g60_1
  have g60_2 : h'.1 (k + 60 + 2) = xa_a 360 (fun _ => 0) := (hqf _ (by omega)).trans g60_2
  have g60_3 : h'.1 (k + 60 + 3) = xa_a 0 (fun _ => 0) := (hqf _ (by omega)).trans g60_3
  have g60_4 : h'.1 (k + 60 + 4) = xa_o 6 [xa_r (k + 3), xa_r (k + 60 + 4 + 5), xa_i 1, xa_r (k + 60 + 4 + 1), xa_r (k + 60 + 4 + 2), xa_i 0, xa_i 0, xa_i 0, xa_r (k + 60 + 4 + 3), xa_r (k + 60 + 4 + 4)] := (hqf _ (by omega)).trans g60_4
  have g60_4_1 : h'.1 (k + 60 + 4 + 1) = xa_a 2 (fun _ => 0) := (hqf _ (by omega)).trans g60_4_1
  have g60_4_2 : h'.1 (k + 60 + 4 + 2) = xa_a 2 (fun _ => 0) := (hqf _ (by omega)).trans g60_4_2
  have g60_4_3 : h'.1 (k + 60 + 4 + 3) = xa_a 0 (fun _ => 0) := (hqf _ (by omega)).trans g60_4_3
  have g60_4_4 : h'.1 (k + 60 + 4 + 4) = xa_a 0 (fun _ => 0) := (hqf _ (by omega)).trans g60_4_4
  have g60_4_5 : h'.1 (k + 60 + 4 + 5) = xa_o 4 [xa_r (k + 3), xa_r (k + 60 + 4 + 5 + 1), xa_r (k + 60 + 4 + 5 + 2), xa_i 0, xa_i 0] := (hqf _ (by omega)).trans g60_4_5
  have g60_4_5_1 : h'.1 (k + 60 + 4 + 5 + 1) = xa_a 3 (fun _ => 0) := (hqf _ (by omega)).trans g60_4_5_1
  have g60_4_5_2 : h'.1 (k + 60 + 4 + 5 + 2) = xa_a 2 (fun _ => 0) := (hqf _ (by omega)).trans g60_4_5_2
  have g3 : h'.1 (k + 3) = xa_o 0 [xa_r (k + 3 + 1), xa_r (k + 3 + 2), xa_i 1, xa_i 0, xa_i (-4), xa_i 0, xa_i 0, xa_i 10] := g3
  have g3_1 : h'.1 (k + 3 + 1) = xa_a 9 (xa_upf (xa_upf (xa_upf (fun _ => 0) (0 * 3) 1) (0 * 3 + 1) 1) (0 * 3 + 2) 1) := g3_1
  have g3_2 : h'.1 (k + 3 + 2) = xa_a 2 (fun _ => 0) := g3_2
  have hcn : h'.2 = k + 72 := by omega
  have fr : ∀ i, i < k → h'.1 i = h0.1 i := fun i hi => (hqf i (by omega)).trans (fr i hi)
  refine xa_pop (pc := 200) dX9_init_200 rfl ?_
  refine xa_aload_n (pc := 201) dX9_init_201 rfl ?_
  refine xa_getfield (pc := 202) dX9_init_202 flRX9_19 (by omega) (by omega) hX0 rfl ?_
  refine xa_iconst (pc := 205) dX9_init_205 ?_
  refine xa_iconst (pc := 206) dX9_init_206 ?_
  refine xa_iconst (pc := 207) dX9_init_207 ?_
  refine xa_callV (pc := 208) (as := [xa_i 1, xa_i 1, xa_i 1]) (rest := []) dX9_init_208 ⟨qX0_takesPart.1, qX0_takesPart.2.1, qX0_takesPart.2.2, by decide, by decide⟩ lkRX9_81 imX0_takesPart seX0_takesPart rfl rfl (by omega) (by omega) g3 rfl (Nat.le_of_ble_eq_true rfl) (Nat.zero_le _) (Nat.zero_le _) (c_takesPart (k + 3) (xa_upf (xa_upf (xa_upf (fun _ => 0) (0 * 3) 1) (0 * 3 + 1) 1) (0 * 3 + 2) 1) (fun _ => 0) 1 0 (-4) 0 0 10 1 1 1 (by decide) (by decide) (by decide) (by decide) ⟨g3, g3_1, g3_2, by omega, by omega⟩) (fun r h' hq => ?_)
  obtain ⟨hqs, hqn, hqf⟩ := hq
  have hqs := hqs.elim (fun z => z.2) (fun z => absurd (by decide) z.1)
  obtain ⟨rfl, g3, g3_1, g3_2, -, -⟩ := hqs
  have hX0 : h'.1 k = xa_o 9 [xa_r (k + 1), xa_r (k + 3), xa_r (k + 6), xa_r (k + 9), xa_r (k + 11), xa_r (k + 15), xa_i 0, xa_r (k + 24), xa_r (k + 31), xa_r (k + 32), xa_r (k + 36), xa_r (k + 48), xa_r (k + 60)] := (hqf _ (by omega)).trans hX0
  have g1 : h'.1 (k + 1) = xa_o 7 [xa_r (k + 1 + 1), xa_i 0] := (hqf _ (by omega)).trans g1
  have g1_1 : h'.1 (k + 1 + 1) = xa_a 120 (fun _ => 0) := (hqf _ (by omega)).trans g1_1
  have g6 : h'.1 (k + 6) = xa_o 0 [xa_r (k + 6 + 1), xa_r (k + 6 + 2), xa_i 0, xa_i 0, xa_i (-4), xa_i 0, xa_i 0, xa_i 10] := (hqf _ (by omega)).trans g6
  have g6_1 : h'.1 (k + 6 + 1) = xa_a 9 (fun _ => 0) := (hqf _ (by omega)).trans g6_1
  have g6_2 : h'.1 (k + 6 + 2) = xa_a 2 (fun _ => 0) := (hqf _ (by omega)).trans g6_2
  have g9 : h'.1 (k + 9) = xa_o 2 [xa_r (k + 1), xa_r (k + 6), xa_r (k + 9 + 1), xa_i 0] := (hqf _ (by omega)).trans g9
  have g9_1 : h'.1 (k + 9 + 1) = xa_a 3 (fun _ => 0) := (hqf _ (by omega)).trans g9_1
  have g11 : h'.1 (k + 11) = xa_o 5 [xa_r (k + 11 + 1), xa_r (k + 11 + 2), xa_r (k + 11 + 3), xa_i 0] := (hqf _ (by omega)).trans g11
  have g11_1 : h'.1 (k + 11 + 1) = xa_a 240 (fun _ => 0) := (hqf _ (by omega)).trans g11_1
  have g11_2 : h'.1 (k + 11 + 2) = xa_a 4 (fun _ => 0) := (hqf _ (by omega)).trans g11_2
  have g11_3 : h'.1 (k + 11 + 3) = xa_a 120 (fun _ => 0) := (hqf _ (by omega)).trans g11_3
  have gQ15 : h'.1 (k + 15) = xa_q 2 (fun j => if j = 1 then some (k + 20) else (fun j => if j = 0 then some (k + 16) else (fun _ => none) j) j) := (hqf _ (by omega)).trans gQ15
  have g16 : h'.1 (k + 16) = xa_o 5 [xa_r (k + 16 + 1), xa_r (k + 16 + 2), xa_r (k + 16 + 3), xa_i 0] := (hqf _ (by omega)).trans g16
  have g16_1 : h'.1 (k + 16 + 1) = xa_a 240 (fun _ => 0) := (hqf _ (by omega)).trans g16_1
  have g16_2 : h'.1 (k + 16 + 2) = xa_a 4 (fun _ => 0) := (hqf _ (by omega)).trans g16_2
  have g16_3 : h'.1 (k + 16 + 3) = xa_a 120 (fun _ => 0) := (hqf _ (by omega)).trans g16_3
  have g20 : h'.1 (k + 20) = xa_o 5 [xa_r (k + 20 + 1), xa_r (k + 20 + 2), xa_r (k + 20 + 3), xa_i 0] := (hqf _ (by omega)).trans g20
  have g20_1 : h'.1 (k + 20 + 1) = xa_a 240 (fun _ => 0) := (hqf _ (by omega)).trans g20_1
  have g20_2 : h'.1 (k + 20 + 2) = xa_a 4 (fun _ => 0) := (hqf _ (by omega)).trans g20_2
  have g20_3 : h'.1 (k + 20 + 3) = xa_a 120 (fun _ => 0) := (hqf _ (by omega)).trans g20_3
  have g24 : h'.1 (k + 24) = xa_o 8 [xa_r (k + 24 + 4), xa_r (k + 3), xa_r (k + 24 + 1), xa_r (k + 24 + 2), xa_r (k + 24 + 3), xa_i 0, xa_i 0] := (hqf _ (by omega)).trans g24
  have g24_1 : h'.1 (k + 24 + 1) = xa_a 183 (fun _ => 0) := (hqf _ (by omega)).trans g24_1
  have g24_2 : h'.1 (k + 24 + 2) = xa_a 61 (fun _ => 0) := (hqf _ (by omega)).trans g24_2
  have g24_3 : h'.1 (k + 24 + 3) = xa_a 61 (fun _ => 0) := (hqf _ (by omega)).trans g24_3
  have g24_4 : h'.1 (k + 24 + 4) = xa_o 4 [xa_r (k + 3), xa_r (k + 24 + 4 + 1), xa_r (k + 24 + 4 + 2), xa_i 0, xa_i 0] := (hqf _ (by omega)).trans g24_4
  have g24_4_1 : h'.1 (k + 24 + 4 + 1) = xa_a 3 (fun _ => 0) := (hqf _ (by omega)).trans g24_4_1
  have g24_4_2 : h'.1 (k + 24 + 4 + 2) = xa_a 2 (fun _ => 0) := (hqf _ (by omega)).trans g24_4_2
  have gA31 : h'.1 (k + 31) = xa_a 4 (fun _ => 0) := (hqf _ (by omega)).trans gA31
  have g32 : h'.1 (k + 32) = xa_o 1 [xa_r (k + 3), xa_r (k + 32 + 1)] := (hqf _ (by omega)).trans g32
  have g32_1 : h'.1 (k + 32 + 1) = xa_o 4 [xa_r (k + 3), xa_r (k + 32 + 1 + 1), xa_r (k + 32 + 1 + 2), xa_i 0, xa_i 0] := (hqf _ (by omega)).trans g32_1
  have g32_1_1 : h'.1 (k + 32 + 1 + 1) = xa_a 3 (fun _ => 0) := (hqf _ (by omega)).trans g32_1_1
  have g32_1_2 : h'.1 (k + 32 + 1 + 2) = xa_a 2 (fun _ => 0) := (hqf _ (by omega)).trans g32_1_2
  have g36 : h'.1 (k + 36) = xa_o 3 [xa_r (k + 3), xa_r (k + 36 + 4), xa_r (k + 36 + 1), xa_r (k + 36 + 2), xa_r (k + 36 + 3), xa_i 0, xa_i 0, xa_i 0, xa_i 0, xa_i 0, xa_i 0, xa_i 0] := (hqf _ (by omega)).trans g36
  have g36_1 : h'.1 (k + 36 + 1) = xa_a 360 (fun _ => 0) := (hqf _ (by omega)).trans g36_1
  have g36_2 : h'.1 (k + 36 + 2) = xa_a 360 (fun _ => 0) := (hqf _ (by omega)).trans g36_2
  have g36_3 : h'.1 (k + 36 + 3) = xa_a 0 (fun _ => 0) := (hqf _ (by omega)).trans g36_3
  have g36_4 : h'.1 (k + 36 + 4) = xa_o 6 [xa_r (k + 3), xa_r (k + 36 + 4 + 5), xa_i (-1), xa_r (k + 36 + 4 + 1), xa_r (k + 36 + 4 + 2), xa_i 0, xa_i 0, xa_i 0, xa_r (k + 36 + 4 + 3), xa_r (k + 36 + 4 + 4)] := (hqf _ (by omega)).trans g36_4
  have g36_4_1 : h'.1 (k + 36 + 4 + 1) = xa_a 2 (fun _ => 0) := (hqf _ (by omega)).trans g36_4_1
  have g36_4_2 : h'.1 (k + 36 + 4 + 2) = xa_a 2 (fun _ => 0) := (hqf _ (by omega)).trans g36_4_2
  have g36_4_3 : h'.1 (k + 36 + 4 + 3) = xa_a 0 (fun _ => 0) := (hqf _ (by omega)).trans g36_4_3
  have g36_4_4 : h'.1 (k + 36 + 4 + 4) = xa_a 0 (fun _ => 0) := (hqf _ (by omega)).trans g36_4_4
  have g36_4_5 : h'.1 (k + 36 + 4 + 5) = xa_o 4 [xa_r (k + 3), xa_r (k + 36 + 4 + 5 + 1), xa_r (k + 36 + 4 + 5 + 2), xa_i 0, xa_i 0] := (hqf _ (by omega)).trans g36_4_5
  have g36_4_5_1 : h'.1 (k + 36 + 4 + 5 + 1) = xa_a 3 (fun _ => 0) := (hqf _ (by omega)).trans g36_4_5_1
  have g36_4_5_2 : h'.1 (k + 36 + 4 + 5 + 2) = xa_a 2 (fun _ => 0) := (hqf _ (by omega)).trans g36_4_5_2
  have g48 : h'.1 (k + 48) = xa_o 3 [xa_r (k + 3), xa_r (k + 48 + 4), xa_r (k + 48 + 1), xa_r (k + 48 + 2), xa_r (k + 48 + 3), xa_i 0, xa_i 0, xa_i 0, xa_i 0, xa_i 0, xa_i 0, xa_i 0] := (hqf _ (by omega)).trans g48
  have g48_1 : h'.1 (k + 48 + 1) = xa_a 360 (fun _ => 0) := (hqf _ (by omega)).trans g48_1
  have g48_2 : h'.1 (k + 48 + 2) = xa_a 360 (fun _ => 0) := (hqf _ (by omega)).trans g48_2
  have g48_3 : h'.1 (k + 48 + 3) = xa_a 0 (fun _ => 0) := (hqf _ (by omega)).trans g48_3
  have g48_4 : h'.1 (k + 48 + 4) = xa_o 6 [xa_r (k + 3), xa_r (k + 48 + 4 + 5), xa_i 0, xa_r (k + 48 + 4 + 1), xa_r (k + 48 + 4 + 2), xa_i 0, xa_i 0, xa_i 0, xa_r (k + 48 + 4 + 3), xa_r (k + 48 + 4 + 4)] := (hqf _ (by omega)).trans g48_4
  have g48_4_1 : h'.1 (k + 48 + 4 + 1) = xa_a 2 (fun _ => 0) := (hqf _ (by omega)).trans g48_4_1
  have g48_4_2 : h'.1 (k + 48 + 4 + 2) = xa_a 2 (fun _ => 0) := (hqf _ (by omega)).trans g48_4_2
  have g48_4_3 : h'.1 (k + 48 + 4 + 3) = xa_a 0 (fun _ => 0) := (hqf _ (by omega)).trans g48_4_3
  have g48_4_4 : h'.1 (k + 48 + 4 + 4) = xa_a 0 (fun _ => 0) := (hqf _ (by omega)).trans g48_4_4
  have g48_4_5 : h'.1 (k + 48 + 4 + 5) = xa_o 4 [xa_r (k + 3), xa_r (k + 48 + 4 + 5 + 1), xa_r (k + 48 + 4 + 5 + 2), xa_i 0, xa_i 0] := (hqf _ (by omega)).trans g48_4_5
  have g48_4_5_1 : h'.1 (k + 48 + 4 + 5 + 1) = xa_a 3 (fun _ => 0) := (hqf _ (by omega)).trans g48_4_5_1
  have g48_4_5_2 : h'.1 (k + 48 + 4 + 5 + 2) = xa_a 2 (fun _ => 0) := (hqf _ (by omega)).trans g48_4_5_2
  have g60 : h'.1 (k + 60) = xa_o 3 [xa_r (k + 3), xa_r (k + 60 + 4), xa_r (k + 60 + 1), xa_r (k + 60 + 2), xa_r (k + 60 + 3), xa_i 0, xa_i 0, xa_i 0, xa_i 0, xa_i 0, xa_i 0, xa_i 0] := (hqf _ (by omega)).trans g60
  have g60_1 : h'.1 (k + 60 + 1) = xa_a 360 (fun _ => 0) := (hqf _ (by omega)).trans g60_1
  have g60_2 : h'.1 (k + 60 + 2) = xa_a 360 (fun _ => 0) := (hqf _ (by omega)).trans g60_2
  have g60_3 : h'.1 (k + 60 + 3) = xa_a 0 (fun _ => 0) := (hqf _ (by omega)).trans g60_3
  have g60_4 : h'.1 (k + 60 + 4) = xa_o 6 [xa_r (k + 3), xa_r (k + 60 + 4 + 5), xa_i 1, xa_r (k + 60 + 4 + 1), xa_r (k + 60 + 4 + 2), xa_i 0, xa_i 0, xa_i 0, xa_r (k + 60 + 4 + 3), xa_r (k + 60 + 4 + 4)] := (hqf _ (by omega)).trans g60_4
  have g60_4_1 : h'.1 (k + 60 + 4 + 1) = xa_a 2 (fun _ => 0) := (hqf _ (by omega)).trans g60_4_1
  have g60_4_2 : h'.1 (k + 60 + 4 + 2) = xa_a 2 (fun _ => 0) := (hqf _ (by omega)).trans g60_4_2
  have g60_4_3 : h'.1 (k + 60 + 4 + 3) = xa_a 0 (fun _ => 0) := (hqf _ (by omega)).trans g60_4_3
  have g60_4_4 : h'.1 (k + 60 + 4 + 4) = xa_a 0 (fun _ => 0) := (hqf _ (by omega)).trans g60_4_4
  have g60_4_5 : h'.1 (k + 60 + 4 + 5) = xa_o 4 [xa_r (k + 3), xa_r (k + 60 + 4 + 5 + 1), xa_r (k + 60 + 4 + 5 + 2), xa_i 0, xa_i 0] := (hqf _ (by omega)).trans g60_4_5
  have g60_4_5_1 : h'.1 (k + 60 + 4 + 5 + 1) = xa_a 3 (fun _ => 0) := (hqf _ (by omega)).trans g60_4_5_1
  have g60_4_5_2 : h'.1 (k + 60 + 4 + 5 + 2) = xa_a 2 (fun _ => 0) := (hqf _ (by omega)).trans g60_4_5_2
  have g3 : h'.1 (k + 3) = xa_o 0 [xa_r (k + 3 + 1), xa_r (k + 3 + 2), xa_i 2, xa_i 0, xa_i (-4), xa_i 0, xa_i 0, xa_i 10] := g3
  have g3_1 : h'.1 (k + 3 + 1) = xa_a 9 (xa_upf (xa_upf (xa_upf (xa_upf (xa_upf (xa_upf (fun _ => 0) (0 * 3) 1) (0 * 3 + 1) 1) (0 * 3 + 2) 1) (1 * 3) 1) (1 * 3 + 1) 1) (1 * 3 + 2) 1) := g3_1
  have g3_2 : h'.1 (k + 3 + 2) = xa_a 2 (fun _ => 0) := g3_2
  have hcn : h'.2 = k + 72 := by omega
  have fr : ∀ i, i < k → h'.1 i = h0.1 i := fun i hi => (hqf i (by omega)).trans (fr i hi)
  refine xa_pop (pc := 211) dX9_init_211 rfl ?_
  refine xa_aload_n (pc := 212) dX9_init_212 rfl ?_
  refine xa_getfield (pc := 213) dX9_init_213 flRX9_19 (by omega) (by omega) hX0 rfl ?_
  refine xa_bipush (pc := 216) dX9_init_216 rfl ?_
  refine xa_callV (pc := 218) (as := [xa_i 10]) (rest := []) dX9_init_218 ⟨qX0_takesBend.1, qX0_takesBend.2.1, qX0_takesBend.2.2, by decide, by decide⟩ lkRX9_85 imX0_takesBend seX0_takesBend rfl rfl (by omega) (by omega) g3 rfl (Nat.le_of_ble_eq_true rfl) (Nat.zero_le _) (Nat.zero_le _) (c_takesBend (k + 3) (xa_upf (xa_upf (xa_upf (xa_upf (xa_upf (xa_upf (fun _ => 0) (0 * 3) 1) (0 * 3 + 1) 1) (0 * 3 + 2) 1) (1 * 3) 1) (1 * 3 + 1) 1) (1 * 3 + 2) 1) (fun _ => 0) 2 0 (-4) 0 0 10 10 (by decide) (by decide) ⟨g3, g3_1, g3_2, by omega, by omega⟩) (fun r h' hq => ?_)
  obtain ⟨hqs, hqn, hqf⟩ := hq
  have hqs := hqs.elim (fun z => z.2) (fun z => absurd (by decide) z.1)
  obtain ⟨rfl, g3, g3_1, g3_2, -, -⟩ := hqs
  have hX0 : h'.1 k = xa_o 9 [xa_r (k + 1), xa_r (k + 3), xa_r (k + 6), xa_r (k + 9), xa_r (k + 11), xa_r (k + 15), xa_i 0, xa_r (k + 24), xa_r (k + 31), xa_r (k + 32), xa_r (k + 36), xa_r (k + 48), xa_r (k + 60)] := (hqf _ (by omega)).trans hX0
  have g1 : h'.1 (k + 1) = xa_o 7 [xa_r (k + 1 + 1), xa_i 0] := (hqf _ (by omega)).trans g1
  have g1_1 : h'.1 (k + 1 + 1) = xa_a 120 (fun _ => 0) := (hqf _ (by omega)).trans g1_1
  have g6 : h'.1 (k + 6) = xa_o 0 [xa_r (k + 6 + 1), xa_r (k + 6 + 2), xa_i 0, xa_i 0, xa_i (-4), xa_i 0, xa_i 0, xa_i 10] := (hqf _ (by omega)).trans g6
  have g6_1 : h'.1 (k + 6 + 1) = xa_a 9 (fun _ => 0) := (hqf _ (by omega)).trans g6_1
  have g6_2 : h'.1 (k + 6 + 2) = xa_a 2 (fun _ => 0) := (hqf _ (by omega)).trans g6_2
  have g9 : h'.1 (k + 9) = xa_o 2 [xa_r (k + 1), xa_r (k + 6), xa_r (k + 9 + 1), xa_i 0] := (hqf _ (by omega)).trans g9
  have g9_1 : h'.1 (k + 9 + 1) = xa_a 3 (fun _ => 0) := (hqf _ (by omega)).trans g9_1
  have g11 : h'.1 (k + 11) = xa_o 5 [xa_r (k + 11 + 1), xa_r (k + 11 + 2), xa_r (k + 11 + 3), xa_i 0] := (hqf _ (by omega)).trans g11
  have g11_1 : h'.1 (k + 11 + 1) = xa_a 240 (fun _ => 0) := (hqf _ (by omega)).trans g11_1
  have g11_2 : h'.1 (k + 11 + 2) = xa_a 4 (fun _ => 0) := (hqf _ (by omega)).trans g11_2
  have g11_3 : h'.1 (k + 11 + 3) = xa_a 120 (fun _ => 0) := (hqf _ (by omega)).trans g11_3
  have gQ15 : h'.1 (k + 15) = xa_q 2 (fun j => if j = 1 then some (k + 20) else (fun j => if j = 0 then some (k + 16) else (fun _ => none) j) j) := (hqf _ (by omega)).trans gQ15
  have g16 : h'.1 (k + 16) = xa_o 5 [xa_r (k + 16 + 1), xa_r (k + 16 + 2), xa_r (k + 16 + 3), xa_i 0] := (hqf _ (by omega)).trans g16
  have g16_1 : h'.1 (k + 16 + 1) = xa_a 240 (fun _ => 0) := (hqf _ (by omega)).trans g16_1
  have g16_2 : h'.1 (k + 16 + 2) = xa_a 4 (fun _ => 0) := (hqf _ (by omega)).trans g16_2
  have g16_3 : h'.1 (k + 16 + 3) = xa_a 120 (fun _ => 0) := (hqf _ (by omega)).trans g16_3
  have g20 : h'.1 (k + 20) = xa_o 5 [xa_r (k + 20 + 1), xa_r (k + 20 + 2), xa_r (k + 20 + 3), xa_i 0] := (hqf _ (by omega)).trans g20
  have g20_1 : h'.1 (k + 20 + 1) = xa_a 240 (fun _ => 0) := (hqf _ (by omega)).trans g20_1
  have g20_2 : h'.1 (k + 20 + 2) = xa_a 4 (fun _ => 0) := (hqf _ (by omega)).trans g20_2
  have g20_3 : h'.1 (k + 20 + 3) = xa_a 120 (fun _ => 0) := (hqf _ (by omega)).trans g20_3
  have g24 : h'.1 (k + 24) = xa_o 8 [xa_r (k + 24 + 4), xa_r (k + 3), xa_r (k + 24 + 1), xa_r (k + 24 + 2), xa_r (k + 24 + 3), xa_i 0, xa_i 0] := (hqf _ (by omega)).trans g24
  have g24_1 : h'.1 (k + 24 + 1) = xa_a 183 (fun _ => 0) := (hqf _ (by omega)).trans g24_1
  have g24_2 : h'.1 (k + 24 + 2) = xa_a 61 (fun _ => 0) := (hqf _ (by omega)).trans g24_2
  have g24_3 : h'.1 (k + 24 + 3) = xa_a 61 (fun _ => 0) := (hqf _ (by omega)).trans g24_3
  have g24_4 : h'.1 (k + 24 + 4) = xa_o 4 [xa_r (k + 3), xa_r (k + 24 + 4 + 1), xa_r (k + 24 + 4 + 2), xa_i 0, xa_i 0] := (hqf _ (by omega)).trans g24_4
  have g24_4_1 : h'.1 (k + 24 + 4 + 1) = xa_a 3 (fun _ => 0) := (hqf _ (by omega)).trans g24_4_1
  have g24_4_2 : h'.1 (k + 24 + 4 + 2) = xa_a 2 (fun _ => 0) := (hqf _ (by omega)).trans g24_4_2
  have gA31 : h'.1 (k + 31) = xa_a 4 (fun _ => 0) := (hqf _ (by omega)).trans gA31
  have g32 : h'.1 (k + 32) = xa_o 1 [xa_r (k + 3), xa_r (k + 32 + 1)] := (hqf _ (by omega)).trans g32
  have g32_1 : h'.1 (k + 32 + 1) = xa_o 4 [xa_r (k + 3), xa_r (k + 32 + 1 + 1), xa_r (k + 32 + 1 + 2), xa_i 0, xa_i 0] := (hqf _ (by omega)).trans g32_1
  have g32_1_1 : h'.1 (k + 32 + 1 + 1) = xa_a 3 (fun _ => 0) := (hqf _ (by omega)).trans g32_1_1
  have g32_1_2 : h'.1 (k + 32 + 1 + 2) = xa_a 2 (fun _ => 0) := (hqf _ (by omega)).trans g32_1_2
  have g36 : h'.1 (k + 36) = xa_o 3 [xa_r (k + 3), xa_r (k + 36 + 4), xa_r (k + 36 + 1), xa_r (k + 36 + 2), xa_r (k + 36 + 3), xa_i 0, xa_i 0, xa_i 0, xa_i 0, xa_i 0, xa_i 0, xa_i 0] := (hqf _ (by omega)).trans g36
  have g36_1 : h'.1 (k + 36 + 1) = xa_a 360 (fun _ => 0) := (hqf _ (by omega)).trans g36_1
  have g36_2 : h'.1 (k + 36 + 2) = xa_a 360 (fun _ => 0) := (hqf _ (by omega)).trans g36_2
  have g36_3 : h'.1 (k + 36 + 3) = xa_a 0 (fun _ => 0) := (hqf _ (by omega)).trans g36_3
  have g36_4 : h'.1 (k + 36 + 4) = xa_o 6 [xa_r (k + 3), xa_r (k + 36 + 4 + 5), xa_i (-1), xa_r (k + 36 + 4 + 1), xa_r (k + 36 + 4 + 2), xa_i 0, xa_i 0, xa_i 0, xa_r (k + 36 + 4 + 3), xa_r (k + 36 + 4 + 4)] := (hqf _ (by omega)).trans g36_4
  have g36_4_1 : h'.1 (k + 36 + 4 + 1) = xa_a 2 (fun _ => 0) := (hqf _ (by omega)).trans g36_4_1
  have g36_4_2 : h'.1 (k + 36 + 4 + 2) = xa_a 2 (fun _ => 0) := (hqf _ (by omega)).trans g36_4_2
  have g36_4_3 : h'.1 (k + 36 + 4 + 3) = xa_a 0 (fun _ => 0) := (hqf _ (by omega)).trans g36_4_3
  have g36_4_4 : h'.1 (k + 36 + 4 + 4) = xa_a 0 (fun _ => 0) := (hqf _ (by omega)).trans g36_4_4
  have g36_4_5 : h'.1 (k + 36 + 4 + 5) = xa_o 4 [xa_r (k + 3), xa_r (k + 36 + 4 + 5 + 1), xa_r (k + 36 + 4 + 5 + 2), xa_i 0, xa_i 0] := (hqf _ (by omega)).trans g36_4_5
  have g36_4_5_1 : h'.1 (k + 36 + 4 + 5 + 1) = xa_a 3 (fun _ => 0) := (hqf _ (by omega)).trans g36_4_5_1
  have g36_4_5_2 : h'.1 (k + 36 + 4 + 5 + 2) = xa_a 2 (fun _ => 0) := (hqf _ (by omega)).trans g36_4_5_2
  have g48 : h'.1 (k + 48) = xa_o 3 [xa_r (k + 3), xa_r (k + 48 + 4), xa_r (k + 48 + 1), xa_r (k + 48 + 2), xa_r (k + 48 + 3), xa_i 0, xa_i 0, xa_i 0, xa_i 0, xa_i 0, xa_i 0, xa_i 0] := (hqf _ (by omega)).trans g48
  have g48_1 : h'.1 (k + 48 + 1) = xa_a 360 (fun _ => 0) := (hqf _ (by omega)).trans g48_1
  have g48_2 : h'.1 (k + 48 + 2) = xa_a 360 (fun _ => 0) := (hqf _ (by omega)).trans g48_2
  have g48_3 : h'.1 (k + 48 + 3) = xa_a 0 (fun _ => 0) := (hqf _ (by omega)).trans g48_3
  have g48_4 : h'.1 (k + 48 + 4) = xa_o 6 [xa_r (k + 3), xa_r (k + 48 + 4 + 5), xa_i 0, xa_r (k + 48 + 4 + 1), xa_r (k + 48 + 4 + 2), xa_i 0, xa_i 0, xa_i 0, xa_r (k + 48 + 4 + 3), xa_r (k + 48 + 4 + 4)] := (hqf _ (by omega)).trans g48_4
  have g48_4_1 : h'.1 (k + 48 + 4 + 1) = xa_a 2 (fun _ => 0) := (hqf _ (by omega)).trans g48_4_1
  have g48_4_2 : h'.1 (k + 48 + 4 + 2) = xa_a 2 (fun _ => 0) := (hqf _ (by omega)).trans g48_4_2
  have g48_4_3 : h'.1 (k + 48 + 4 + 3) = xa_a 0 (fun _ => 0) := (hqf _ (by omega)).trans g48_4_3
  have g48_4_4 : h'.1 (k + 48 + 4 + 4) = xa_a 0 (fun _ => 0) := (hqf _ (by omega)).trans g48_4_4
  have g48_4_5 : h'.1 (k + 48 + 4 + 5) = xa_o 4 [xa_r (k + 3), xa_r (k + 48 + 4 + 5 + 1), xa_r (k + 48 + 4 + 5 + 2), xa_i 0, xa_i 0] := (hqf _ (by omega)).trans g48_4_5
  have g48_4_5_1 : h'.1 (k + 48 + 4 + 5 + 1) = xa_a 3 (fun _ => 0) := (hqf _ (by omega)).trans g48_4_5_1
  have g48_4_5_2 : h'.1 (k + 48 + 4 + 5 + 2) = xa_a 2 (fun _ => 0) := (hqf _ (by omega)).trans g48_4_5_2
  have g60 : h'.1 (k + 60) = xa_o 3 [xa_r (k + 3), xa_r (k + 60 + 4), xa_r (k + 60 + 1), xa_r (k + 60 + 2), xa_r (k + 60 + 3), xa_i 0, xa_i 0, xa_i 0, xa_i 0, xa_i 0, xa_i 0, xa_i 0] := (hqf _ (by omega)).trans g60
  have g60_1 : h'.1 (k + 60 + 1) = xa_a 360 (fun _ => 0) := (hqf _ (by omega)).trans g60_1
  have g60_2 : h'.1 (k + 60 + 2) = xa_a 360 (fun _ => 0) := (hqf _ (by omega)).trans g60_2
  have g60_3 : h'.1 (k + 60 + 3) = xa_a 0 (fun _ => 0) := (hqf _ (by omega)).trans g60_3
  have g60_4 : h'.1 (k + 60 + 4) = xa_o 6 [xa_r (k + 3), xa_r (k + 60 + 4 + 5), xa_i 1, xa_r (k + 60 + 4 + 1), xa_r (k + 60 + 4 + 2), xa_i 0, xa_i 0, xa_i 0, xa_r (k + 60 + 4 + 3), xa_r (k + 60 + 4 + 4)] := (hqf _ (by omega)).trans g60_4
  have g60_4_1 : h'.1 (k + 60 + 4 + 1) = xa_a 2 (fun _ => 0) := (hqf _ (by omega)).trans g60_4_1
  have g60_4_2 : h'.1 (k + 60 + 4 + 2) = xa_a 2 (fun _ => 0) := (hqf _ (by omega)).trans g60_4_2
  have g60_4_3 : h'.1 (k + 60 + 4 + 3) = xa_a 0 (fun _ => 0) := (hqf _ (by omega)).trans g60_4_3
  have g60_4_4 : h'.1 (k + 60 + 4 + 4) = xa_a 0 (fun _ => 0) := (hqf _ (by omega)).trans g60_4_4
  have g60_4_5 : h'.1 (k + 60 + 4 + 5) = xa_o 4 [xa_r (k + 3), xa_r (k + 60 + 4 + 5 + 1), xa_r (k + 60 + 4 + 5 + 2), xa_i 0, xa_i 0] := (hqf _ (by omega)).trans g60_4_5
  have g60_4_5_1 : h'.1 (k + 60 + 4 + 5 + 1) = xa_a 3 (fun _ => 0) := (hqf _ (by omega)).trans g60_4_5_1
  have g60_4_5_2 : h'.1 (k + 60 + 4 + 5 + 2) = xa_a 2 (fun _ => 0) := (hqf _ (by omega)).trans g60_4_5_2
  have g3 : h'.1 (k + 3) = xa_o 0 [xa_r (k + 3 + 1), xa_r (k + 3 + 2), xa_i 2, xa_i 1, xa_i (-4), xa_i 0, xa_i 0, xa_i 10] := g3
  have g3_1 : h'.1 (k + 3 + 1) = xa_a 9 (xa_upf (xa_upf (xa_upf (xa_upf (xa_upf (xa_upf (fun _ => 0) (0 * 3) 1) (0 * 3 + 1) 1) (0 * 3 + 2) 1) (1 * 3) 1) (1 * 3 + 1) 1) (1 * 3 + 2) 1) := g3_1
  have g3_2 : h'.1 (k + 3 + 2) = xa_a 2 (xa_upf (fun _ => 0) 0 10) := g3_2
  have hcn : h'.2 = k + 72 := by omega
  have fr : ∀ i, i < k → h'.1 i = h0.1 i := fun i hi => (hqf i (by omega)).trans (fr i hi)
  refine xa_pop (pc := 221) dX9_init_221 rfl ?_
  refine xa_return (pc := 222) dX9_init_222 rfl ?_
  exact ⟨rfl, hX0, g1, g1_1, g3, g3_1, g3_2, g6, g6_1, g6_2, g9, g9_1, g11, g11_1, g11_2, g11_3, gQ15, g16, g16_1, g16_2, g16_3, g20, g20_1, g20_2, g20_3, g24, g24_1, g24_2, g24_3, g24_4, g24_4_1, g24_4_2, gA31, g32, g32_1, g32_1_1, g32_1_2, g36, g36_1, g36_2, g36_3, g36_4, g36_4_1, g36_4_2, g36_4_3, g36_4_4, g36_4_5, g36_4_5_1, g36_4_5_2, g48, g48_1, g48_2, g48_3, g48_4, g48_4_1, g48_4_2, g48_4_3, g48_4_4, g48_4_5, g48_4_5_1, g48_4_5_2, g60, g60_1, g60_2, g60_3, g60_4, g60_4_1, g60_4_2, g60_4_3, g60_4_4, g60_4_5, g60_4_5_1, g60_4_5_2, hcn, fr⟩
theorem c_Cat_cells_11 {G : xa_G} {h0 h : xa_H} (k : Nat) (hk : 2 ≤ k) (hcn : h.2 = k + 60) (fr : ∀ i, i < k → h.1 i = h0.1 i) (hX0 : h.1 k = xa_o 9 [xa_r (k + 1), xa_r (k + 3), xa_r (k + 6), xa_r (k + 9), xa_r (k + 11), xa_r (k + 15), xa_i 0, xa_r (k + 24), xa_r (k + 31), xa_r (k + 32), xa_r (k + 36), xa_r (k + 48), xa_n]) (g1 : h.1 (k + 1) = xa_o 7 [xa_r (k + 1 + 1), xa_i 0]) (g1_1 : h.1 (k + 1 + 1) = xa_a 120 (fun _ => 0)) (g3 : h.1 (k + 3) = xa_o 0 [xa_r (k + 3 + 1), xa_r (k + 3 + 2), xa_i 0, xa_i 0, xa_i (-4), xa_i 0, xa_i 0, xa_i 10]) (g3_1 : h.1 (k + 3 + 1) = xa_a 9 (fun _ => 0)) (g3_2 : h.1 (k + 3 + 2) = xa_a 2 (fun _ => 0)) (g6 : h.1 (k + 6) = xa_o 0 [xa_r (k + 6 + 1), xa_r (k + 6 + 2), xa_i 0, xa_i 0, xa_i (-4), xa_i 0, xa_i 0, xa_i 10]) (g6_1 : h.1 (k + 6 + 1) = xa_a 9 (fun _ => 0)) (g6_2 : h.1 (k + 6 + 2) = xa_a 2 (fun _ => 0)) (g9 : h.1 (k + 9) = xa_o 2 [xa_r (k + 1), xa_r (k + 6), xa_r (k + 9 + 1), xa_i 0]) (g9_1 : h.1 (k + 9 + 1) = xa_a 3 (fun _ => 0)) (g11 : h.1 (k + 11) = xa_o 5 [xa_r (k + 11 + 1), xa_r (k + 11 + 2), xa_r (k + 11 + 3), xa_i 0]) (g11_1 : h.1 (k + 11 + 1) = xa_a 240 (fun _ => 0)) (g11_2 : h.1 (k + 11 + 2) = xa_a 4 (fun _ => 0)) (g11_3 : h.1 (k + 11 + 3) = xa_a 120 (fun _ => 0)) (gQ15 : h.1 (k + 15) = xa_q 2 (fun j => if j = 1 then some (k + 20) else (fun j => if j = 0 then some (k + 16) else (fun _ => none) j) j)) (g16 : h.1 (k + 16) = xa_o 5 [xa_r (k + 16 + 1), xa_r (k + 16 + 2), xa_r (k + 16 + 3), xa_i 0]) (g16_1 : h.1 (k + 16 + 1) = xa_a 240 (fun _ => 0)) (g16_2 : h.1 (k + 16 + 2) = xa_a 4 (fun _ => 0)) (g16_3 : h.1 (k + 16 + 3) = xa_a 120 (fun _ => 0)) (g20 : h.1 (k + 20) = xa_o 5 [xa_r (k + 20 + 1), xa_r (k + 20 + 2), xa_r (k + 20 + 3), xa_i 0]) (g20_1 : h.1 (k + 20 + 1) = xa_a 240 (fun _ => 0)) (g20_2 : h.1 (k + 20 + 2) = xa_a 4 (fun _ => 0)) (g20_3 : h.1 (k + 20 + 3) = xa_a 120 (fun _ => 0)) (g24 : h.1 (k + 24) = xa_o 8 [xa_r (k + 24 + 4), xa_r (k + 3), xa_r (k + 24 + 1), xa_r (k + 24 + 2), xa_r (k + 24 + 3), xa_i 0, xa_i 0]) (g24_1 : h.1 (k + 24 + 1) = xa_a 183 (fun _ => 0)) (g24_2 : h.1 (k + 24 + 2) = xa_a 61 (fun _ => 0)) (g24_3 : h.1 (k + 24 + 3) = xa_a 61 (fun _ => 0)) (g24_4 : h.1 (k + 24 + 4) = xa_o 4 [xa_r (k + 3), xa_r (k + 24 + 4 + 1), xa_r (k + 24 + 4 + 2), xa_i 0, xa_i 0]) (g24_4_1 : h.1 (k + 24 + 4 + 1) = xa_a 3 (fun _ => 0)) (g24_4_2 : h.1 (k + 24 + 4 + 2) = xa_a 2 (fun _ => 0)) (gA31 : h.1 (k + 31) = xa_a 4 (fun _ => 0)) (g32 : h.1 (k + 32) = xa_o 1 [xa_r (k + 3), xa_r (k + 32 + 1)]) (g32_1 : h.1 (k + 32 + 1) = xa_o 4 [xa_r (k + 3), xa_r (k + 32 + 1 + 1), xa_r (k + 32 + 1 + 2), xa_i 0, xa_i 0]) (g32_1_1 : h.1 (k + 32 + 1 + 1) = xa_a 3 (fun _ => 0)) (g32_1_2 : h.1 (k + 32 + 1 + 2) = xa_a 2 (fun _ => 0)) (g36 : h.1 (k + 36) = xa_o 3 [xa_r (k + 3), xa_r (k + 36 + 4), xa_r (k + 36 + 1), xa_r (k + 36 + 2), xa_r (k + 36 + 3), xa_i 0, xa_i 0, xa_i 0, xa_i 0, xa_i 0, xa_i 0, xa_i 0]) (g36_1 : h.1 (k + 36 + 1) = xa_a 360 (fun _ => 0)) (g36_2 : h.1 (k + 36 + 2) = xa_a 360 (fun _ => 0)) (g36_3 : h.1 (k + 36 + 3) = xa_a 0 (fun _ => 0)) (g36_4 : h.1 (k + 36 + 4) = xa_o 6 [xa_r (k + 3), xa_r (k + 36 + 4 + 5), xa_i (-1), xa_r (k + 36 + 4 + 1), xa_r (k + 36 + 4 + 2), xa_i 0, xa_i 0, xa_i 0, xa_r (k + 36 + 4 + 3), xa_r (k + 36 + 4 + 4)]) (g36_4_1 : h.1 (k + 36 + 4 + 1) = xa_a 2 (fun _ => 0)) (g36_4_2 : h.1 (k + 36 + 4 + 2) = xa_a 2 (fun _ => 0)) (g36_4_3 : h.1 (k + 36 + 4 + 3) = xa_a 0 (fun _ => 0)) (g36_4_4 : h.1 (k + 36 + 4 + 4) = xa_a 0 (fun _ => 0)) (g36_4_5 : h.1 (k + 36 + 4 + 5) = xa_o 4 [xa_r (k + 3), xa_r (k + 36 + 4 + 5 + 1), xa_r (k + 36 + 4 + 5 + 2), xa_i 0, xa_i 0]) (g36_4_5_1 : h.1 (k + 36 + 4 + 5 + 1) = xa_a 3 (fun _ => 0)) (g36_4_5_2 : h.1 (k + 36 + 4 + 5 + 2) = xa_a 2 (fun _ => 0)) (g48 : h.1 (k + 48) = xa_o 3 [xa_r (k + 3), xa_r (k + 48 + 4), xa_r (k + 48 + 1), xa_r (k + 48 + 2), xa_r (k + 48 + 3), xa_i 0, xa_i 0, xa_i 0, xa_i 0, xa_i 0, xa_i 0, xa_i 0]) (g48_1 : h.1 (k + 48 + 1) = xa_a 360 (fun _ => 0)) (g48_2 : h.1 (k + 48 + 2) = xa_a 360 (fun _ => 0)) (g48_3 : h.1 (k + 48 + 3) = xa_a 0 (fun _ => 0)) (g48_4 : h.1 (k + 48 + 4) = xa_o 6 [xa_r (k + 3), xa_r (k + 48 + 4 + 5), xa_i 0, xa_r (k + 48 + 4 + 1), xa_r (k + 48 + 4 + 2), xa_i 0, xa_i 0, xa_i 0, xa_r (k + 48 + 4 + 3), xa_r (k + 48 + 4 + 4)]) (g48_4_1 : h.1 (k + 48 + 4 + 1) = xa_a 2 (fun _ => 0)) (g48_4_2 : h.1 (k + 48 + 4 + 2) = xa_a 2 (fun _ => 0)) (g48_4_3 : h.1 (k + 48 + 4 + 3) = xa_a 0 (fun _ => 0)) (g48_4_4 : h.1 (k + 48 + 4 + 4) = xa_a 0 (fun _ => 0)) (g48_4_5 : h.1 (k + 48 + 4 + 5) = xa_o 4 [xa_r (k + 3), xa_r (k + 48 + 4 + 5 + 1), xa_r (k + 48 + 4 + 5 + 2), xa_i 0, xa_i 0]) (g48_4_5_1 : h.1 (k + 48 + 4 + 5 + 1) = xa_a 3 (fun _ => 0)) (g48_4_5_2 : h.1 (k + 48 + 4 + 5 + 2) = xa_a 2 (fun _ => 0))  : xa_W G mX9_init (xa_Z G (fun r h' => r = none ∧ h'.1 k = xa_o 9 [xa_r (k + 1), xa_r (k + 3), xa_r (k + 6), xa_r (k + 9), xa_r (k + 11), xa_r (k + 15), xa_i 0, xa_r (k + 24), xa_r (k + 31), xa_r (k + 32), xa_r (k + 36), xa_r (k + 48), xa_r (k + 60)] ∧ h'.1 (k + 1) = xa_o 7 [xa_r (k + 1 + 1), xa_i 0] ∧ h'.1 (k + 1 + 1) = xa_a 120 (fun _ => 0) ∧ h'.1 (k + 3) = xa_o 0 [xa_r (k + 3 + 1), xa_r (k + 3 + 2), xa_i 2, xa_i 1, xa_i (-4), xa_i 0, xa_i 0, xa_i 10] ∧ h'.1 (k + 3 + 1) = xa_a 9 (xa_upf (xa_upf (xa_upf (xa_upf (xa_upf (xa_upf (fun _ => 0) (0 * 3) 1) (0 * 3 + 1) 1) (0 * 3 + 2) 1) (1 * 3) 1) (1 * 3 + 1) 1) (1 * 3 + 2) 1) ∧ h'.1 (k + 3 + 2) = xa_a 2 (xa_upf (fun _ => 0) 0 10) ∧ h'.1 (k + 6) = xa_o 0 [xa_r (k + 6 + 1), xa_r (k + 6 + 2), xa_i 0, xa_i 0, xa_i (-4), xa_i 0, xa_i 0, xa_i 10] ∧ h'.1 (k + 6 + 1) = xa_a 9 (fun _ => 0) ∧ h'.1 (k + 6 + 2) = xa_a 2 (fun _ => 0) ∧ h'.1 (k + 9) = xa_o 2 [xa_r (k + 1), xa_r (k + 6), xa_r (k + 9 + 1), xa_i 0] ∧ h'.1 (k + 9 + 1) = xa_a 3 (fun _ => 0) ∧ h'.1 (k + 11) = xa_o 5 [xa_r (k + 11 + 1), xa_r (k + 11 + 2), xa_r (k + 11 + 3), xa_i 0] ∧ h'.1 (k + 11 + 1) = xa_a 240 (fun _ => 0) ∧ h'.1 (k + 11 + 2) = xa_a 4 (fun _ => 0) ∧ h'.1 (k + 11 + 3) = xa_a 120 (fun _ => 0) ∧ h'.1 (k + 15) = xa_q 2 (fun j => if j = 1 then some (k + 20) else (fun j => if j = 0 then some (k + 16) else (fun _ => none) j) j) ∧ h'.1 (k + 16) = xa_o 5 [xa_r (k + 16 + 1), xa_r (k + 16 + 2), xa_r (k + 16 + 3), xa_i 0] ∧ h'.1 (k + 16 + 1) = xa_a 240 (fun _ => 0) ∧ h'.1 (k + 16 + 2) = xa_a 4 (fun _ => 0) ∧ h'.1 (k + 16 + 3) = xa_a 120 (fun _ => 0) ∧ h'.1 (k + 20) = xa_o 5 [xa_r (k + 20 + 1), xa_r (k + 20 + 2), xa_r (k + 20 + 3), xa_i 0] ∧ h'.1 (k + 20 + 1) = xa_a 240 (fun _ => 0) ∧ h'.1 (k + 20 + 2) = xa_a 4 (fun _ => 0) ∧ h'.1 (k + 20 + 3) = xa_a 120 (fun _ => 0) ∧ h'.1 (k + 24) = xa_o 8 [xa_r (k + 24 + 4), xa_r (k + 3), xa_r (k + 24 + 1), xa_r (k + 24 + 2), xa_r (k + 24 + 3), xa_i 0, xa_i 0] ∧ h'.1 (k + 24 + 1) = xa_a 183 (fun _ => 0) ∧ h'.1 (k + 24 + 2) = xa_a 61 (fun _ => 0) ∧ h'.1 (k + 24 + 3) = xa_a 61 (fun _ => 0) ∧ h'.1 (k + 24 + 4) = xa_o 4 [xa_r (k + 3), xa_r (k + 24 + 4 + 1), xa_r (k + 24 + 4 + 2), xa_i 0, xa_i 0] ∧ h'.1 (k + 24 + 4 + 1) = xa_a 3 (fun _ => 0) ∧ h'.1 (k + 24 + 4 + 2) = xa_a 2 (fun _ => 0) ∧ h'.1 (k + 31) = xa_a 4 (fun _ => 0) ∧ h'.1 (k + 32) = xa_o 1 [xa_r (k + 3), xa_r (k + 32 + 1)] ∧ h'.1 (k + 32 + 1) = xa_o 4 [xa_r (k + 3), xa_r (k + 32 + 1 + 1), xa_r (k + 32 + 1 + 2), xa_i 0, xa_i 0] ∧ h'.1 (k + 32 + 1 + 1) = xa_a 3 (fun _ => 0) ∧ h'.1 (k + 32 + 1 + 2) = xa_a 2 (fun _ => 0) ∧ h'.1 (k + 36) = xa_o 3 [xa_r (k + 3), xa_r (k + 36 + 4), xa_r (k + 36 + 1), xa_r (k + 36 + 2), xa_r (k + 36 + 3), xa_i 0, xa_i 0, xa_i 0, xa_i 0, xa_i 0, xa_i 0, xa_i 0] ∧ h'.1 (k + 36 + 1) = xa_a 360 (fun _ => 0) ∧ h'.1 (k + 36 + 2) = xa_a 360 (fun _ => 0) ∧ h'.1 (k + 36 + 3) = xa_a 0 (fun _ => 0) ∧ h'.1 (k + 36 + 4) = xa_o 6 [xa_r (k + 3), xa_r (k + 36 + 4 + 5), xa_i (-1), xa_r (k + 36 + 4 + 1), xa_r (k + 36 + 4 + 2), xa_i 0, xa_i 0, xa_i 0, xa_r (k + 36 + 4 + 3), xa_r (k + 36 + 4 + 4)] ∧ h'.1 (k + 36 + 4 + 1) = xa_a 2 (fun _ => 0) ∧ h'.1 (k + 36 + 4 + 2) = xa_a 2 (fun _ => 0) ∧ h'.1 (k + 36 + 4 + 3) = xa_a 0 (fun _ => 0) ∧ h'.1 (k + 36 + 4 + 4) = xa_a 0 (fun _ => 0) ∧ h'.1 (k + 36 + 4 + 5) = xa_o 4 [xa_r (k + 3), xa_r (k + 36 + 4 + 5 + 1), xa_r (k + 36 + 4 + 5 + 2), xa_i 0, xa_i 0] ∧ h'.1 (k + 36 + 4 + 5 + 1) = xa_a 3 (fun _ => 0) ∧ h'.1 (k + 36 + 4 + 5 + 2) = xa_a 2 (fun _ => 0) ∧ h'.1 (k + 48) = xa_o 3 [xa_r (k + 3), xa_r (k + 48 + 4), xa_r (k + 48 + 1), xa_r (k + 48 + 2), xa_r (k + 48 + 3), xa_i 0, xa_i 0, xa_i 0, xa_i 0, xa_i 0, xa_i 0, xa_i 0] ∧ h'.1 (k + 48 + 1) = xa_a 360 (fun _ => 0) ∧ h'.1 (k + 48 + 2) = xa_a 360 (fun _ => 0) ∧ h'.1 (k + 48 + 3) = xa_a 0 (fun _ => 0) ∧ h'.1 (k + 48 + 4) = xa_o 6 [xa_r (k + 3), xa_r (k + 48 + 4 + 5), xa_i 0, xa_r (k + 48 + 4 + 1), xa_r (k + 48 + 4 + 2), xa_i 0, xa_i 0, xa_i 0, xa_r (k + 48 + 4 + 3), xa_r (k + 48 + 4 + 4)] ∧ h'.1 (k + 48 + 4 + 1) = xa_a 2 (fun _ => 0) ∧ h'.1 (k + 48 + 4 + 2) = xa_a 2 (fun _ => 0) ∧ h'.1 (k + 48 + 4 + 3) = xa_a 0 (fun _ => 0) ∧ h'.1 (k + 48 + 4 + 4) = xa_a 0 (fun _ => 0) ∧ h'.1 (k + 48 + 4 + 5) = xa_o 4 [xa_r (k + 3), xa_r (k + 48 + 4 + 5 + 1), xa_r (k + 48 + 4 + 5 + 2), xa_i 0, xa_i 0] ∧ h'.1 (k + 48 + 4 + 5 + 1) = xa_a 3 (fun _ => 0) ∧ h'.1 (k + 48 + 4 + 5 + 2) = xa_a 2 (fun _ => 0) ∧ h'.1 (k + 60) = xa_o 3 [xa_r (k + 3), xa_r (k + 60 + 4), xa_r (k + 60 + 1), xa_r (k + 60 + 2), xa_r (k + 60 + 3), xa_i 0, xa_i 0, xa_i 0, xa_i 0, xa_i 0, xa_i 0, xa_i 0] ∧ h'.1 (k + 60 + 1) = xa_a 360 (fun _ => 0) ∧ h'.1 (k + 60 + 2) = xa_a 360 (fun _ => 0) ∧ h'.1 (k + 60 + 3) = xa_a 0 (fun _ => 0) ∧ h'.1 (k + 60 + 4) = xa_o 6 [xa_r (k + 3), xa_r (k + 60 + 4 + 5), xa_i 1, xa_r (k + 60 + 4 + 1), xa_r (k + 60 + 4 + 2), xa_i 0, xa_i 0, xa_i 0, xa_r (k + 60 + 4 + 3), xa_r (k + 60 + 4 + 4)] ∧ h'.1 (k + 60 + 4 + 1) = xa_a 2 (fun _ => 0) ∧ h'.1 (k + 60 + 4 + 2) = xa_a 2 (fun _ => 0) ∧ h'.1 (k + 60 + 4 + 3) = xa_a 0 (fun _ => 0) ∧ h'.1 (k + 60 + 4 + 4) = xa_a 0 (fun _ => 0) ∧ h'.1 (k + 60 + 4 + 5) = xa_o 4 [xa_r (k + 3), xa_r (k + 60 + 4 + 5 + 1), xa_r (k + 60 + 4 + 5 + 2), xa_i 0, xa_i 0] ∧ h'.1 (k + 60 + 4 + 5 + 1) = xa_a 3 (fun _ => 0) ∧ h'.1 (k + 60 + 4 + 5 + 2) = xa_a 2 (fun _ => 0) ∧ h'.2 = k + 72 ∧ ∀ i, i < k → h'.1 i = h0.1 i)) 174 [some (xa_r k), some (xa_i 2)] [] h 12 756 := by
  refine xa_aload_n (pc := 174) dX9_init_174 rfl ?_
  refine xa_newo (pc := 175) (ci := 3) (C := RX3) (T := TX3) (N := 12) (fs := [xa_n, xa_n, xa_n, xa_n, xa_n, xa_i 0, xa_i 0, xa_i 0, xa_i 0, xa_i 0, xa_i 0, xa_i 0]) (mc0 := 11) (ms0 := 744) (k + 60) hcn dX9_init_175 rfl wcX3 tyX3_ok clRX9_66 inRX3 ziRX3 (fun j hj => by rcases (show j = 0 ∨ j = 1 ∨ j = 2 ∨ j = 3 ∨ j = 4 ∨ j = 5 ∨ j = 6 ∨ j = 7 ∨ j = 8 ∨ j = 9 ∨ j = 10 ∨ j = 11 by omega) with rfl | rfl | rfl | rfl | rfl | rfl | rfl | rfl | rfl | rfl | rfl | rfl <;> rfl) rfl rfl rfl (fun h1 nh1 ch1 oh1 => ?_)
  have hX0 : h1.1 k = xa_o 9 [xa_r (k + 1), xa_r (k + 3), xa_r (k + 6), xa_r (k + 9), xa_r (k + 11), xa_r (k + 15), xa_i 0, xa_r (k + 24), xa_r (k + 31), xa_r (k + 32), xa_r (k + 36), xa_r (k + 48), xa_n] := (oh1 _ (by omega)).trans hX0
  have g1 : h1.1 (k + 1) = xa_o 7 [xa_r (k + 1 + 1), xa_i 0] := (oh1 _ (by omega)).trans g1
  have g1_1 : h1.1 (k + 1 + 1) = xa_a 120 (fun _ => 0) := (oh1 _ (by omega)).trans g1_1
  have g3 : h1.1 (k + 3) = xa_o 0 [xa_r (k + 3 + 1), xa_r (k + 3 + 2), xa_i 0, xa_i 0, xa_i (-4), xa_i 0, xa_i 0, xa_i 10] := (oh1 _ (by omega)).trans g3
  have g3_1 : h1.1 (k + 3 + 1) = xa_a 9 (fun _ => 0) := (oh1 _ (by omega)).trans g3_1
  have g3_2 : h1.1 (k + 3 + 2) = xa_a 2 (fun _ => 0) := (oh1 _ (by omega)).trans g3_2
  have g6 : h1.1 (k + 6) = xa_o 0 [xa_r (k + 6 + 1), xa_r (k + 6 + 2), xa_i 0, xa_i 0, xa_i (-4), xa_i 0, xa_i 0, xa_i 10] := (oh1 _ (by omega)).trans g6
  have g6_1 : h1.1 (k + 6 + 1) = xa_a 9 (fun _ => 0) := (oh1 _ (by omega)).trans g6_1
  have g6_2 : h1.1 (k + 6 + 2) = xa_a 2 (fun _ => 0) := (oh1 _ (by omega)).trans g6_2
  have g9 : h1.1 (k + 9) = xa_o 2 [xa_r (k + 1), xa_r (k + 6), xa_r (k + 9 + 1), xa_i 0] := (oh1 _ (by omega)).trans g9
  have g9_1 : h1.1 (k + 9 + 1) = xa_a 3 (fun _ => 0) := (oh1 _ (by omega)).trans g9_1
  have g11 : h1.1 (k + 11) = xa_o 5 [xa_r (k + 11 + 1), xa_r (k + 11 + 2), xa_r (k + 11 + 3), xa_i 0] := (oh1 _ (by omega)).trans g11
  have g11_1 : h1.1 (k + 11 + 1) = xa_a 240 (fun _ => 0) := (oh1 _ (by omega)).trans g11_1
  have g11_2 : h1.1 (k + 11 + 2) = xa_a 4 (fun _ => 0) := (oh1 _ (by omega)).trans g11_2
  have g11_3 : h1.1 (k + 11 + 3) = xa_a 120 (fun _ => 0) := (oh1 _ (by omega)).trans g11_3
  have gQ15 : h1.1 (k + 15) = xa_q 2 (fun j => if j = 1 then some (k + 20) else (fun j => if j = 0 then some (k + 16) else (fun _ => none) j) j) := (oh1 _ (by omega)).trans gQ15
  have g16 : h1.1 (k + 16) = xa_o 5 [xa_r (k + 16 + 1), xa_r (k + 16 + 2), xa_r (k + 16 + 3), xa_i 0] := (oh1 _ (by omega)).trans g16
  have g16_1 : h1.1 (k + 16 + 1) = xa_a 240 (fun _ => 0) := (oh1 _ (by omega)).trans g16_1
  have g16_2 : h1.1 (k + 16 + 2) = xa_a 4 (fun _ => 0) := (oh1 _ (by omega)).trans g16_2
  have g16_3 : h1.1 (k + 16 + 3) = xa_a 120 (fun _ => 0) := (oh1 _ (by omega)).trans g16_3
  have g20 : h1.1 (k + 20) = xa_o 5 [xa_r (k + 20 + 1), xa_r (k + 20 + 2), xa_r (k + 20 + 3), xa_i 0] := (oh1 _ (by omega)).trans g20
  have g20_1 : h1.1 (k + 20 + 1) = xa_a 240 (fun _ => 0) := (oh1 _ (by omega)).trans g20_1
  have g20_2 : h1.1 (k + 20 + 2) = xa_a 4 (fun _ => 0) := (oh1 _ (by omega)).trans g20_2
  have g20_3 : h1.1 (k + 20 + 3) = xa_a 120 (fun _ => 0) := (oh1 _ (by omega)).trans g20_3
  have g24 : h1.1 (k + 24) = xa_o 8 [xa_r (k + 24 + 4), xa_r (k + 3), xa_r (k + 24 + 1), xa_r (k + 24 + 2), xa_r (k + 24 + 3), xa_i 0, xa_i 0] := (oh1 _ (by omega)).trans g24
  have g24_1 : h1.1 (k + 24 + 1) = xa_a 183 (fun _ => 0) := (oh1 _ (by omega)).trans g24_1
  have g24_2 : h1.1 (k + 24 + 2) = xa_a 61 (fun _ => 0) := (oh1 _ (by omega)).trans g24_2
  have g24_3 : h1.1 (k + 24 + 3) = xa_a 61 (fun _ => 0) := (oh1 _ (by omega)).trans g24_3
  have g24_4 : h1.1 (k + 24 + 4) = xa_o 4 [xa_r (k + 3), xa_r (k + 24 + 4 + 1), xa_r (k + 24 + 4 + 2), xa_i 0, xa_i 0] := (oh1 _ (by omega)).trans g24_4
  have g24_4_1 : h1.1 (k + 24 + 4 + 1) = xa_a 3 (fun _ => 0) := (oh1 _ (by omega)).trans g24_4_1
  have g24_4_2 : h1.1 (k + 24 + 4 + 2) = xa_a 2 (fun _ => 0) := (oh1 _ (by omega)).trans g24_4_2
  have gA31 : h1.1 (k + 31) = xa_a 4 (fun _ => 0) := (oh1 _ (by omega)).trans gA31
  have g32 : h1.1 (k + 32) = xa_o 1 [xa_r (k + 3), xa_r (k + 32 + 1)] := (oh1 _ (by omega)).trans g32
  have g32_1 : h1.1 (k + 32 + 1) = xa_o 4 [xa_r (k + 3), xa_r (k + 32 + 1 + 1), xa_r (k + 32 + 1 + 2), xa_i 0, xa_i 0] := (oh1 _ (by omega)).trans g32_1
  have g32_1_1 : h1.1 (k + 32 + 1 + 1) = xa_a 3 (fun _ => 0) := (oh1 _ (by omega)).trans g32_1_1
  have g32_1_2 : h1.1 (k + 32 + 1 + 2) = xa_a 2 (fun _ => 0) := (oh1 _ (by omega)).trans g32_1_2
  have g36 : h1.1 (k + 36) = xa_o 3 [xa_r (k + 3), xa_r (k + 36 + 4), xa_r (k + 36 + 1), xa_r (k + 36 + 2), xa_r (k + 36 + 3), xa_i 0, xa_i 0, xa_i 0, xa_i 0, xa_i 0, xa_i 0, xa_i 0] := (oh1 _ (by omega)).trans g36
  have g36_1 : h1.1 (k + 36 + 1) = xa_a 360 (fun _ => 0) := (oh1 _ (by omega)).trans g36_1
  have g36_2 : h1.1 (k + 36 + 2) = xa_a 360 (fun _ => 0) := (oh1 _ (by omega)).trans g36_2
  have g36_3 : h1.1 (k + 36 + 3) = xa_a 0 (fun _ => 0) := (oh1 _ (by omega)).trans g36_3
  have g36_4 : h1.1 (k + 36 + 4) = xa_o 6 [xa_r (k + 3), xa_r (k + 36 + 4 + 5), xa_i (-1), xa_r (k + 36 + 4 + 1), xa_r (k + 36 + 4 + 2), xa_i 0, xa_i 0, xa_i 0, xa_r (k + 36 + 4 + 3), xa_r (k + 36 + 4 + 4)] := (oh1 _ (by omega)).trans g36_4
  have g36_4_1 : h1.1 (k + 36 + 4 + 1) = xa_a 2 (fun _ => 0) := (oh1 _ (by omega)).trans g36_4_1
  have g36_4_2 : h1.1 (k + 36 + 4 + 2) = xa_a 2 (fun _ => 0) := (oh1 _ (by omega)).trans g36_4_2
  have g36_4_3 : h1.1 (k + 36 + 4 + 3) = xa_a 0 (fun _ => 0) := (oh1 _ (by omega)).trans g36_4_3
  have g36_4_4 : h1.1 (k + 36 + 4 + 4) = xa_a 0 (fun _ => 0) := (oh1 _ (by omega)).trans g36_4_4
  have g36_4_5 : h1.1 (k + 36 + 4 + 5) = xa_o 4 [xa_r (k + 3), xa_r (k + 36 + 4 + 5 + 1), xa_r (k + 36 + 4 + 5 + 2), xa_i 0, xa_i 0] := (oh1 _ (by omega)).trans g36_4_5
  have g36_4_5_1 : h1.1 (k + 36 + 4 + 5 + 1) = xa_a 3 (fun _ => 0) := (oh1 _ (by omega)).trans g36_4_5_1
  have g36_4_5_2 : h1.1 (k + 36 + 4 + 5 + 2) = xa_a 2 (fun _ => 0) := (oh1 _ (by omega)).trans g36_4_5_2
  have g48 : h1.1 (k + 48) = xa_o 3 [xa_r (k + 3), xa_r (k + 48 + 4), xa_r (k + 48 + 1), xa_r (k + 48 + 2), xa_r (k + 48 + 3), xa_i 0, xa_i 0, xa_i 0, xa_i 0, xa_i 0, xa_i 0, xa_i 0] := (oh1 _ (by omega)).trans g48
  have g48_1 : h1.1 (k + 48 + 1) = xa_a 360 (fun _ => 0) := (oh1 _ (by omega)).trans g48_1
  have g48_2 : h1.1 (k + 48 + 2) = xa_a 360 (fun _ => 0) := (oh1 _ (by omega)).trans g48_2
  have g48_3 : h1.1 (k + 48 + 3) = xa_a 0 (fun _ => 0) := (oh1 _ (by omega)).trans g48_3
  have g48_4 : h1.1 (k + 48 + 4) = xa_o 6 [xa_r (k + 3), xa_r (k + 48 + 4 + 5), xa_i 0, xa_r (k + 48 + 4 + 1), xa_r (k + 48 + 4 + 2), xa_i 0, xa_i 0, xa_i 0, xa_r (k + 48 + 4 + 3), xa_r (k + 48 + 4 + 4)] := (oh1 _ (by omega)).trans g48_4
  have g48_4_1 : h1.1 (k + 48 + 4 + 1) = xa_a 2 (fun _ => 0) := (oh1 _ (by omega)).trans g48_4_1
  have g48_4_2 : h1.1 (k + 48 + 4 + 2) = xa_a 2 (fun _ => 0) := (oh1 _ (by omega)).trans g48_4_2
  have g48_4_3 : h1.1 (k + 48 + 4 + 3) = xa_a 0 (fun _ => 0) := (oh1 _ (by omega)).trans g48_4_3
  have g48_4_4 : h1.1 (k + 48 + 4 + 4) = xa_a 0 (fun _ => 0) := (oh1 _ (by omega)).trans g48_4_4
  have g48_4_5 : h1.1 (k + 48 + 4 + 5) = xa_o 4 [xa_r (k + 3), xa_r (k + 48 + 4 + 5 + 1), xa_r (k + 48 + 4 + 5 + 2), xa_i 0, xa_i 0] := (oh1 _ (by omega)).trans g48_4_5
  have g48_4_5_1 : h1.1 (k + 48 + 4 + 5 + 1) = xa_a 3 (fun _ => 0) := (oh1 _ (by omega)).trans g48_4_5_1
  have g48_4_5_2 : h1.1 (k + 48 + 4 + 5 + 2) = xa_a 2 (fun _ => 0) := (oh1 _ (by omega)).trans g48_4_5_2
  have gO60 : h1.1 (k + 60) = xa_o 3 [xa_n, xa_n, xa_n, xa_n, xa_n, xa_i 0, xa_i 0, xa_i 0, xa_i 0, xa_i 0, xa_i 0, xa_i 0] := ch1
  have hcn : h1.2 = k + 61 := nh1
  have fr : ∀ i, i < k → h1.1 i = h0.1 i := fun i hi => (oh1 i (by omega)).trans (fr i hi)
  refine xa_dup (pc := 178) dX9_init_178 rfl ?_
  refine xa_aload_n (pc := 179) dX9_init_179 rfl ?_
  refine xa_getfield (pc := 180) dX9_init_180 flRX9_19 (by omega) (by omega) hX0 rfl ?_
  refine xa_iconst (pc := 183) dX9_init_183 ?_
  refine xa_callI (pc := 184) (as := [xa_r (k + 3), xa_i 1]) (rest := [xa_r (k + 60), xa_r k]) (k := (k + 60)) dX9_init_184 ⟨qX3_init.1, qX3_init.2.1, qX3_init.2.2, by decide, by decide⟩ rfl rfl lkRX9_68 imX3_init rfl rfl (Nat.le_of_ble_eq_true rfl) (Nat.le_of_ble_eq_true rfl) (Nat.le_of_ble_eq_true rfl) (c_Search_init _ _ 1 (by omega) (by omega) gO60) (fun r h' hq => ?_)
  obtain ⟨rfl, ⟨g60, g60_1, g60_2, g60_3, ⟨g60_4, g60_4_1, g60_4_2, g60_4_3, g60_4_4, ⟨g60_4_5, g60_4_5_1, g60_4_5_2, -, -⟩⟩⟩, hqn, hqf⟩ := hq
  have hX0 : h'.1 k = xa_o 9 [xa_r (k + 1), xa_r (k + 3), xa_r (k + 6), xa_r (k + 9), xa_r (k + 11), xa_r (k + 15), xa_i 0, xa_r (k + 24), xa_r (k + 31), xa_r (k + 32), xa_r (k + 36), xa_r (k + 48), xa_n] := (hqf _ (by omega)).trans hX0
  have g1 : h'.1 (k + 1) = xa_o 7 [xa_r (k + 1 + 1), xa_i 0] := (hqf _ (by omega)).trans g1
  have g1_1 : h'.1 (k + 1 + 1) = xa_a 120 (fun _ => 0) := (hqf _ (by omega)).trans g1_1
  have g3 : h'.1 (k + 3) = xa_o 0 [xa_r (k + 3 + 1), xa_r (k + 3 + 2), xa_i 0, xa_i 0, xa_i (-4), xa_i 0, xa_i 0, xa_i 10] := (hqf _ (by omega)).trans g3
  have g3_1 : h'.1 (k + 3 + 1) = xa_a 9 (fun _ => 0) := (hqf _ (by omega)).trans g3_1
  have g3_2 : h'.1 (k + 3 + 2) = xa_a 2 (fun _ => 0) := (hqf _ (by omega)).trans g3_2
  have g6 : h'.1 (k + 6) = xa_o 0 [xa_r (k + 6 + 1), xa_r (k + 6 + 2), xa_i 0, xa_i 0, xa_i (-4), xa_i 0, xa_i 0, xa_i 10] := (hqf _ (by omega)).trans g6
  have g6_1 : h'.1 (k + 6 + 1) = xa_a 9 (fun _ => 0) := (hqf _ (by omega)).trans g6_1
  have g6_2 : h'.1 (k + 6 + 2) = xa_a 2 (fun _ => 0) := (hqf _ (by omega)).trans g6_2
  have g9 : h'.1 (k + 9) = xa_o 2 [xa_r (k + 1), xa_r (k + 6), xa_r (k + 9 + 1), xa_i 0] := (hqf _ (by omega)).trans g9
  have g9_1 : h'.1 (k + 9 + 1) = xa_a 3 (fun _ => 0) := (hqf _ (by omega)).trans g9_1
  have g11 : h'.1 (k + 11) = xa_o 5 [xa_r (k + 11 + 1), xa_r (k + 11 + 2), xa_r (k + 11 + 3), xa_i 0] := (hqf _ (by omega)).trans g11
  have g11_1 : h'.1 (k + 11 + 1) = xa_a 240 (fun _ => 0) := (hqf _ (by omega)).trans g11_1
  have g11_2 : h'.1 (k + 11 + 2) = xa_a 4 (fun _ => 0) := (hqf _ (by omega)).trans g11_2
  have g11_3 : h'.1 (k + 11 + 3) = xa_a 120 (fun _ => 0) := (hqf _ (by omega)).trans g11_3
  have gQ15 : h'.1 (k + 15) = xa_q 2 (fun j => if j = 1 then some (k + 20) else (fun j => if j = 0 then some (k + 16) else (fun _ => none) j) j) := (hqf _ (by omega)).trans gQ15
  have g16 : h'.1 (k + 16) = xa_o 5 [xa_r (k + 16 + 1), xa_r (k + 16 + 2), xa_r (k + 16 + 3), xa_i 0] := (hqf _ (by omega)).trans g16
  have g16_1 : h'.1 (k + 16 + 1) = xa_a 240 (fun _ => 0) := (hqf _ (by omega)).trans g16_1
  have g16_2 : h'.1 (k + 16 + 2) = xa_a 4 (fun _ => 0) := (hqf _ (by omega)).trans g16_2
  have g16_3 : h'.1 (k + 16 + 3) = xa_a 120 (fun _ => 0) := (hqf _ (by omega)).trans g16_3
  have g20 : h'.1 (k + 20) = xa_o 5 [xa_r (k + 20 + 1), xa_r (k + 20 + 2), xa_r (k + 20 + 3), xa_i 0] := (hqf _ (by omega)).trans g20
  have g20_1 : h'.1 (k + 20 + 1) = xa_a 240 (fun _ => 0) := (hqf _ (by omega)).trans g20_1
  have g20_2 : h'.1 (k + 20 + 2) = xa_a 4 (fun _ => 0) := (hqf _ (by omega)).trans g20_2
  have g20_3 : h'.1 (k + 20 + 3) = xa_a 120 (fun _ => 0) := (hqf _ (by omega)).trans g20_3
  have g24 : h'.1 (k + 24) = xa_o 8 [xa_r (k + 24 + 4), xa_r (k + 3), xa_r (k + 24 + 1), xa_r (k + 24 + 2), xa_r (k + 24 + 3), xa_i 0, xa_i 0] := (hqf _ (by omega)).trans g24
  have g24_1 : h'.1 (k + 24 + 1) = xa_a 183 (fun _ => 0) := (hqf _ (by omega)).trans g24_1
  have g24_2 : h'.1 (k + 24 + 2) = xa_a 61 (fun _ => 0) := (hqf _ (by omega)).trans g24_2
  have g24_3 : h'.1 (k + 24 + 3) = xa_a 61 (fun _ => 0) := (hqf _ (by omega)).trans g24_3
  have g24_4 : h'.1 (k + 24 + 4) = xa_o 4 [xa_r (k + 3), xa_r (k + 24 + 4 + 1), xa_r (k + 24 + 4 + 2), xa_i 0, xa_i 0] := (hqf _ (by omega)).trans g24_4
  have g24_4_1 : h'.1 (k + 24 + 4 + 1) = xa_a 3 (fun _ => 0) := (hqf _ (by omega)).trans g24_4_1
  have g24_4_2 : h'.1 (k + 24 + 4 + 2) = xa_a 2 (fun _ => 0) := (hqf _ (by omega)).trans g24_4_2
  have gA31 : h'.1 (k + 31) = xa_a 4 (fun _ => 0) := (hqf _ (by omega)).trans gA31
  have g32 : h'.1 (k + 32) = xa_o 1 [xa_r (k + 3), xa_r (k + 32 + 1)] := (hqf _ (by omega)).trans g32
  have g32_1 : h'.1 (k + 32 + 1) = xa_o 4 [xa_r (k + 3), xa_r (k + 32 + 1 + 1), xa_r (k + 32 + 1 + 2), xa_i 0, xa_i 0] := (hqf _ (by omega)).trans g32_1
  have g32_1_1 : h'.1 (k + 32 + 1 + 1) = xa_a 3 (fun _ => 0) := (hqf _ (by omega)).trans g32_1_1
  have g32_1_2 : h'.1 (k + 32 + 1 + 2) = xa_a 2 (fun _ => 0) := (hqf _ (by omega)).trans g32_1_2
  have g36 : h'.1 (k + 36) = xa_o 3 [xa_r (k + 3), xa_r (k + 36 + 4), xa_r (k + 36 + 1), xa_r (k + 36 + 2), xa_r (k + 36 + 3), xa_i 0, xa_i 0, xa_i 0, xa_i 0, xa_i 0, xa_i 0, xa_i 0] := (hqf _ (by omega)).trans g36
  have g36_1 : h'.1 (k + 36 + 1) = xa_a 360 (fun _ => 0) := (hqf _ (by omega)).trans g36_1
  have g36_2 : h'.1 (k + 36 + 2) = xa_a 360 (fun _ => 0) := (hqf _ (by omega)).trans g36_2
  have g36_3 : h'.1 (k + 36 + 3) = xa_a 0 (fun _ => 0) := (hqf _ (by omega)).trans g36_3
  have g36_4 : h'.1 (k + 36 + 4) = xa_o 6 [xa_r (k + 3), xa_r (k + 36 + 4 + 5), xa_i (-1), xa_r (k + 36 + 4 + 1), xa_r (k + 36 + 4 + 2), xa_i 0, xa_i 0, xa_i 0, xa_r (k + 36 + 4 + 3), xa_r (k + 36 + 4 + 4)] := (hqf _ (by omega)).trans g36_4
  have g36_4_1 : h'.1 (k + 36 + 4 + 1) = xa_a 2 (fun _ => 0) := (hqf _ (by omega)).trans g36_4_1
  have g36_4_2 : h'.1 (k + 36 + 4 + 2) = xa_a 2 (fun _ => 0) := (hqf _ (by omega)).trans g36_4_2
  have g36_4_3 : h'.1 (k + 36 + 4 + 3) = xa_a 0 (fun _ => 0) := (hqf _ (by omega)).trans g36_4_3
  have g36_4_4 : h'.1 (k + 36 + 4 + 4) = xa_a 0 (fun _ => 0) := (hqf _ (by omega)).trans g36_4_4
  have g36_4_5 : h'.1 (k + 36 + 4 + 5) = xa_o 4 [xa_r (k + 3), xa_r (k + 36 + 4 + 5 + 1), xa_r (k + 36 + 4 + 5 + 2), xa_i 0, xa_i 0] := (hqf _ (by omega)).trans g36_4_5
  have g36_4_5_1 : h'.1 (k + 36 + 4 + 5 + 1) = xa_a 3 (fun _ => 0) := (hqf _ (by omega)).trans g36_4_5_1
  have g36_4_5_2 : h'.1 (k + 36 + 4 + 5 + 2) = xa_a 2 (fun _ => 0) := (hqf _ (by omega)).trans g36_4_5_2
  have g48 : h'.1 (k + 48) = xa_o 3 [xa_r (k + 3), xa_r (k + 48 + 4), xa_r (k + 48 + 1), xa_r (k + 48 + 2), xa_r (k + 48 + 3), xa_i 0, xa_i 0, xa_i 0, xa_i 0, xa_i 0, xa_i 0, xa_i 0] := (hqf _ (by omega)).trans g48
  have g48_1 : h'.1 (k + 48 + 1) = xa_a 360 (fun _ => 0) := (hqf _ (by omega)).trans g48_1
  have g48_2 : h'.1 (k + 48 + 2) = xa_a 360 (fun _ => 0) := (hqf _ (by omega)).trans g48_2
  have g48_3 : h'.1 (k + 48 + 3) = xa_a 0 (fun _ => 0) := (hqf _ (by omega)).trans g48_3
  have g48_4 : h'.1 (k + 48 + 4) = xa_o 6 [xa_r (k + 3), xa_r (k + 48 + 4 + 5), xa_i 0, xa_r (k + 48 + 4 + 1), xa_r (k + 48 + 4 + 2), xa_i 0, xa_i 0, xa_i 0, xa_r (k + 48 + 4 + 3), xa_r (k + 48 + 4 + 4)] := (hqf _ (by omega)).trans g48_4
  have g48_4_1 : h'.1 (k + 48 + 4 + 1) = xa_a 2 (fun _ => 0) := (hqf _ (by omega)).trans g48_4_1
  have g48_4_2 : h'.1 (k + 48 + 4 + 2) = xa_a 2 (fun _ => 0) := (hqf _ (by omega)).trans g48_4_2
  have g48_4_3 : h'.1 (k + 48 + 4 + 3) = xa_a 0 (fun _ => 0) := (hqf _ (by omega)).trans g48_4_3
  have g48_4_4 : h'.1 (k + 48 + 4 + 4) = xa_a 0 (fun _ => 0) := (hqf _ (by omega)).trans g48_4_4
  have g48_4_5 : h'.1 (k + 48 + 4 + 5) = xa_o 4 [xa_r (k + 3), xa_r (k + 48 + 4 + 5 + 1), xa_r (k + 48 + 4 + 5 + 2), xa_i 0, xa_i 0] := (hqf _ (by omega)).trans g48_4_5
  have g48_4_5_1 : h'.1 (k + 48 + 4 + 5 + 1) = xa_a 3 (fun _ => 0) := (hqf _ (by omega)).trans g48_4_5_1
  have g48_4_5_2 : h'.1 (k + 48 + 4 + 5 + 2) = xa_a 2 (fun _ => 0) := (hqf _ (by omega)).trans g48_4_5_2
  have g60 : h'.1 (k + 60) = xa_o 3 [xa_r (k + 3), xa_r (k + 60 + 4), xa_r (k + 60 + 1), xa_r (k + 60 + 2), xa_r (k + 60 + 3), xa_i 0, xa_i 0, xa_i 0, xa_i 0, xa_i 0, xa_i 0, xa_i 0] := g60
  have g60_1 : h'.1 (k + 60 + 1) = xa_a 360 (fun _ => 0) := g60_1
  have g60_2 : h'.1 (k + 60 + 2) = xa_a 360 (fun _ => 0) := g60_2
  have g60_3 : h'.1 (k + 60 + 3) = xa_a 0 (fun _ => 0) := g60_3
  have g60_4 : h'.1 (k + 60 + 4) = xa_o 6 [xa_r (k + 3), xa_r (k + 60 + 4 + 5), xa_i 1, xa_r (k + 60 + 4 + 1), xa_r (k + 60 + 4 + 2), xa_i 0, xa_i 0, xa_i 0, xa_r (k + 60 + 4 + 3), xa_r (k + 60 + 4 + 4)] := g60_4
  have g60_4_1 : h'.1 (k + 60 + 4 + 1) = xa_a 2 (fun _ => 0) := g60_4_1
  have g60_4_2 : h'.1 (k + 60 + 4 + 2) = xa_a 2 (fun _ => 0) := g60_4_2
  have g60_4_3 : h'.1 (k + 60 + 4 + 3) = xa_a 0 (fun _ => 0) := g60_4_3
  have g60_4_4 : h'.1 (k + 60 + 4 + 4) = xa_a 0 (fun _ => 0) := g60_4_4
  have g60_4_5 : h'.1 (k + 60 + 4 + 5) = xa_o 4 [xa_r (k + 3), xa_r (k + 60 + 4 + 5 + 1), xa_r (k + 60 + 4 + 5 + 2), xa_i 0, xa_i 0] := g60_4_5
  have g60_4_5_1 : h'.1 (k + 60 + 4 + 5 + 1) = xa_a 3 (fun _ => 0) := g60_4_5_1
  have g60_4_5_2 : h'.1 (k + 60 + 4 + 5 + 2) = xa_a 2 (fun _ => 0) := g60_4_5_2
  have hcn : h'.2 = k + 72 := by omega
  have fr : ∀ i, i < k → h'.1 i = h0.1 i := fun i hi => (hqf i (by omega)).trans (fr i hi)
  refine xa_putwF (pc := 187) [xa_r (k + 1), xa_r (k + 3), xa_r (k + 6), xa_r (k + 9), xa_r (k + 11), xa_r (k + 15), xa_i 0, xa_r (k + 24), xa_r (k + 31), xa_r (k + 32), xa_r (k + 36), xa_r (k + 48), xa_r (k + 60)] dX9_init_187 rfl flRX9_78 plX9_12 (by omega) (by omega) hX0 trivial rfl rfl (fun h2 nh2 ch2 oh2 => ?_)
  have hX0 : h2.1 k = xa_o 9 [xa_r (k + 1), xa_r (k + 3), xa_r (k + 6), xa_r (k + 9), xa_r (k + 11), xa_r (k + 15), xa_i 0, xa_r (k + 24), xa_r (k + 31), xa_r (k + 32), xa_r (k + 36), xa_r (k + 48), xa_r (k + 60)] := ch2
  have g1 : h2.1 (k + 1) = xa_o 7 [xa_r (k + 1 + 1), xa_i 0] := (oh2 _ (by omega)).trans g1
  have g1_1 : h2.1 (k + 1 + 1) = xa_a 120 (fun _ => 0) := (oh2 _ (by omega)).trans g1_1
  have g3 : h2.1 (k + 3) = xa_o 0 [xa_r (k + 3 + 1), xa_r (k + 3 + 2), xa_i 0, xa_i 0, xa_i (-4), xa_i 0, xa_i 0, xa_i 10] := (oh2 _ (by omega)).trans g3
  have g3_1 : h2.1 (k + 3 + 1) = xa_a 9 (fun _ => 0) := (oh2 _ (by omega)).trans g3_1
  have g3_2 : h2.1 (k + 3 + 2) = xa_a 2 (fun _ => 0) := (oh2 _ (by omega)).trans g3_2
  have g6 : h2.1 (k + 6) = xa_o 0 [xa_r (k + 6 + 1), xa_r (k + 6 + 2), xa_i 0, xa_i 0, xa_i (-4), xa_i 0, xa_i 0, xa_i 10] := (oh2 _ (by omega)).trans g6
  have g6_1 : h2.1 (k + 6 + 1) = xa_a 9 (fun _ => 0) := (oh2 _ (by omega)).trans g6_1
  have g6_2 : h2.1 (k + 6 + 2) = xa_a 2 (fun _ => 0) := (oh2 _ (by omega)).trans g6_2
  have g9 : h2.1 (k + 9) = xa_o 2 [xa_r (k + 1), xa_r (k + 6), xa_r (k + 9 + 1), xa_i 0] := (oh2 _ (by omega)).trans g9
  have g9_1 : h2.1 (k + 9 + 1) = xa_a 3 (fun _ => 0) := (oh2 _ (by omega)).trans g9_1
  have g11 : h2.1 (k + 11) = xa_o 5 [xa_r (k + 11 + 1), xa_r (k + 11 + 2), xa_r (k + 11 + 3), xa_i 0] := (oh2 _ (by omega)).trans g11
  have g11_1 : h2.1 (k + 11 + 1) = xa_a 240 (fun _ => 0) := (oh2 _ (by omega)).trans g11_1
  have g11_2 : h2.1 (k + 11 + 2) = xa_a 4 (fun _ => 0) := (oh2 _ (by omega)).trans g11_2
  have g11_3 : h2.1 (k + 11 + 3) = xa_a 120 (fun _ => 0) := (oh2 _ (by omega)).trans g11_3
  have gQ15 : h2.1 (k + 15) = xa_q 2 (fun j => if j = 1 then some (k + 20) else (fun j => if j = 0 then some (k + 16) else (fun _ => none) j) j) := (oh2 _ (by omega)).trans gQ15
  have g16 : h2.1 (k + 16) = xa_o 5 [xa_r (k + 16 + 1), xa_r (k + 16 + 2), xa_r (k + 16 + 3), xa_i 0] := (oh2 _ (by omega)).trans g16
  have g16_1 : h2.1 (k + 16 + 1) = xa_a 240 (fun _ => 0) := (oh2 _ (by omega)).trans g16_1
  have g16_2 : h2.1 (k + 16 + 2) = xa_a 4 (fun _ => 0) := (oh2 _ (by omega)).trans g16_2
  have g16_3 : h2.1 (k + 16 + 3) = xa_a 120 (fun _ => 0) := (oh2 _ (by omega)).trans g16_3
  have g20 : h2.1 (k + 20) = xa_o 5 [xa_r (k + 20 + 1), xa_r (k + 20 + 2), xa_r (k + 20 + 3), xa_i 0] := (oh2 _ (by omega)).trans g20
  have g20_1 : h2.1 (k + 20 + 1) = xa_a 240 (fun _ => 0) := (oh2 _ (by omega)).trans g20_1
  have g20_2 : h2.1 (k + 20 + 2) = xa_a 4 (fun _ => 0) := (oh2 _ (by omega)).trans g20_2
  have g20_3 : h2.1 (k + 20 + 3) = xa_a 120 (fun _ => 0) := (oh2 _ (by omega)).trans g20_3
  have g24 : h2.1 (k + 24) = xa_o 8 [xa_r (k + 24 + 4), xa_r (k + 3), xa_r (k + 24 + 1), xa_r (k + 24 + 2), xa_r (k + 24 + 3), xa_i 0, xa_i 0] := (oh2 _ (by omega)).trans g24
  have g24_1 : h2.1 (k + 24 + 1) = xa_a 183 (fun _ => 0) := (oh2 _ (by omega)).trans g24_1
  have g24_2 : h2.1 (k + 24 + 2) = xa_a 61 (fun _ => 0) := (oh2 _ (by omega)).trans g24_2
  have g24_3 : h2.1 (k + 24 + 3) = xa_a 61 (fun _ => 0) := (oh2 _ (by omega)).trans g24_3
  have g24_4 : h2.1 (k + 24 + 4) = xa_o 4 [xa_r (k + 3), xa_r (k + 24 + 4 + 1), xa_r (k + 24 + 4 + 2), xa_i 0, xa_i 0] := (oh2 _ (by omega)).trans g24_4
  have g24_4_1 : h2.1 (k + 24 + 4 + 1) = xa_a 3 (fun _ => 0) := (oh2 _ (by omega)).trans g24_4_1
  have g24_4_2 : h2.1 (k + 24 + 4 + 2) = xa_a 2 (fun _ => 0) := (oh2 _ (by omega)).trans g24_4_2
  have gA31 : h2.1 (k + 31) = xa_a 4 (fun _ => 0) := (oh2 _ (by omega)).trans gA31
  have g32 : h2.1 (k + 32) = xa_o 1 [xa_r (k + 3), xa_r (k + 32 + 1)] := (oh2 _ (by omega)).trans g32
  have g32_1 : h2.1 (k + 32 + 1) = xa_o 4 [xa_r (k + 3), xa_r (k + 32 + 1 + 1), xa_r (k + 32 + 1 + 2), xa_i 0, xa_i 0] := (oh2 _ (by omega)).trans g32_1
  have g32_1_1 : h2.1 (k + 32 + 1 + 1) = xa_a 3 (fun _ => 0) := (oh2 _ (by omega)).trans g32_1_1
  have g32_1_2 : h2.1 (k + 32 + 1 + 2) = xa_a 2 (fun _ => 0) := (oh2 _ (by omega)).trans g32_1_2
  have g36 : h2.1 (k + 36) = xa_o 3 [xa_r (k + 3), xa_r (k + 36 + 4), xa_r (k + 36 + 1), xa_r (k + 36 + 2), xa_r (k + 36 + 3), xa_i 0, xa_i 0, xa_i 0, xa_i 0, xa_i 0, xa_i 0, xa_i 0] := (oh2 _ (by omega)).trans g36
  have g36_1 : h2.1 (k + 36 + 1) = xa_a 360 (fun _ => 0) := (oh2 _ (by omega)).trans g36_1
  have g36_2 : h2.1 (k + 36 + 2) = xa_a 360 (fun _ => 0) := (oh2 _ (by omega)).trans g36_2
  have g36_3 : h2.1 (k + 36 + 3) = xa_a 0 (fun _ => 0) := (oh2 _ (by omega)).trans g36_3
  have g36_4 : h2.1 (k + 36 + 4) = xa_o 6 [xa_r (k + 3), xa_r (k + 36 + 4 + 5), xa_i (-1), xa_r (k + 36 + 4 + 1), xa_r (k + 36 + 4 + 2), xa_i 0, xa_i 0, xa_i 0, xa_r (k + 36 + 4 + 3), xa_r (k + 36 + 4 + 4)] := (oh2 _ (by omega)).trans g36_4
  have g36_4_1 : h2.1 (k + 36 + 4 + 1) = xa_a 2 (fun _ => 0) := (oh2 _ (by omega)).trans g36_4_1
  have g36_4_2 : h2.1 (k + 36 + 4 + 2) = xa_a 2 (fun _ => 0) := (oh2 _ (by omega)).trans g36_4_2
  have g36_4_3 : h2.1 (k + 36 + 4 + 3) = xa_a 0 (fun _ => 0) := (oh2 _ (by omega)).trans g36_4_3
  have g36_4_4 : h2.1 (k + 36 + 4 + 4) = xa_a 0 (fun _ => 0) := (oh2 _ (by omega)).trans g36_4_4
  have g36_4_5 : h2.1 (k + 36 + 4 + 5) = xa_o 4 [xa_r (k + 3), xa_r (k + 36 + 4 + 5 + 1), xa_r (k + 36 + 4 + 5 + 2), xa_i 0, xa_i 0] := (oh2 _ (by omega)).trans g36_4_5
  have g36_4_5_1 : h2.1 (k + 36 + 4 + 5 + 1) = xa_a 3 (fun _ => 0) := (oh2 _ (by omega)).trans g36_4_5_1
  have g36_4_5_2 : h2.1 (k + 36 + 4 + 5 + 2) = xa_a 2 (fun _ => 0) := (oh2 _ (by omega)).trans g36_4_5_2
  have g48 : h2.1 (k + 48) = xa_o 3 [xa_r (k + 3), xa_r (k + 48 + 4), xa_r (k + 48 + 1), xa_r (k + 48 + 2), xa_r (k + 48 + 3), xa_i 0, xa_i 0, xa_i 0, xa_i 0, xa_i 0, xa_i 0, xa_i 0] := (oh2 _ (by omega)).trans g48
  have g48_1 : h2.1 (k + 48 + 1) = xa_a 360 (fun _ => 0) := (oh2 _ (by omega)).trans g48_1
  have g48_2 : h2.1 (k + 48 + 2) = xa_a 360 (fun _ => 0) := (oh2 _ (by omega)).trans g48_2
  have g48_3 : h2.1 (k + 48 + 3) = xa_a 0 (fun _ => 0) := (oh2 _ (by omega)).trans g48_3
  have g48_4 : h2.1 (k + 48 + 4) = xa_o 6 [xa_r (k + 3), xa_r (k + 48 + 4 + 5), xa_i 0, xa_r (k + 48 + 4 + 1), xa_r (k + 48 + 4 + 2), xa_i 0, xa_i 0, xa_i 0, xa_r (k + 48 + 4 + 3), xa_r (k + 48 + 4 + 4)] := (oh2 _ (by omega)).trans g48_4
  have g48_4_1 : h2.1 (k + 48 + 4 + 1) = xa_a 2 (fun _ => 0) := (oh2 _ (by omega)).trans g48_4_1
  have g48_4_2 : h2.1 (k + 48 + 4 + 2) = xa_a 2 (fun _ => 0) := (oh2 _ (by omega)).trans g48_4_2
  have g48_4_3 : h2.1 (k + 48 + 4 + 3) = xa_a 0 (fun _ => 0) := (oh2 _ (by omega)).trans g48_4_3
  have g48_4_4 : h2.1 (k + 48 + 4 + 4) = xa_a 0 (fun _ => 0) := (oh2 _ (by omega)).trans g48_4_4
  have g48_4_5 : h2.1 (k + 48 + 4 + 5) = xa_o 4 [xa_r (k + 3), xa_r (k + 48 + 4 + 5 + 1), xa_r (k + 48 + 4 + 5 + 2), xa_i 0, xa_i 0] := (oh2 _ (by omega)).trans g48_4_5
  have g48_4_5_1 : h2.1 (k + 48 + 4 + 5 + 1) = xa_a 3 (fun _ => 0) := (oh2 _ (by omega)).trans g48_4_5_1
  have g48_4_5_2 : h2.1 (k + 48 + 4 + 5 + 2) = xa_a 2 (fun _ => 0) := (oh2 _ (by omega)).trans g48_4_5_2
  have g60 : h2.1 (k + 60) = xa_o 3 [xa_r (k + 3), xa_r (k + 60 + 4), xa_r (k + 60 + 1), xa_r (k + 60 + 2), xa_r (k + 60 + 3), xa_i 0, xa_i 0, xa_i 0, xa_i 0, xa_i 0, xa_i 0, xa_i 0] := (oh2 _ (by omega)).trans g60
  have g60_1 : h2.1 (k + 60 + 1) = xa_a 360 (fun _ => 0) := (oh2 _ (by omega)).trans g60_1
  have g60_2 : h2.1 (k + 60 + 2) = xa_a 360 (fun _ => 0) := (oh2 _ (by omega)).trans g60_2
  have g60_3 : h2.1 (k + 60 + 3) = xa_a 0 (fun _ => 0) := (oh2 _ (by omega)).trans g60_3
  have g60_4 : h2.1 (k + 60 + 4) = xa_o 6 [xa_r (k + 3), xa_r (k + 60 + 4 + 5), xa_i 1, xa_r (k + 60 + 4 + 1), xa_r (k + 60 + 4 + 2), xa_i 0, xa_i 0, xa_i 0, xa_r (k + 60 + 4 + 3), xa_r (k + 60 + 4 + 4)] := (oh2 _ (by omega)).trans g60_4
  have g60_4_1 : h2.1 (k + 60 + 4 + 1) = xa_a 2 (fun _ => 0) := (oh2 _ (by omega)).trans g60_4_1
  have g60_4_2 : h2.1 (k + 60 + 4 + 2) = xa_a 2 (fun _ => 0) := (oh2 _ (by omega)).trans g60_4_2
  have g60_4_3 : h2.1 (k + 60 + 4 + 3) = xa_a 0 (fun _ => 0) := (oh2 _ (by omega)).trans g60_4_3
  have g60_4_4 : h2.1 (k + 60 + 4 + 4) = xa_a 0 (fun _ => 0) := (oh2 _ (by omega)).trans g60_4_4
  have g60_4_5 : h2.1 (k + 60 + 4 + 5) = xa_o 4 [xa_r (k + 3), xa_r (k + 60 + 4 + 5 + 1), xa_r (k + 60 + 4 + 5 + 2), xa_i 0, xa_i 0] := (oh2 _ (by omega)).trans g60_4_5
  have g60_4_5_1 : h2.1 (k + 60 + 4 + 5 + 1) = xa_a 3 (fun _ => 0) := (oh2 _ (by omega)).trans g60_4_5_1
  have g60_4_5_2 : h2.1 (k + 60 + 4 + 5 + 2) = xa_a 2 (fun _ => 0) := (oh2 _ (by omega)).trans g60_4_5_2
  have hcn : h2.2 = k + 72 := nh2.trans hcn
  have fr : ∀ i, i < k → h2.1 i = h0.1 i := fun i hi => (oh2 i (by omega)).trans (fr i hi)
  exact c_Cat_cells_12 k hk hcn fr hX0 g1 g1_1 g3 g3_1 g3_2 g6 g6_1 g6_2 g9 g9_1 g11 g11_1 g11_2 g11_3 gQ15 g16 g16_1 g16_2 g16_3 g20 g20_1 g20_2 g20_3 g24 g24_1 g24_2 g24_3 g24_4 g24_4_1 g24_4_2 gA31 g32 g32_1 g32_1_1 g32_1_2 g36 g36_1 g36_2 g36_3 g36_4 g36_4_1 g36_4_2 g36_4_3 g36_4_4 g36_4_5 g36_4_5_1 g36_4_5_2 g48 g48_1 g48_2 g48_3 g48_4 g48_4_1 g48_4_2 g48_4_3 g48_4_4 g48_4_5 g48_4_5_1 g48_4_5_2 g60 g60_1 g60_2 g60_3 g60_4 g60_4_1 g60_4_2 g60_4_3 g60_4_4 g60_4_5 g60_4_5_1 g60_4_5_2
theorem c_Cat_cells_10 {G : xa_G} {h0 h : xa_H} (k : Nat) (hk : 2 ≤ k) (hcn : h.2 = k + 48) (fr : ∀ i, i < k → h.1 i = h0.1 i) (hX0 : h.1 k = xa_o 9 [xa_r (k + 1), xa_r (k + 3), xa_r (k + 6), xa_r (k + 9), xa_r (k + 11), xa_r (k + 15), xa_i 0, xa_r (k + 24), xa_r (k + 31), xa_r (k + 32), xa_r (k + 36), xa_n, xa_n]) (g1 : h.1 (k + 1) = xa_o 7 [xa_r (k + 1 + 1), xa_i 0]) (g1_1 : h.1 (k + 1 + 1) = xa_a 120 (fun _ => 0)) (g3 : h.1 (k + 3) = xa_o 0 [xa_r (k + 3 + 1), xa_r (k + 3 + 2), xa_i 0, xa_i 0, xa_i (-4), xa_i 0, xa_i 0, xa_i 10]) (g3_1 : h.1 (k + 3 + 1) = xa_a 9 (fun _ => 0)) (g3_2 : h.1 (k + 3 + 2) = xa_a 2 (fun _ => 0)) (g6 : h.1 (k + 6) = xa_o 0 [xa_r (k + 6 + 1), xa_r (k + 6 + 2), xa_i 0, xa_i 0, xa_i (-4), xa_i 0, xa_i 0, xa_i 10]) (g6_1 : h.1 (k + 6 + 1) = xa_a 9 (fun _ => 0)) (g6_2 : h.1 (k + 6 + 2) = xa_a 2 (fun _ => 0)) (g9 : h.1 (k + 9) = xa_o 2 [xa_r (k + 1), xa_r (k + 6), xa_r (k + 9 + 1), xa_i 0]) (g9_1 : h.1 (k + 9 + 1) = xa_a 3 (fun _ => 0)) (g11 : h.1 (k + 11) = xa_o 5 [xa_r (k + 11 + 1), xa_r (k + 11 + 2), xa_r (k + 11 + 3), xa_i 0]) (g11_1 : h.1 (k + 11 + 1) = xa_a 240 (fun _ => 0)) (g11_2 : h.1 (k + 11 + 2) = xa_a 4 (fun _ => 0)) (g11_3 : h.1 (k + 11 + 3) = xa_a 120 (fun _ => 0)) (gQ15 : h.1 (k + 15) = xa_q 2 (fun j => if j = 1 then some (k + 20) else (fun j => if j = 0 then some (k + 16) else (fun _ => none) j) j)) (g16 : h.1 (k + 16) = xa_o 5 [xa_r (k + 16 + 1), xa_r (k + 16 + 2), xa_r (k + 16 + 3), xa_i 0]) (g16_1 : h.1 (k + 16 + 1) = xa_a 240 (fun _ => 0)) (g16_2 : h.1 (k + 16 + 2) = xa_a 4 (fun _ => 0)) (g16_3 : h.1 (k + 16 + 3) = xa_a 120 (fun _ => 0)) (g20 : h.1 (k + 20) = xa_o 5 [xa_r (k + 20 + 1), xa_r (k + 20 + 2), xa_r (k + 20 + 3), xa_i 0]) (g20_1 : h.1 (k + 20 + 1) = xa_a 240 (fun _ => 0)) (g20_2 : h.1 (k + 20 + 2) = xa_a 4 (fun _ => 0)) (g20_3 : h.1 (k + 20 + 3) = xa_a 120 (fun _ => 0)) (g24 : h.1 (k + 24) = xa_o 8 [xa_r (k + 24 + 4), xa_r (k + 3), xa_r (k + 24 + 1), xa_r (k + 24 + 2), xa_r (k + 24 + 3), xa_i 0, xa_i 0]) (g24_1 : h.1 (k + 24 + 1) = xa_a 183 (fun _ => 0)) (g24_2 : h.1 (k + 24 + 2) = xa_a 61 (fun _ => 0)) (g24_3 : h.1 (k + 24 + 3) = xa_a 61 (fun _ => 0)) (g24_4 : h.1 (k + 24 + 4) = xa_o 4 [xa_r (k + 3), xa_r (k + 24 + 4 + 1), xa_r (k + 24 + 4 + 2), xa_i 0, xa_i 0]) (g24_4_1 : h.1 (k + 24 + 4 + 1) = xa_a 3 (fun _ => 0)) (g24_4_2 : h.1 (k + 24 + 4 + 2) = xa_a 2 (fun _ => 0)) (gA31 : h.1 (k + 31) = xa_a 4 (fun _ => 0)) (g32 : h.1 (k + 32) = xa_o 1 [xa_r (k + 3), xa_r (k + 32 + 1)]) (g32_1 : h.1 (k + 32 + 1) = xa_o 4 [xa_r (k + 3), xa_r (k + 32 + 1 + 1), xa_r (k + 32 + 1 + 2), xa_i 0, xa_i 0]) (g32_1_1 : h.1 (k + 32 + 1 + 1) = xa_a 3 (fun _ => 0)) (g32_1_2 : h.1 (k + 32 + 1 + 2) = xa_a 2 (fun _ => 0)) (g36 : h.1 (k + 36) = xa_o 3 [xa_r (k + 3), xa_r (k + 36 + 4), xa_r (k + 36 + 1), xa_r (k + 36 + 2), xa_r (k + 36 + 3), xa_i 0, xa_i 0, xa_i 0, xa_i 0, xa_i 0, xa_i 0, xa_i 0]) (g36_1 : h.1 (k + 36 + 1) = xa_a 360 (fun _ => 0)) (g36_2 : h.1 (k + 36 + 2) = xa_a 360 (fun _ => 0)) (g36_3 : h.1 (k + 36 + 3) = xa_a 0 (fun _ => 0)) (g36_4 : h.1 (k + 36 + 4) = xa_o 6 [xa_r (k + 3), xa_r (k + 36 + 4 + 5), xa_i (-1), xa_r (k + 36 + 4 + 1), xa_r (k + 36 + 4 + 2), xa_i 0, xa_i 0, xa_i 0, xa_r (k + 36 + 4 + 3), xa_r (k + 36 + 4 + 4)]) (g36_4_1 : h.1 (k + 36 + 4 + 1) = xa_a 2 (fun _ => 0)) (g36_4_2 : h.1 (k + 36 + 4 + 2) = xa_a 2 (fun _ => 0)) (g36_4_3 : h.1 (k + 36 + 4 + 3) = xa_a 0 (fun _ => 0)) (g36_4_4 : h.1 (k + 36 + 4 + 4) = xa_a 0 (fun _ => 0)) (g36_4_5 : h.1 (k + 36 + 4 + 5) = xa_o 4 [xa_r (k + 3), xa_r (k + 36 + 4 + 5 + 1), xa_r (k + 36 + 4 + 5 + 2), xa_i 0, xa_i 0]) (g36_4_5_1 : h.1 (k + 36 + 4 + 5 + 1) = xa_a 3 (fun _ => 0)) (g36_4_5_2 : h.1 (k + 36 + 4 + 5 + 2) = xa_a 2 (fun _ => 0))  : xa_W G mX9_init (xa_Z G (fun r h' => r = none ∧ h'.1 k = xa_o 9 [xa_r (k + 1), xa_r (k + 3), xa_r (k + 6), xa_r (k + 9), xa_r (k + 11), xa_r (k + 15), xa_i 0, xa_r (k + 24), xa_r (k + 31), xa_r (k + 32), xa_r (k + 36), xa_r (k + 48), xa_r (k + 60)] ∧ h'.1 (k + 1) = xa_o 7 [xa_r (k + 1 + 1), xa_i 0] ∧ h'.1 (k + 1 + 1) = xa_a 120 (fun _ => 0) ∧ h'.1 (k + 3) = xa_o 0 [xa_r (k + 3 + 1), xa_r (k + 3 + 2), xa_i 2, xa_i 1, xa_i (-4), xa_i 0, xa_i 0, xa_i 10] ∧ h'.1 (k + 3 + 1) = xa_a 9 (xa_upf (xa_upf (xa_upf (xa_upf (xa_upf (xa_upf (fun _ => 0) (0 * 3) 1) (0 * 3 + 1) 1) (0 * 3 + 2) 1) (1 * 3) 1) (1 * 3 + 1) 1) (1 * 3 + 2) 1) ∧ h'.1 (k + 3 + 2) = xa_a 2 (xa_upf (fun _ => 0) 0 10) ∧ h'.1 (k + 6) = xa_o 0 [xa_r (k + 6 + 1), xa_r (k + 6 + 2), xa_i 0, xa_i 0, xa_i (-4), xa_i 0, xa_i 0, xa_i 10] ∧ h'.1 (k + 6 + 1) = xa_a 9 (fun _ => 0) ∧ h'.1 (k + 6 + 2) = xa_a 2 (fun _ => 0) ∧ h'.1 (k + 9) = xa_o 2 [xa_r (k + 1), xa_r (k + 6), xa_r (k + 9 + 1), xa_i 0] ∧ h'.1 (k + 9 + 1) = xa_a 3 (fun _ => 0) ∧ h'.1 (k + 11) = xa_o 5 [xa_r (k + 11 + 1), xa_r (k + 11 + 2), xa_r (k + 11 + 3), xa_i 0] ∧ h'.1 (k + 11 + 1) = xa_a 240 (fun _ => 0) ∧ h'.1 (k + 11 + 2) = xa_a 4 (fun _ => 0) ∧ h'.1 (k + 11 + 3) = xa_a 120 (fun _ => 0) ∧ h'.1 (k + 15) = xa_q 2 (fun j => if j = 1 then some (k + 20) else (fun j => if j = 0 then some (k + 16) else (fun _ => none) j) j) ∧ h'.1 (k + 16) = xa_o 5 [xa_r (k + 16 + 1), xa_r (k + 16 + 2), xa_r (k + 16 + 3), xa_i 0] ∧ h'.1 (k + 16 + 1) = xa_a 240 (fun _ => 0) ∧ h'.1 (k + 16 + 2) = xa_a 4 (fun _ => 0) ∧ h'.1 (k + 16 + 3) = xa_a 120 (fun _ => 0) ∧ h'.1 (k + 20) = xa_o 5 [xa_r (k + 20 + 1), xa_r (k + 20 + 2), xa_r (k + 20 + 3), xa_i 0] ∧ h'.1 (k + 20 + 1) = xa_a 240 (fun _ => 0) ∧ h'.1 (k + 20 + 2) = xa_a 4 (fun _ => 0) ∧ h'.1 (k + 20 + 3) = xa_a 120 (fun _ => 0) ∧ h'.1 (k + 24) = xa_o 8 [xa_r (k + 24 + 4), xa_r (k + 3), xa_r (k + 24 + 1), xa_r (k + 24 + 2), xa_r (k + 24 + 3), xa_i 0, xa_i 0] ∧ h'.1 (k + 24 + 1) = xa_a 183 (fun _ => 0) ∧ h'.1 (k + 24 + 2) = xa_a 61 (fun _ => 0) ∧ h'.1 (k + 24 + 3) = xa_a 61 (fun _ => 0) ∧ h'.1 (k + 24 + 4) = xa_o 4 [xa_r (k + 3), xa_r (k + 24 + 4 + 1), xa_r (k + 24 + 4 + 2), xa_i 0, xa_i 0] ∧ h'.1 (k + 24 + 4 + 1) = xa_a 3 (fun _ => 0) ∧ h'.1 (k + 24 + 4 + 2) = xa_a 2 (fun _ => 0) ∧ h'.1 (k + 31) = xa_a 4 (fun _ => 0) ∧ h'.1 (k + 32) = xa_o 1 [xa_r (k + 3), xa_r (k + 32 + 1)] ∧ h'.1 (k + 32 + 1) = xa_o 4 [xa_r (k + 3), xa_r (k + 32 + 1 + 1), xa_r (k + 32 + 1 + 2), xa_i 0, xa_i 0] ∧ h'.1 (k + 32 + 1 + 1) = xa_a 3 (fun _ => 0) ∧ h'.1 (k + 32 + 1 + 2) = xa_a 2 (fun _ => 0) ∧ h'.1 (k + 36) = xa_o 3 [xa_r (k + 3), xa_r (k + 36 + 4), xa_r (k + 36 + 1), xa_r (k + 36 + 2), xa_r (k + 36 + 3), xa_i 0, xa_i 0, xa_i 0, xa_i 0, xa_i 0, xa_i 0, xa_i 0] ∧ h'.1 (k + 36 + 1) = xa_a 360 (fun _ => 0) ∧ h'.1 (k + 36 + 2) = xa_a 360 (fun _ => 0) ∧ h'.1 (k + 36 + 3) = xa_a 0 (fun _ => 0) ∧ h'.1 (k + 36 + 4) = xa_o 6 [xa_r (k + 3), xa_r (k + 36 + 4 + 5), xa_i (-1), xa_r (k + 36 + 4 + 1), xa_r (k + 36 + 4 + 2), xa_i 0, xa_i 0, xa_i 0, xa_r (k + 36 + 4 + 3), xa_r (k + 36 + 4 + 4)] ∧ h'.1 (k + 36 + 4 + 1) = xa_a 2 (fun _ => 0) ∧ h'.1 (k + 36 + 4 + 2) = xa_a 2 (fun _ => 0) ∧ h'.1 (k + 36 + 4 + 3) = xa_a 0 (fun _ => 0) ∧ h'.1 (k + 36 + 4 + 4) = xa_a 0 (fun _ => 0) ∧ h'.1 (k + 36 + 4 + 5) = xa_o 4 [xa_r (k + 3), xa_r (k + 36 + 4 + 5 + 1), xa_r (k + 36 + 4 + 5 + 2), xa_i 0, xa_i 0] ∧ h'.1 (k + 36 + 4 + 5 + 1) = xa_a 3 (fun _ => 0) ∧ h'.1 (k + 36 + 4 + 5 + 2) = xa_a 2 (fun _ => 0) ∧ h'.1 (k + 48) = xa_o 3 [xa_r (k + 3), xa_r (k + 48 + 4), xa_r (k + 48 + 1), xa_r (k + 48 + 2), xa_r (k + 48 + 3), xa_i 0, xa_i 0, xa_i 0, xa_i 0, xa_i 0, xa_i 0, xa_i 0] ∧ h'.1 (k + 48 + 1) = xa_a 360 (fun _ => 0) ∧ h'.1 (k + 48 + 2) = xa_a 360 (fun _ => 0) ∧ h'.1 (k + 48 + 3) = xa_a 0 (fun _ => 0) ∧ h'.1 (k + 48 + 4) = xa_o 6 [xa_r (k + 3), xa_r (k + 48 + 4 + 5), xa_i 0, xa_r (k + 48 + 4 + 1), xa_r (k + 48 + 4 + 2), xa_i 0, xa_i 0, xa_i 0, xa_r (k + 48 + 4 + 3), xa_r (k + 48 + 4 + 4)] ∧ h'.1 (k + 48 + 4 + 1) = xa_a 2 (fun _ => 0) ∧ h'.1 (k + 48 + 4 + 2) = xa_a 2 (fun _ => 0) ∧ h'.1 (k + 48 + 4 + 3) = xa_a 0 (fun _ => 0) ∧ h'.1 (k + 48 + 4 + 4) = xa_a 0 (fun _ => 0) ∧ h'.1 (k + 48 + 4 + 5) = xa_o 4 [xa_r (k + 3), xa_r (k + 48 + 4 + 5 + 1), xa_r (k + 48 + 4 + 5 + 2), xa_i 0, xa_i 0] ∧ h'.1 (k + 48 + 4 + 5 + 1) = xa_a 3 (fun _ => 0) ∧ h'.1 (k + 48 + 4 + 5 + 2) = xa_a 2 (fun _ => 0) ∧ h'.1 (k + 60) = xa_o 3 [xa_r (k + 3), xa_r (k + 60 + 4), xa_r (k + 60 + 1), xa_r (k + 60 + 2), xa_r (k + 60 + 3), xa_i 0, xa_i 0, xa_i 0, xa_i 0, xa_i 0, xa_i 0, xa_i 0] ∧ h'.1 (k + 60 + 1) = xa_a 360 (fun _ => 0) ∧ h'.1 (k + 60 + 2) = xa_a 360 (fun _ => 0) ∧ h'.1 (k + 60 + 3) = xa_a 0 (fun _ => 0) ∧ h'.1 (k + 60 + 4) = xa_o 6 [xa_r (k + 3), xa_r (k + 60 + 4 + 5), xa_i 1, xa_r (k + 60 + 4 + 1), xa_r (k + 60 + 4 + 2), xa_i 0, xa_i 0, xa_i 0, xa_r (k + 60 + 4 + 3), xa_r (k + 60 + 4 + 4)] ∧ h'.1 (k + 60 + 4 + 1) = xa_a 2 (fun _ => 0) ∧ h'.1 (k + 60 + 4 + 2) = xa_a 2 (fun _ => 0) ∧ h'.1 (k + 60 + 4 + 3) = xa_a 0 (fun _ => 0) ∧ h'.1 (k + 60 + 4 + 4) = xa_a 0 (fun _ => 0) ∧ h'.1 (k + 60 + 4 + 5) = xa_o 4 [xa_r (k + 3), xa_r (k + 60 + 4 + 5 + 1), xa_r (k + 60 + 4 + 5 + 2), xa_i 0, xa_i 0] ∧ h'.1 (k + 60 + 4 + 5 + 1) = xa_a 3 (fun _ => 0) ∧ h'.1 (k + 60 + 4 + 5 + 2) = xa_a 2 (fun _ => 0) ∧ h'.2 = k + 72 ∧ ∀ i, i < k → h'.1 i = h0.1 i)) 158 [some (xa_r k), some (xa_i 2)] [] h 24 1512 := by
  refine xa_aload_n (pc := 158) dX9_init_158 rfl ?_
  refine xa_newo (pc := 159) (ci := 3) (C := RX3) (T := TX3) (N := 12) (fs := [xa_n, xa_n, xa_n, xa_n, xa_n, xa_i 0, xa_i 0, xa_i 0, xa_i 0, xa_i 0, xa_i 0, xa_i 0]) (mc0 := 23) (ms0 := 1500) (k + 48) hcn dX9_init_159 rfl wcX3 tyX3_ok clRX9_66 inRX3 ziRX3 (fun j hj => by rcases (show j = 0 ∨ j = 1 ∨ j = 2 ∨ j = 3 ∨ j = 4 ∨ j = 5 ∨ j = 6 ∨ j = 7 ∨ j = 8 ∨ j = 9 ∨ j = 10 ∨ j = 11 by omega) with rfl | rfl | rfl | rfl | rfl | rfl | rfl | rfl | rfl | rfl | rfl | rfl <;> rfl) rfl rfl rfl (fun h1 nh1 ch1 oh1 => ?_)
  have hX0 : h1.1 k = xa_o 9 [xa_r (k + 1), xa_r (k + 3), xa_r (k + 6), xa_r (k + 9), xa_r (k + 11), xa_r (k + 15), xa_i 0, xa_r (k + 24), xa_r (k + 31), xa_r (k + 32), xa_r (k + 36), xa_n, xa_n] := (oh1 _ (by omega)).trans hX0
  have g1 : h1.1 (k + 1) = xa_o 7 [xa_r (k + 1 + 1), xa_i 0] := (oh1 _ (by omega)).trans g1
  have g1_1 : h1.1 (k + 1 + 1) = xa_a 120 (fun _ => 0) := (oh1 _ (by omega)).trans g1_1
  have g3 : h1.1 (k + 3) = xa_o 0 [xa_r (k + 3 + 1), xa_r (k + 3 + 2), xa_i 0, xa_i 0, xa_i (-4), xa_i 0, xa_i 0, xa_i 10] := (oh1 _ (by omega)).trans g3
  have g3_1 : h1.1 (k + 3 + 1) = xa_a 9 (fun _ => 0) := (oh1 _ (by omega)).trans g3_1
  have g3_2 : h1.1 (k + 3 + 2) = xa_a 2 (fun _ => 0) := (oh1 _ (by omega)).trans g3_2
  have g6 : h1.1 (k + 6) = xa_o 0 [xa_r (k + 6 + 1), xa_r (k + 6 + 2), xa_i 0, xa_i 0, xa_i (-4), xa_i 0, xa_i 0, xa_i 10] := (oh1 _ (by omega)).trans g6
  have g6_1 : h1.1 (k + 6 + 1) = xa_a 9 (fun _ => 0) := (oh1 _ (by omega)).trans g6_1
  have g6_2 : h1.1 (k + 6 + 2) = xa_a 2 (fun _ => 0) := (oh1 _ (by omega)).trans g6_2
  have g9 : h1.1 (k + 9) = xa_o 2 [xa_r (k + 1), xa_r (k + 6), xa_r (k + 9 + 1), xa_i 0] := (oh1 _ (by omega)).trans g9
  have g9_1 : h1.1 (k + 9 + 1) = xa_a 3 (fun _ => 0) := (oh1 _ (by omega)).trans g9_1
  have g11 : h1.1 (k + 11) = xa_o 5 [xa_r (k + 11 + 1), xa_r (k + 11 + 2), xa_r (k + 11 + 3), xa_i 0] := (oh1 _ (by omega)).trans g11
  have g11_1 : h1.1 (k + 11 + 1) = xa_a 240 (fun _ => 0) := (oh1 _ (by omega)).trans g11_1
  have g11_2 : h1.1 (k + 11 + 2) = xa_a 4 (fun _ => 0) := (oh1 _ (by omega)).trans g11_2
  have g11_3 : h1.1 (k + 11 + 3) = xa_a 120 (fun _ => 0) := (oh1 _ (by omega)).trans g11_3
  have gQ15 : h1.1 (k + 15) = xa_q 2 (fun j => if j = 1 then some (k + 20) else (fun j => if j = 0 then some (k + 16) else (fun _ => none) j) j) := (oh1 _ (by omega)).trans gQ15
  have g16 : h1.1 (k + 16) = xa_o 5 [xa_r (k + 16 + 1), xa_r (k + 16 + 2), xa_r (k + 16 + 3), xa_i 0] := (oh1 _ (by omega)).trans g16
  have g16_1 : h1.1 (k + 16 + 1) = xa_a 240 (fun _ => 0) := (oh1 _ (by omega)).trans g16_1
  have g16_2 : h1.1 (k + 16 + 2) = xa_a 4 (fun _ => 0) := (oh1 _ (by omega)).trans g16_2
  have g16_3 : h1.1 (k + 16 + 3) = xa_a 120 (fun _ => 0) := (oh1 _ (by omega)).trans g16_3
  have g20 : h1.1 (k + 20) = xa_o 5 [xa_r (k + 20 + 1), xa_r (k + 20 + 2), xa_r (k + 20 + 3), xa_i 0] := (oh1 _ (by omega)).trans g20
  have g20_1 : h1.1 (k + 20 + 1) = xa_a 240 (fun _ => 0) := (oh1 _ (by omega)).trans g20_1
  have g20_2 : h1.1 (k + 20 + 2) = xa_a 4 (fun _ => 0) := (oh1 _ (by omega)).trans g20_2
  have g20_3 : h1.1 (k + 20 + 3) = xa_a 120 (fun _ => 0) := (oh1 _ (by omega)).trans g20_3
  have g24 : h1.1 (k + 24) = xa_o 8 [xa_r (k + 24 + 4), xa_r (k + 3), xa_r (k + 24 + 1), xa_r (k + 24 + 2), xa_r (k + 24 + 3), xa_i 0, xa_i 0] := (oh1 _ (by omega)).trans g24
  have g24_1 : h1.1 (k + 24 + 1) = xa_a 183 (fun _ => 0) := (oh1 _ (by omega)).trans g24_1
  have g24_2 : h1.1 (k + 24 + 2) = xa_a 61 (fun _ => 0) := (oh1 _ (by omega)).trans g24_2
  have g24_3 : h1.1 (k + 24 + 3) = xa_a 61 (fun _ => 0) := (oh1 _ (by omega)).trans g24_3
  have g24_4 : h1.1 (k + 24 + 4) = xa_o 4 [xa_r (k + 3), xa_r (k + 24 + 4 + 1), xa_r (k + 24 + 4 + 2), xa_i 0, xa_i 0] := (oh1 _ (by omega)).trans g24_4
  have g24_4_1 : h1.1 (k + 24 + 4 + 1) = xa_a 3 (fun _ => 0) := (oh1 _ (by omega)).trans g24_4_1
  have g24_4_2 : h1.1 (k + 24 + 4 + 2) = xa_a 2 (fun _ => 0) := (oh1 _ (by omega)).trans g24_4_2
  have gA31 : h1.1 (k + 31) = xa_a 4 (fun _ => 0) := (oh1 _ (by omega)).trans gA31
  have g32 : h1.1 (k + 32) = xa_o 1 [xa_r (k + 3), xa_r (k + 32 + 1)] := (oh1 _ (by omega)).trans g32
  have g32_1 : h1.1 (k + 32 + 1) = xa_o 4 [xa_r (k + 3), xa_r (k + 32 + 1 + 1), xa_r (k + 32 + 1 + 2), xa_i 0, xa_i 0] := (oh1 _ (by omega)).trans g32_1
  have g32_1_1 : h1.1 (k + 32 + 1 + 1) = xa_a 3 (fun _ => 0) := (oh1 _ (by omega)).trans g32_1_1
  have g32_1_2 : h1.1 (k + 32 + 1 + 2) = xa_a 2 (fun _ => 0) := (oh1 _ (by omega)).trans g32_1_2
  have g36 : h1.1 (k + 36) = xa_o 3 [xa_r (k + 3), xa_r (k + 36 + 4), xa_r (k + 36 + 1), xa_r (k + 36 + 2), xa_r (k + 36 + 3), xa_i 0, xa_i 0, xa_i 0, xa_i 0, xa_i 0, xa_i 0, xa_i 0] := (oh1 _ (by omega)).trans g36
  have g36_1 : h1.1 (k + 36 + 1) = xa_a 360 (fun _ => 0) := (oh1 _ (by omega)).trans g36_1
  have g36_2 : h1.1 (k + 36 + 2) = xa_a 360 (fun _ => 0) := (oh1 _ (by omega)).trans g36_2
  have g36_3 : h1.1 (k + 36 + 3) = xa_a 0 (fun _ => 0) := (oh1 _ (by omega)).trans g36_3
  have g36_4 : h1.1 (k + 36 + 4) = xa_o 6 [xa_r (k + 3), xa_r (k + 36 + 4 + 5), xa_i (-1), xa_r (k + 36 + 4 + 1), xa_r (k + 36 + 4 + 2), xa_i 0, xa_i 0, xa_i 0, xa_r (k + 36 + 4 + 3), xa_r (k + 36 + 4 + 4)] := (oh1 _ (by omega)).trans g36_4
  have g36_4_1 : h1.1 (k + 36 + 4 + 1) = xa_a 2 (fun _ => 0) := (oh1 _ (by omega)).trans g36_4_1
  have g36_4_2 : h1.1 (k + 36 + 4 + 2) = xa_a 2 (fun _ => 0) := (oh1 _ (by omega)).trans g36_4_2
  have g36_4_3 : h1.1 (k + 36 + 4 + 3) = xa_a 0 (fun _ => 0) := (oh1 _ (by omega)).trans g36_4_3
  have g36_4_4 : h1.1 (k + 36 + 4 + 4) = xa_a 0 (fun _ => 0) := (oh1 _ (by omega)).trans g36_4_4
  have g36_4_5 : h1.1 (k + 36 + 4 + 5) = xa_o 4 [xa_r (k + 3), xa_r (k + 36 + 4 + 5 + 1), xa_r (k + 36 + 4 + 5 + 2), xa_i 0, xa_i 0] := (oh1 _ (by omega)).trans g36_4_5
  have g36_4_5_1 : h1.1 (k + 36 + 4 + 5 + 1) = xa_a 3 (fun _ => 0) := (oh1 _ (by omega)).trans g36_4_5_1
  have g36_4_5_2 : h1.1 (k + 36 + 4 + 5 + 2) = xa_a 2 (fun _ => 0) := (oh1 _ (by omega)).trans g36_4_5_2
  have gO48 : h1.1 (k + 48) = xa_o 3 [xa_n, xa_n, xa_n, xa_n, xa_n, xa_i 0, xa_i 0, xa_i 0, xa_i 0, xa_i 0, xa_i 0, xa_i 0] := ch1
  have hcn : h1.2 = k + 49 := nh1
  have fr : ∀ i, i < k → h1.1 i = h0.1 i := fun i hi => (oh1 i (by omega)).trans (fr i hi)
  refine xa_dup (pc := 162) dX9_init_162 rfl ?_
  refine xa_aload_n (pc := 163) dX9_init_163 rfl ?_
  refine xa_getfield (pc := 164) dX9_init_164 flRX9_19 (by omega) (by omega) hX0 rfl ?_
  refine xa_iconst (pc := 167) dX9_init_167 ?_
  refine xa_callI (pc := 168) (as := [xa_r (k + 3), xa_i 0]) (rest := [xa_r (k + 48), xa_r k]) (k := (k + 48)) dX9_init_168 ⟨qX3_init.1, qX3_init.2.1, qX3_init.2.2, by decide, by decide⟩ rfl rfl lkRX9_68 imX3_init rfl rfl (Nat.le_of_ble_eq_true rfl) (Nat.le_of_ble_eq_true rfl) (Nat.le_of_ble_eq_true rfl) (c_Search_init _ _ 0 (by omega) (by omega) gO48) (fun r h' hq => ?_)
  obtain ⟨rfl, ⟨g48, g48_1, g48_2, g48_3, ⟨g48_4, g48_4_1, g48_4_2, g48_4_3, g48_4_4, ⟨g48_4_5, g48_4_5_1, g48_4_5_2, -, -⟩⟩⟩, hqn, hqf⟩ := hq
  have hX0 : h'.1 k = xa_o 9 [xa_r (k + 1), xa_r (k + 3), xa_r (k + 6), xa_r (k + 9), xa_r (k + 11), xa_r (k + 15), xa_i 0, xa_r (k + 24), xa_r (k + 31), xa_r (k + 32), xa_r (k + 36), xa_n, xa_n] := (hqf _ (by omega)).trans hX0
  have g1 : h'.1 (k + 1) = xa_o 7 [xa_r (k + 1 + 1), xa_i 0] := (hqf _ (by omega)).trans g1
  have g1_1 : h'.1 (k + 1 + 1) = xa_a 120 (fun _ => 0) := (hqf _ (by omega)).trans g1_1
  have g3 : h'.1 (k + 3) = xa_o 0 [xa_r (k + 3 + 1), xa_r (k + 3 + 2), xa_i 0, xa_i 0, xa_i (-4), xa_i 0, xa_i 0, xa_i 10] := (hqf _ (by omega)).trans g3
  have g3_1 : h'.1 (k + 3 + 1) = xa_a 9 (fun _ => 0) := (hqf _ (by omega)).trans g3_1
  have g3_2 : h'.1 (k + 3 + 2) = xa_a 2 (fun _ => 0) := (hqf _ (by omega)).trans g3_2
  have g6 : h'.1 (k + 6) = xa_o 0 [xa_r (k + 6 + 1), xa_r (k + 6 + 2), xa_i 0, xa_i 0, xa_i (-4), xa_i 0, xa_i 0, xa_i 10] := (hqf _ (by omega)).trans g6
  have g6_1 : h'.1 (k + 6 + 1) = xa_a 9 (fun _ => 0) := (hqf _ (by omega)).trans g6_1
  have g6_2 : h'.1 (k + 6 + 2) = xa_a 2 (fun _ => 0) := (hqf _ (by omega)).trans g6_2
  have g9 : h'.1 (k + 9) = xa_o 2 [xa_r (k + 1), xa_r (k + 6), xa_r (k + 9 + 1), xa_i 0] := (hqf _ (by omega)).trans g9
  have g9_1 : h'.1 (k + 9 + 1) = xa_a 3 (fun _ => 0) := (hqf _ (by omega)).trans g9_1
  have g11 : h'.1 (k + 11) = xa_o 5 [xa_r (k + 11 + 1), xa_r (k + 11 + 2), xa_r (k + 11 + 3), xa_i 0] := (hqf _ (by omega)).trans g11
  have g11_1 : h'.1 (k + 11 + 1) = xa_a 240 (fun _ => 0) := (hqf _ (by omega)).trans g11_1
  have g11_2 : h'.1 (k + 11 + 2) = xa_a 4 (fun _ => 0) := (hqf _ (by omega)).trans g11_2
  have g11_3 : h'.1 (k + 11 + 3) = xa_a 120 (fun _ => 0) := (hqf _ (by omega)).trans g11_3
  have gQ15 : h'.1 (k + 15) = xa_q 2 (fun j => if j = 1 then some (k + 20) else (fun j => if j = 0 then some (k + 16) else (fun _ => none) j) j) := (hqf _ (by omega)).trans gQ15
  have g16 : h'.1 (k + 16) = xa_o 5 [xa_r (k + 16 + 1), xa_r (k + 16 + 2), xa_r (k + 16 + 3), xa_i 0] := (hqf _ (by omega)).trans g16
  have g16_1 : h'.1 (k + 16 + 1) = xa_a 240 (fun _ => 0) := (hqf _ (by omega)).trans g16_1
  have g16_2 : h'.1 (k + 16 + 2) = xa_a 4 (fun _ => 0) := (hqf _ (by omega)).trans g16_2
  have g16_3 : h'.1 (k + 16 + 3) = xa_a 120 (fun _ => 0) := (hqf _ (by omega)).trans g16_3
  have g20 : h'.1 (k + 20) = xa_o 5 [xa_r (k + 20 + 1), xa_r (k + 20 + 2), xa_r (k + 20 + 3), xa_i 0] := (hqf _ (by omega)).trans g20
  have g20_1 : h'.1 (k + 20 + 1) = xa_a 240 (fun _ => 0) := (hqf _ (by omega)).trans g20_1
  have g20_2 : h'.1 (k + 20 + 2) = xa_a 4 (fun _ => 0) := (hqf _ (by omega)).trans g20_2
  have g20_3 : h'.1 (k + 20 + 3) = xa_a 120 (fun _ => 0) := (hqf _ (by omega)).trans g20_3
  have g24 : h'.1 (k + 24) = xa_o 8 [xa_r (k + 24 + 4), xa_r (k + 3), xa_r (k + 24 + 1), xa_r (k + 24 + 2), xa_r (k + 24 + 3), xa_i 0, xa_i 0] := (hqf _ (by omega)).trans g24
  have g24_1 : h'.1 (k + 24 + 1) = xa_a 183 (fun _ => 0) := (hqf _ (by omega)).trans g24_1
  have g24_2 : h'.1 (k + 24 + 2) = xa_a 61 (fun _ => 0) := (hqf _ (by omega)).trans g24_2
  have g24_3 : h'.1 (k + 24 + 3) = xa_a 61 (fun _ => 0) := (hqf _ (by omega)).trans g24_3
  have g24_4 : h'.1 (k + 24 + 4) = xa_o 4 [xa_r (k + 3), xa_r (k + 24 + 4 + 1), xa_r (k + 24 + 4 + 2), xa_i 0, xa_i 0] := (hqf _ (by omega)).trans g24_4
  have g24_4_1 : h'.1 (k + 24 + 4 + 1) = xa_a 3 (fun _ => 0) := (hqf _ (by omega)).trans g24_4_1
  have g24_4_2 : h'.1 (k + 24 + 4 + 2) = xa_a 2 (fun _ => 0) := (hqf _ (by omega)).trans g24_4_2
  have gA31 : h'.1 (k + 31) = xa_a 4 (fun _ => 0) := (hqf _ (by omega)).trans gA31
  have g32 : h'.1 (k + 32) = xa_o 1 [xa_r (k + 3), xa_r (k + 32 + 1)] := (hqf _ (by omega)).trans g32
  have g32_1 : h'.1 (k + 32 + 1) = xa_o 4 [xa_r (k + 3), xa_r (k + 32 + 1 + 1), xa_r (k + 32 + 1 + 2), xa_i 0, xa_i 0] := (hqf _ (by omega)).trans g32_1
  have g32_1_1 : h'.1 (k + 32 + 1 + 1) = xa_a 3 (fun _ => 0) := (hqf _ (by omega)).trans g32_1_1
  have g32_1_2 : h'.1 (k + 32 + 1 + 2) = xa_a 2 (fun _ => 0) := (hqf _ (by omega)).trans g32_1_2
  have g36 : h'.1 (k + 36) = xa_o 3 [xa_r (k + 3), xa_r (k + 36 + 4), xa_r (k + 36 + 1), xa_r (k + 36 + 2), xa_r (k + 36 + 3), xa_i 0, xa_i 0, xa_i 0, xa_i 0, xa_i 0, xa_i 0, xa_i 0] := (hqf _ (by omega)).trans g36
  have g36_1 : h'.1 (k + 36 + 1) = xa_a 360 (fun _ => 0) := (hqf _ (by omega)).trans g36_1
  have g36_2 : h'.1 (k + 36 + 2) = xa_a 360 (fun _ => 0) := (hqf _ (by omega)).trans g36_2
  have g36_3 : h'.1 (k + 36 + 3) = xa_a 0 (fun _ => 0) := (hqf _ (by omega)).trans g36_3
  have g36_4 : h'.1 (k + 36 + 4) = xa_o 6 [xa_r (k + 3), xa_r (k + 36 + 4 + 5), xa_i (-1), xa_r (k + 36 + 4 + 1), xa_r (k + 36 + 4 + 2), xa_i 0, xa_i 0, xa_i 0, xa_r (k + 36 + 4 + 3), xa_r (k + 36 + 4 + 4)] := (hqf _ (by omega)).trans g36_4
  have g36_4_1 : h'.1 (k + 36 + 4 + 1) = xa_a 2 (fun _ => 0) := (hqf _ (by omega)).trans g36_4_1
  have g36_4_2 : h'.1 (k + 36 + 4 + 2) = xa_a 2 (fun _ => 0) := (hqf _ (by omega)).trans g36_4_2
  have g36_4_3 : h'.1 (k + 36 + 4 + 3) = xa_a 0 (fun _ => 0) := (hqf _ (by omega)).trans g36_4_3
  have g36_4_4 : h'.1 (k + 36 + 4 + 4) = xa_a 0 (fun _ => 0) := (hqf _ (by omega)).trans g36_4_4
  have g36_4_5 : h'.1 (k + 36 + 4 + 5) = xa_o 4 [xa_r (k + 3), xa_r (k + 36 + 4 + 5 + 1), xa_r (k + 36 + 4 + 5 + 2), xa_i 0, xa_i 0] := (hqf _ (by omega)).trans g36_4_5
  have g36_4_5_1 : h'.1 (k + 36 + 4 + 5 + 1) = xa_a 3 (fun _ => 0) := (hqf _ (by omega)).trans g36_4_5_1
  have g36_4_5_2 : h'.1 (k + 36 + 4 + 5 + 2) = xa_a 2 (fun _ => 0) := (hqf _ (by omega)).trans g36_4_5_2
  have g48 : h'.1 (k + 48) = xa_o 3 [xa_r (k + 3), xa_r (k + 48 + 4), xa_r (k + 48 + 1), xa_r (k + 48 + 2), xa_r (k + 48 + 3), xa_i 0, xa_i 0, xa_i 0, xa_i 0, xa_i 0, xa_i 0, xa_i 0] := g48
  have g48_1 : h'.1 (k + 48 + 1) = xa_a 360 (fun _ => 0) := g48_1
  have g48_2 : h'.1 (k + 48 + 2) = xa_a 360 (fun _ => 0) := g48_2
  have g48_3 : h'.1 (k + 48 + 3) = xa_a 0 (fun _ => 0) := g48_3
  have g48_4 : h'.1 (k + 48 + 4) = xa_o 6 [xa_r (k + 3), xa_r (k + 48 + 4 + 5), xa_i 0, xa_r (k + 48 + 4 + 1), xa_r (k + 48 + 4 + 2), xa_i 0, xa_i 0, xa_i 0, xa_r (k + 48 + 4 + 3), xa_r (k + 48 + 4 + 4)] := g48_4
  have g48_4_1 : h'.1 (k + 48 + 4 + 1) = xa_a 2 (fun _ => 0) := g48_4_1
  have g48_4_2 : h'.1 (k + 48 + 4 + 2) = xa_a 2 (fun _ => 0) := g48_4_2
  have g48_4_3 : h'.1 (k + 48 + 4 + 3) = xa_a 0 (fun _ => 0) := g48_4_3
  have g48_4_4 : h'.1 (k + 48 + 4 + 4) = xa_a 0 (fun _ => 0) := g48_4_4
  have g48_4_5 : h'.1 (k + 48 + 4 + 5) = xa_o 4 [xa_r (k + 3), xa_r (k + 48 + 4 + 5 + 1), xa_r (k + 48 + 4 + 5 + 2), xa_i 0, xa_i 0] := g48_4_5
  have g48_4_5_1 : h'.1 (k + 48 + 4 + 5 + 1) = xa_a 3 (fun _ => 0) := g48_4_5_1
  have g48_4_5_2 : h'.1 (k + 48 + 4 + 5 + 2) = xa_a 2 (fun _ => 0) := g48_4_5_2
  have hcn : h'.2 = k + 60 := by omega
  have fr : ∀ i, i < k → h'.1 i = h0.1 i := fun i hi => (hqf i (by omega)).trans (fr i hi)
  refine xa_putwF (pc := 171) [xa_r (k + 1), xa_r (k + 3), xa_r (k + 6), xa_r (k + 9), xa_r (k + 11), xa_r (k + 15), xa_i 0, xa_r (k + 24), xa_r (k + 31), xa_r (k + 32), xa_r (k + 36), xa_r (k + 48), xa_n] dX9_init_171 rfl flRX9_75 plX9_11 (by omega) (by omega) hX0 trivial rfl rfl (fun h2 nh2 ch2 oh2 => ?_)
  have hX0 : h2.1 k = xa_o 9 [xa_r (k + 1), xa_r (k + 3), xa_r (k + 6), xa_r (k + 9), xa_r (k + 11), xa_r (k + 15), xa_i 0, xa_r (k + 24), xa_r (k + 31), xa_r (k + 32), xa_r (k + 36), xa_r (k + 48), xa_n] := ch2
  have g1 : h2.1 (k + 1) = xa_o 7 [xa_r (k + 1 + 1), xa_i 0] := (oh2 _ (by omega)).trans g1
  have g1_1 : h2.1 (k + 1 + 1) = xa_a 120 (fun _ => 0) := (oh2 _ (by omega)).trans g1_1
  have g3 : h2.1 (k + 3) = xa_o 0 [xa_r (k + 3 + 1), xa_r (k + 3 + 2), xa_i 0, xa_i 0, xa_i (-4), xa_i 0, xa_i 0, xa_i 10] := (oh2 _ (by omega)).trans g3
  have g3_1 : h2.1 (k + 3 + 1) = xa_a 9 (fun _ => 0) := (oh2 _ (by omega)).trans g3_1
  have g3_2 : h2.1 (k + 3 + 2) = xa_a 2 (fun _ => 0) := (oh2 _ (by omega)).trans g3_2
  have g6 : h2.1 (k + 6) = xa_o 0 [xa_r (k + 6 + 1), xa_r (k + 6 + 2), xa_i 0, xa_i 0, xa_i (-4), xa_i 0, xa_i 0, xa_i 10] := (oh2 _ (by omega)).trans g6
  have g6_1 : h2.1 (k + 6 + 1) = xa_a 9 (fun _ => 0) := (oh2 _ (by omega)).trans g6_1
  have g6_2 : h2.1 (k + 6 + 2) = xa_a 2 (fun _ => 0) := (oh2 _ (by omega)).trans g6_2
  have g9 : h2.1 (k + 9) = xa_o 2 [xa_r (k + 1), xa_r (k + 6), xa_r (k + 9 + 1), xa_i 0] := (oh2 _ (by omega)).trans g9
  have g9_1 : h2.1 (k + 9 + 1) = xa_a 3 (fun _ => 0) := (oh2 _ (by omega)).trans g9_1
  have g11 : h2.1 (k + 11) = xa_o 5 [xa_r (k + 11 + 1), xa_r (k + 11 + 2), xa_r (k + 11 + 3), xa_i 0] := (oh2 _ (by omega)).trans g11
  have g11_1 : h2.1 (k + 11 + 1) = xa_a 240 (fun _ => 0) := (oh2 _ (by omega)).trans g11_1
  have g11_2 : h2.1 (k + 11 + 2) = xa_a 4 (fun _ => 0) := (oh2 _ (by omega)).trans g11_2
  have g11_3 : h2.1 (k + 11 + 3) = xa_a 120 (fun _ => 0) := (oh2 _ (by omega)).trans g11_3
  have gQ15 : h2.1 (k + 15) = xa_q 2 (fun j => if j = 1 then some (k + 20) else (fun j => if j = 0 then some (k + 16) else (fun _ => none) j) j) := (oh2 _ (by omega)).trans gQ15
  have g16 : h2.1 (k + 16) = xa_o 5 [xa_r (k + 16 + 1), xa_r (k + 16 + 2), xa_r (k + 16 + 3), xa_i 0] := (oh2 _ (by omega)).trans g16
  have g16_1 : h2.1 (k + 16 + 1) = xa_a 240 (fun _ => 0) := (oh2 _ (by omega)).trans g16_1
  have g16_2 : h2.1 (k + 16 + 2) = xa_a 4 (fun _ => 0) := (oh2 _ (by omega)).trans g16_2
  have g16_3 : h2.1 (k + 16 + 3) = xa_a 120 (fun _ => 0) := (oh2 _ (by omega)).trans g16_3
  have g20 : h2.1 (k + 20) = xa_o 5 [xa_r (k + 20 + 1), xa_r (k + 20 + 2), xa_r (k + 20 + 3), xa_i 0] := (oh2 _ (by omega)).trans g20
  have g20_1 : h2.1 (k + 20 + 1) = xa_a 240 (fun _ => 0) := (oh2 _ (by omega)).trans g20_1
  have g20_2 : h2.1 (k + 20 + 2) = xa_a 4 (fun _ => 0) := (oh2 _ (by omega)).trans g20_2
  have g20_3 : h2.1 (k + 20 + 3) = xa_a 120 (fun _ => 0) := (oh2 _ (by omega)).trans g20_3
  have g24 : h2.1 (k + 24) = xa_o 8 [xa_r (k + 24 + 4), xa_r (k + 3), xa_r (k + 24 + 1), xa_r (k + 24 + 2), xa_r (k + 24 + 3), xa_i 0, xa_i 0] := (oh2 _ (by omega)).trans g24
  have g24_1 : h2.1 (k + 24 + 1) = xa_a 183 (fun _ => 0) := (oh2 _ (by omega)).trans g24_1
  have g24_2 : h2.1 (k + 24 + 2) = xa_a 61 (fun _ => 0) := (oh2 _ (by omega)).trans g24_2
  have g24_3 : h2.1 (k + 24 + 3) = xa_a 61 (fun _ => 0) := (oh2 _ (by omega)).trans g24_3
  have g24_4 : h2.1 (k + 24 + 4) = xa_o 4 [xa_r (k + 3), xa_r (k + 24 + 4 + 1), xa_r (k + 24 + 4 + 2), xa_i 0, xa_i 0] := (oh2 _ (by omega)).trans g24_4
  have g24_4_1 : h2.1 (k + 24 + 4 + 1) = xa_a 3 (fun _ => 0) := (oh2 _ (by omega)).trans g24_4_1
  have g24_4_2 : h2.1 (k + 24 + 4 + 2) = xa_a 2 (fun _ => 0) := (oh2 _ (by omega)).trans g24_4_2
  have gA31 : h2.1 (k + 31) = xa_a 4 (fun _ => 0) := (oh2 _ (by omega)).trans gA31
  have g32 : h2.1 (k + 32) = xa_o 1 [xa_r (k + 3), xa_r (k + 32 + 1)] := (oh2 _ (by omega)).trans g32
  have g32_1 : h2.1 (k + 32 + 1) = xa_o 4 [xa_r (k + 3), xa_r (k + 32 + 1 + 1), xa_r (k + 32 + 1 + 2), xa_i 0, xa_i 0] := (oh2 _ (by omega)).trans g32_1
  have g32_1_1 : h2.1 (k + 32 + 1 + 1) = xa_a 3 (fun _ => 0) := (oh2 _ (by omega)).trans g32_1_1
  have g32_1_2 : h2.1 (k + 32 + 1 + 2) = xa_a 2 (fun _ => 0) := (oh2 _ (by omega)).trans g32_1_2
  have g36 : h2.1 (k + 36) = xa_o 3 [xa_r (k + 3), xa_r (k + 36 + 4), xa_r (k + 36 + 1), xa_r (k + 36 + 2), xa_r (k + 36 + 3), xa_i 0, xa_i 0, xa_i 0, xa_i 0, xa_i 0, xa_i 0, xa_i 0] := (oh2 _ (by omega)).trans g36
  have g36_1 : h2.1 (k + 36 + 1) = xa_a 360 (fun _ => 0) := (oh2 _ (by omega)).trans g36_1
  have g36_2 : h2.1 (k + 36 + 2) = xa_a 360 (fun _ => 0) := (oh2 _ (by omega)).trans g36_2
  have g36_3 : h2.1 (k + 36 + 3) = xa_a 0 (fun _ => 0) := (oh2 _ (by omega)).trans g36_3
  have g36_4 : h2.1 (k + 36 + 4) = xa_o 6 [xa_r (k + 3), xa_r (k + 36 + 4 + 5), xa_i (-1), xa_r (k + 36 + 4 + 1), xa_r (k + 36 + 4 + 2), xa_i 0, xa_i 0, xa_i 0, xa_r (k + 36 + 4 + 3), xa_r (k + 36 + 4 + 4)] := (oh2 _ (by omega)).trans g36_4
  have g36_4_1 : h2.1 (k + 36 + 4 + 1) = xa_a 2 (fun _ => 0) := (oh2 _ (by omega)).trans g36_4_1
  have g36_4_2 : h2.1 (k + 36 + 4 + 2) = xa_a 2 (fun _ => 0) := (oh2 _ (by omega)).trans g36_4_2
  have g36_4_3 : h2.1 (k + 36 + 4 + 3) = xa_a 0 (fun _ => 0) := (oh2 _ (by omega)).trans g36_4_3
  have g36_4_4 : h2.1 (k + 36 + 4 + 4) = xa_a 0 (fun _ => 0) := (oh2 _ (by omega)).trans g36_4_4
  have g36_4_5 : h2.1 (k + 36 + 4 + 5) = xa_o 4 [xa_r (k + 3), xa_r (k + 36 + 4 + 5 + 1), xa_r (k + 36 + 4 + 5 + 2), xa_i 0, xa_i 0] := (oh2 _ (by omega)).trans g36_4_5
  have g36_4_5_1 : h2.1 (k + 36 + 4 + 5 + 1) = xa_a 3 (fun _ => 0) := (oh2 _ (by omega)).trans g36_4_5_1
  have g36_4_5_2 : h2.1 (k + 36 + 4 + 5 + 2) = xa_a 2 (fun _ => 0) := (oh2 _ (by omega)).trans g36_4_5_2
  have g48 : h2.1 (k + 48) = xa_o 3 [xa_r (k + 3), xa_r (k + 48 + 4), xa_r (k + 48 + 1), xa_r (k + 48 + 2), xa_r (k + 48 + 3), xa_i 0, xa_i 0, xa_i 0, xa_i 0, xa_i 0, xa_i 0, xa_i 0] := (oh2 _ (by omega)).trans g48
  have g48_1 : h2.1 (k + 48 + 1) = xa_a 360 (fun _ => 0) := (oh2 _ (by omega)).trans g48_1
  have g48_2 : h2.1 (k + 48 + 2) = xa_a 360 (fun _ => 0) := (oh2 _ (by omega)).trans g48_2
  have g48_3 : h2.1 (k + 48 + 3) = xa_a 0 (fun _ => 0) := (oh2 _ (by omega)).trans g48_3
  have g48_4 : h2.1 (k + 48 + 4) = xa_o 6 [xa_r (k + 3), xa_r (k + 48 + 4 + 5), xa_i 0, xa_r (k + 48 + 4 + 1), xa_r (k + 48 + 4 + 2), xa_i 0, xa_i 0, xa_i 0, xa_r (k + 48 + 4 + 3), xa_r (k + 48 + 4 + 4)] := (oh2 _ (by omega)).trans g48_4
  have g48_4_1 : h2.1 (k + 48 + 4 + 1) = xa_a 2 (fun _ => 0) := (oh2 _ (by omega)).trans g48_4_1
  have g48_4_2 : h2.1 (k + 48 + 4 + 2) = xa_a 2 (fun _ => 0) := (oh2 _ (by omega)).trans g48_4_2
  have g48_4_3 : h2.1 (k + 48 + 4 + 3) = xa_a 0 (fun _ => 0) := (oh2 _ (by omega)).trans g48_4_3
  have g48_4_4 : h2.1 (k + 48 + 4 + 4) = xa_a 0 (fun _ => 0) := (oh2 _ (by omega)).trans g48_4_4
  have g48_4_5 : h2.1 (k + 48 + 4 + 5) = xa_o 4 [xa_r (k + 3), xa_r (k + 48 + 4 + 5 + 1), xa_r (k + 48 + 4 + 5 + 2), xa_i 0, xa_i 0] := (oh2 _ (by omega)).trans g48_4_5
  have g48_4_5_1 : h2.1 (k + 48 + 4 + 5 + 1) = xa_a 3 (fun _ => 0) := (oh2 _ (by omega)).trans g48_4_5_1
  have g48_4_5_2 : h2.1 (k + 48 + 4 + 5 + 2) = xa_a 2 (fun _ => 0) := (oh2 _ (by omega)).trans g48_4_5_2
  have hcn : h2.2 = k + 60 := nh2.trans hcn
  have fr : ∀ i, i < k → h2.1 i = h0.1 i := fun i hi => (oh2 i (by omega)).trans (fr i hi)
  exact c_Cat_cells_11 k hk hcn fr hX0 g1 g1_1 g3 g3_1 g3_2 g6 g6_1 g6_2 g9 g9_1 g11 g11_1 g11_2 g11_3 gQ15 g16 g16_1 g16_2 g16_3 g20 g20_1 g20_2 g20_3 g24 g24_1 g24_2 g24_3 g24_4 g24_4_1 g24_4_2 gA31 g32 g32_1 g32_1_1 g32_1_2 g36 g36_1 g36_2 g36_3 g36_4 g36_4_1 g36_4_2 g36_4_3 g36_4_4 g36_4_5 g36_4_5_1 g36_4_5_2 g48 g48_1 g48_2 g48_3 g48_4 g48_4_1 g48_4_2 g48_4_3 g48_4_4 g48_4_5 g48_4_5_1 g48_4_5_2
theorem c_Cat_cells_9 {G : xa_G} {h0 h : xa_H} (k : Nat) (hk : 2 ≤ k) (hcn : h.2 = k + 36) (fr : ∀ i, i < k → h.1 i = h0.1 i) (hX0 : h.1 k = xa_o 9 [xa_r (k + 1), xa_r (k + 3), xa_r (k + 6), xa_r (k + 9), xa_r (k + 11), xa_r (k + 15), xa_i 0, xa_r (k + 24), xa_r (k + 31), xa_r (k + 32), xa_n, xa_n, xa_n]) (g1 : h.1 (k + 1) = xa_o 7 [xa_r (k + 1 + 1), xa_i 0]) (g1_1 : h.1 (k + 1 + 1) = xa_a 120 (fun _ => 0)) (g3 : h.1 (k + 3) = xa_o 0 [xa_r (k + 3 + 1), xa_r (k + 3 + 2), xa_i 0, xa_i 0, xa_i (-4), xa_i 0, xa_i 0, xa_i 10]) (g3_1 : h.1 (k + 3 + 1) = xa_a 9 (fun _ => 0)) (g3_2 : h.1 (k + 3 + 2) = xa_a 2 (fun _ => 0)) (g6 : h.1 (k + 6) = xa_o 0 [xa_r (k + 6 + 1), xa_r (k + 6 + 2), xa_i 0, xa_i 0, xa_i (-4), xa_i 0, xa_i 0, xa_i 10]) (g6_1 : h.1 (k + 6 + 1) = xa_a 9 (fun _ => 0)) (g6_2 : h.1 (k + 6 + 2) = xa_a 2 (fun _ => 0)) (g9 : h.1 (k + 9) = xa_o 2 [xa_r (k + 1), xa_r (k + 6), xa_r (k + 9 + 1), xa_i 0]) (g9_1 : h.1 (k + 9 + 1) = xa_a 3 (fun _ => 0)) (g11 : h.1 (k + 11) = xa_o 5 [xa_r (k + 11 + 1), xa_r (k + 11 + 2), xa_r (k + 11 + 3), xa_i 0]) (g11_1 : h.1 (k + 11 + 1) = xa_a 240 (fun _ => 0)) (g11_2 : h.1 (k + 11 + 2) = xa_a 4 (fun _ => 0)) (g11_3 : h.1 (k + 11 + 3) = xa_a 120 (fun _ => 0)) (gQ15 : h.1 (k + 15) = xa_q 2 (fun j => if j = 1 then some (k + 20) else (fun j => if j = 0 then some (k + 16) else (fun _ => none) j) j)) (g16 : h.1 (k + 16) = xa_o 5 [xa_r (k + 16 + 1), xa_r (k + 16 + 2), xa_r (k + 16 + 3), xa_i 0]) (g16_1 : h.1 (k + 16 + 1) = xa_a 240 (fun _ => 0)) (g16_2 : h.1 (k + 16 + 2) = xa_a 4 (fun _ => 0)) (g16_3 : h.1 (k + 16 + 3) = xa_a 120 (fun _ => 0)) (g20 : h.1 (k + 20) = xa_o 5 [xa_r (k + 20 + 1), xa_r (k + 20 + 2), xa_r (k + 20 + 3), xa_i 0]) (g20_1 : h.1 (k + 20 + 1) = xa_a 240 (fun _ => 0)) (g20_2 : h.1 (k + 20 + 2) = xa_a 4 (fun _ => 0)) (g20_3 : h.1 (k + 20 + 3) = xa_a 120 (fun _ => 0)) (g24 : h.1 (k + 24) = xa_o 8 [xa_r (k + 24 + 4), xa_r (k + 3), xa_r (k + 24 + 1), xa_r (k + 24 + 2), xa_r (k + 24 + 3), xa_i 0, xa_i 0]) (g24_1 : h.1 (k + 24 + 1) = xa_a 183 (fun _ => 0)) (g24_2 : h.1 (k + 24 + 2) = xa_a 61 (fun _ => 0)) (g24_3 : h.1 (k + 24 + 3) = xa_a 61 (fun _ => 0)) (g24_4 : h.1 (k + 24 + 4) = xa_o 4 [xa_r (k + 3), xa_r (k + 24 + 4 + 1), xa_r (k + 24 + 4 + 2), xa_i 0, xa_i 0]) (g24_4_1 : h.1 (k + 24 + 4 + 1) = xa_a 3 (fun _ => 0)) (g24_4_2 : h.1 (k + 24 + 4 + 2) = xa_a 2 (fun _ => 0)) (gA31 : h.1 (k + 31) = xa_a 4 (fun _ => 0)) (g32 : h.1 (k + 32) = xa_o 1 [xa_r (k + 3), xa_r (k + 32 + 1)]) (g32_1 : h.1 (k + 32 + 1) = xa_o 4 [xa_r (k + 3), xa_r (k + 32 + 1 + 1), xa_r (k + 32 + 1 + 2), xa_i 0, xa_i 0]) (g32_1_1 : h.1 (k + 32 + 1 + 1) = xa_a 3 (fun _ => 0)) (g32_1_2 : h.1 (k + 32 + 1 + 2) = xa_a 2 (fun _ => 0))  : xa_W G mX9_init (xa_Z G (fun r h' => r = none ∧ h'.1 k = xa_o 9 [xa_r (k + 1), xa_r (k + 3), xa_r (k + 6), xa_r (k + 9), xa_r (k + 11), xa_r (k + 15), xa_i 0, xa_r (k + 24), xa_r (k + 31), xa_r (k + 32), xa_r (k + 36), xa_r (k + 48), xa_r (k + 60)] ∧ h'.1 (k + 1) = xa_o 7 [xa_r (k + 1 + 1), xa_i 0] ∧ h'.1 (k + 1 + 1) = xa_a 120 (fun _ => 0) ∧ h'.1 (k + 3) = xa_o 0 [xa_r (k + 3 + 1), xa_r (k + 3 + 2), xa_i 2, xa_i 1, xa_i (-4), xa_i 0, xa_i 0, xa_i 10] ∧ h'.1 (k + 3 + 1) = xa_a 9 (xa_upf (xa_upf (xa_upf (xa_upf (xa_upf (xa_upf (fun _ => 0) (0 * 3) 1) (0 * 3 + 1) 1) (0 * 3 + 2) 1) (1 * 3) 1) (1 * 3 + 1) 1) (1 * 3 + 2) 1) ∧ h'.1 (k + 3 + 2) = xa_a 2 (xa_upf (fun _ => 0) 0 10) ∧ h'.1 (k + 6) = xa_o 0 [xa_r (k + 6 + 1), xa_r (k + 6 + 2), xa_i 0, xa_i 0, xa_i (-4), xa_i 0, xa_i 0, xa_i 10] ∧ h'.1 (k + 6 + 1) = xa_a 9 (fun _ => 0) ∧ h'.1 (k + 6 + 2) = xa_a 2 (fun _ => 0) ∧ h'.1 (k + 9) = xa_o 2 [xa_r (k + 1), xa_r (k + 6), xa_r (k + 9 + 1), xa_i 0] ∧ h'.1 (k + 9 + 1) = xa_a 3 (fun _ => 0) ∧ h'.1 (k + 11) = xa_o 5 [xa_r (k + 11 + 1), xa_r (k + 11 + 2), xa_r (k + 11 + 3), xa_i 0] ∧ h'.1 (k + 11 + 1) = xa_a 240 (fun _ => 0) ∧ h'.1 (k + 11 + 2) = xa_a 4 (fun _ => 0) ∧ h'.1 (k + 11 + 3) = xa_a 120 (fun _ => 0) ∧ h'.1 (k + 15) = xa_q 2 (fun j => if j = 1 then some (k + 20) else (fun j => if j = 0 then some (k + 16) else (fun _ => none) j) j) ∧ h'.1 (k + 16) = xa_o 5 [xa_r (k + 16 + 1), xa_r (k + 16 + 2), xa_r (k + 16 + 3), xa_i 0] ∧ h'.1 (k + 16 + 1) = xa_a 240 (fun _ => 0) ∧ h'.1 (k + 16 + 2) = xa_a 4 (fun _ => 0) ∧ h'.1 (k + 16 + 3) = xa_a 120 (fun _ => 0) ∧ h'.1 (k + 20) = xa_o 5 [xa_r (k + 20 + 1), xa_r (k + 20 + 2), xa_r (k + 20 + 3), xa_i 0] ∧ h'.1 (k + 20 + 1) = xa_a 240 (fun _ => 0) ∧ h'.1 (k + 20 + 2) = xa_a 4 (fun _ => 0) ∧ h'.1 (k + 20 + 3) = xa_a 120 (fun _ => 0) ∧ h'.1 (k + 24) = xa_o 8 [xa_r (k + 24 + 4), xa_r (k + 3), xa_r (k + 24 + 1), xa_r (k + 24 + 2), xa_r (k + 24 + 3), xa_i 0, xa_i 0] ∧ h'.1 (k + 24 + 1) = xa_a 183 (fun _ => 0) ∧ h'.1 (k + 24 + 2) = xa_a 61 (fun _ => 0) ∧ h'.1 (k + 24 + 3) = xa_a 61 (fun _ => 0) ∧ h'.1 (k + 24 + 4) = xa_o 4 [xa_r (k + 3), xa_r (k + 24 + 4 + 1), xa_r (k + 24 + 4 + 2), xa_i 0, xa_i 0] ∧ h'.1 (k + 24 + 4 + 1) = xa_a 3 (fun _ => 0) ∧ h'.1 (k + 24 + 4 + 2) = xa_a 2 (fun _ => 0) ∧ h'.1 (k + 31) = xa_a 4 (fun _ => 0) ∧ h'.1 (k + 32) = xa_o 1 [xa_r (k + 3), xa_r (k + 32 + 1)] ∧ h'.1 (k + 32 + 1) = xa_o 4 [xa_r (k + 3), xa_r (k + 32 + 1 + 1), xa_r (k + 32 + 1 + 2), xa_i 0, xa_i 0] ∧ h'.1 (k + 32 + 1 + 1) = xa_a 3 (fun _ => 0) ∧ h'.1 (k + 32 + 1 + 2) = xa_a 2 (fun _ => 0) ∧ h'.1 (k + 36) = xa_o 3 [xa_r (k + 3), xa_r (k + 36 + 4), xa_r (k + 36 + 1), xa_r (k + 36 + 2), xa_r (k + 36 + 3), xa_i 0, xa_i 0, xa_i 0, xa_i 0, xa_i 0, xa_i 0, xa_i 0] ∧ h'.1 (k + 36 + 1) = xa_a 360 (fun _ => 0) ∧ h'.1 (k + 36 + 2) = xa_a 360 (fun _ => 0) ∧ h'.1 (k + 36 + 3) = xa_a 0 (fun _ => 0) ∧ h'.1 (k + 36 + 4) = xa_o 6 [xa_r (k + 3), xa_r (k + 36 + 4 + 5), xa_i (-1), xa_r (k + 36 + 4 + 1), xa_r (k + 36 + 4 + 2), xa_i 0, xa_i 0, xa_i 0, xa_r (k + 36 + 4 + 3), xa_r (k + 36 + 4 + 4)] ∧ h'.1 (k + 36 + 4 + 1) = xa_a 2 (fun _ => 0) ∧ h'.1 (k + 36 + 4 + 2) = xa_a 2 (fun _ => 0) ∧ h'.1 (k + 36 + 4 + 3) = xa_a 0 (fun _ => 0) ∧ h'.1 (k + 36 + 4 + 4) = xa_a 0 (fun _ => 0) ∧ h'.1 (k + 36 + 4 + 5) = xa_o 4 [xa_r (k + 3), xa_r (k + 36 + 4 + 5 + 1), xa_r (k + 36 + 4 + 5 + 2), xa_i 0, xa_i 0] ∧ h'.1 (k + 36 + 4 + 5 + 1) = xa_a 3 (fun _ => 0) ∧ h'.1 (k + 36 + 4 + 5 + 2) = xa_a 2 (fun _ => 0) ∧ h'.1 (k + 48) = xa_o 3 [xa_r (k + 3), xa_r (k + 48 + 4), xa_r (k + 48 + 1), xa_r (k + 48 + 2), xa_r (k + 48 + 3), xa_i 0, xa_i 0, xa_i 0, xa_i 0, xa_i 0, xa_i 0, xa_i 0] ∧ h'.1 (k + 48 + 1) = xa_a 360 (fun _ => 0) ∧ h'.1 (k + 48 + 2) = xa_a 360 (fun _ => 0) ∧ h'.1 (k + 48 + 3) = xa_a 0 (fun _ => 0) ∧ h'.1 (k + 48 + 4) = xa_o 6 [xa_r (k + 3), xa_r (k + 48 + 4 + 5), xa_i 0, xa_r (k + 48 + 4 + 1), xa_r (k + 48 + 4 + 2), xa_i 0, xa_i 0, xa_i 0, xa_r (k + 48 + 4 + 3), xa_r (k + 48 + 4 + 4)] ∧ h'.1 (k + 48 + 4 + 1) = xa_a 2 (fun _ => 0) ∧ h'.1 (k + 48 + 4 + 2) = xa_a 2 (fun _ => 0) ∧ h'.1 (k + 48 + 4 + 3) = xa_a 0 (fun _ => 0) ∧ h'.1 (k + 48 + 4 + 4) = xa_a 0 (fun _ => 0) ∧ h'.1 (k + 48 + 4 + 5) = xa_o 4 [xa_r (k + 3), xa_r (k + 48 + 4 + 5 + 1), xa_r (k + 48 + 4 + 5 + 2), xa_i 0, xa_i 0] ∧ h'.1 (k + 48 + 4 + 5 + 1) = xa_a 3 (fun _ => 0) ∧ h'.1 (k + 48 + 4 + 5 + 2) = xa_a 2 (fun _ => 0) ∧ h'.1 (k + 60) = xa_o 3 [xa_r (k + 3), xa_r (k + 60 + 4), xa_r (k + 60 + 1), xa_r (k + 60 + 2), xa_r (k + 60 + 3), xa_i 0, xa_i 0, xa_i 0, xa_i 0, xa_i 0, xa_i 0, xa_i 0] ∧ h'.1 (k + 60 + 1) = xa_a 360 (fun _ => 0) ∧ h'.1 (k + 60 + 2) = xa_a 360 (fun _ => 0) ∧ h'.1 (k + 60 + 3) = xa_a 0 (fun _ => 0) ∧ h'.1 (k + 60 + 4) = xa_o 6 [xa_r (k + 3), xa_r (k + 60 + 4 + 5), xa_i 1, xa_r (k + 60 + 4 + 1), xa_r (k + 60 + 4 + 2), xa_i 0, xa_i 0, xa_i 0, xa_r (k + 60 + 4 + 3), xa_r (k + 60 + 4 + 4)] ∧ h'.1 (k + 60 + 4 + 1) = xa_a 2 (fun _ => 0) ∧ h'.1 (k + 60 + 4 + 2) = xa_a 2 (fun _ => 0) ∧ h'.1 (k + 60 + 4 + 3) = xa_a 0 (fun _ => 0) ∧ h'.1 (k + 60 + 4 + 4) = xa_a 0 (fun _ => 0) ∧ h'.1 (k + 60 + 4 + 5) = xa_o 4 [xa_r (k + 3), xa_r (k + 60 + 4 + 5 + 1), xa_r (k + 60 + 4 + 5 + 2), xa_i 0, xa_i 0] ∧ h'.1 (k + 60 + 4 + 5 + 1) = xa_a 3 (fun _ => 0) ∧ h'.1 (k + 60 + 4 + 5 + 2) = xa_a 2 (fun _ => 0) ∧ h'.2 = k + 72 ∧ ∀ i, i < k → h'.1 i = h0.1 i)) 142 [some (xa_r k), some (xa_i 2)] [] h 36 2268 := by
  refine xa_aload_n (pc := 142) dX9_init_142 rfl ?_
  refine xa_newo (pc := 143) (ci := 3) (C := RX3) (T := TX3) (N := 12) (fs := [xa_n, xa_n, xa_n, xa_n, xa_n, xa_i 0, xa_i 0, xa_i 0, xa_i 0, xa_i 0, xa_i 0, xa_i 0]) (mc0 := 35) (ms0 := 2256) (k + 36) hcn dX9_init_143 rfl wcX3 tyX3_ok clRX9_66 inRX3 ziRX3 (fun j hj => by rcases (show j = 0 ∨ j = 1 ∨ j = 2 ∨ j = 3 ∨ j = 4 ∨ j = 5 ∨ j = 6 ∨ j = 7 ∨ j = 8 ∨ j = 9 ∨ j = 10 ∨ j = 11 by omega) with rfl | rfl | rfl | rfl | rfl | rfl | rfl | rfl | rfl | rfl | rfl | rfl <;> rfl) rfl rfl rfl (fun h1 nh1 ch1 oh1 => ?_)
  have hX0 : h1.1 k = xa_o 9 [xa_r (k + 1), xa_r (k + 3), xa_r (k + 6), xa_r (k + 9), xa_r (k + 11), xa_r (k + 15), xa_i 0, xa_r (k + 24), xa_r (k + 31), xa_r (k + 32), xa_n, xa_n, xa_n] := (oh1 _ (by omega)).trans hX0
  have g1 : h1.1 (k + 1) = xa_o 7 [xa_r (k + 1 + 1), xa_i 0] := (oh1 _ (by omega)).trans g1
  have g1_1 : h1.1 (k + 1 + 1) = xa_a 120 (fun _ => 0) := (oh1 _ (by omega)).trans g1_1
  have g3 : h1.1 (k + 3) = xa_o 0 [xa_r (k + 3 + 1), xa_r (k + 3 + 2), xa_i 0, xa_i 0, xa_i (-4), xa_i 0, xa_i 0, xa_i 10] := (oh1 _ (by omega)).trans g3
  have g3_1 : h1.1 (k + 3 + 1) = xa_a 9 (fun _ => 0) := (oh1 _ (by omega)).trans g3_1
  have g3_2 : h1.1 (k + 3 + 2) = xa_a 2 (fun _ => 0) := (oh1 _ (by omega)).trans g3_2
  have g6 : h1.1 (k + 6) = xa_o 0 [xa_r (k + 6 + 1), xa_r (k + 6 + 2), xa_i 0, xa_i 0, xa_i (-4), xa_i 0, xa_i 0, xa_i 10] := (oh1 _ (by omega)).trans g6
  have g6_1 : h1.1 (k + 6 + 1) = xa_a 9 (fun _ => 0) := (oh1 _ (by omega)).trans g6_1
  have g6_2 : h1.1 (k + 6 + 2) = xa_a 2 (fun _ => 0) := (oh1 _ (by omega)).trans g6_2
  have g9 : h1.1 (k + 9) = xa_o 2 [xa_r (k + 1), xa_r (k + 6), xa_r (k + 9 + 1), xa_i 0] := (oh1 _ (by omega)).trans g9
  have g9_1 : h1.1 (k + 9 + 1) = xa_a 3 (fun _ => 0) := (oh1 _ (by omega)).trans g9_1
  have g11 : h1.1 (k + 11) = xa_o 5 [xa_r (k + 11 + 1), xa_r (k + 11 + 2), xa_r (k + 11 + 3), xa_i 0] := (oh1 _ (by omega)).trans g11
  have g11_1 : h1.1 (k + 11 + 1) = xa_a 240 (fun _ => 0) := (oh1 _ (by omega)).trans g11_1
  have g11_2 : h1.1 (k + 11 + 2) = xa_a 4 (fun _ => 0) := (oh1 _ (by omega)).trans g11_2
  have g11_3 : h1.1 (k + 11 + 3) = xa_a 120 (fun _ => 0) := (oh1 _ (by omega)).trans g11_3
  have gQ15 : h1.1 (k + 15) = xa_q 2 (fun j => if j = 1 then some (k + 20) else (fun j => if j = 0 then some (k + 16) else (fun _ => none) j) j) := (oh1 _ (by omega)).trans gQ15
  have g16 : h1.1 (k + 16) = xa_o 5 [xa_r (k + 16 + 1), xa_r (k + 16 + 2), xa_r (k + 16 + 3), xa_i 0] := (oh1 _ (by omega)).trans g16
  have g16_1 : h1.1 (k + 16 + 1) = xa_a 240 (fun _ => 0) := (oh1 _ (by omega)).trans g16_1
  have g16_2 : h1.1 (k + 16 + 2) = xa_a 4 (fun _ => 0) := (oh1 _ (by omega)).trans g16_2
  have g16_3 : h1.1 (k + 16 + 3) = xa_a 120 (fun _ => 0) := (oh1 _ (by omega)).trans g16_3
  have g20 : h1.1 (k + 20) = xa_o 5 [xa_r (k + 20 + 1), xa_r (k + 20 + 2), xa_r (k + 20 + 3), xa_i 0] := (oh1 _ (by omega)).trans g20
  have g20_1 : h1.1 (k + 20 + 1) = xa_a 240 (fun _ => 0) := (oh1 _ (by omega)).trans g20_1
  have g20_2 : h1.1 (k + 20 + 2) = xa_a 4 (fun _ => 0) := (oh1 _ (by omega)).trans g20_2
  have g20_3 : h1.1 (k + 20 + 3) = xa_a 120 (fun _ => 0) := (oh1 _ (by omega)).trans g20_3
  have g24 : h1.1 (k + 24) = xa_o 8 [xa_r (k + 24 + 4), xa_r (k + 3), xa_r (k + 24 + 1), xa_r (k + 24 + 2), xa_r (k + 24 + 3), xa_i 0, xa_i 0] := (oh1 _ (by omega)).trans g24
  have g24_1 : h1.1 (k + 24 + 1) = xa_a 183 (fun _ => 0) := (oh1 _ (by omega)).trans g24_1
  have g24_2 : h1.1 (k + 24 + 2) = xa_a 61 (fun _ => 0) := (oh1 _ (by omega)).trans g24_2
  have g24_3 : h1.1 (k + 24 + 3) = xa_a 61 (fun _ => 0) := (oh1 _ (by omega)).trans g24_3
  have g24_4 : h1.1 (k + 24 + 4) = xa_o 4 [xa_r (k + 3), xa_r (k + 24 + 4 + 1), xa_r (k + 24 + 4 + 2), xa_i 0, xa_i 0] := (oh1 _ (by omega)).trans g24_4
  have g24_4_1 : h1.1 (k + 24 + 4 + 1) = xa_a 3 (fun _ => 0) := (oh1 _ (by omega)).trans g24_4_1
  have g24_4_2 : h1.1 (k + 24 + 4 + 2) = xa_a 2 (fun _ => 0) := (oh1 _ (by omega)).trans g24_4_2
  have gA31 : h1.1 (k + 31) = xa_a 4 (fun _ => 0) := (oh1 _ (by omega)).trans gA31
  have g32 : h1.1 (k + 32) = xa_o 1 [xa_r (k + 3), xa_r (k + 32 + 1)] := (oh1 _ (by omega)).trans g32
  have g32_1 : h1.1 (k + 32 + 1) = xa_o 4 [xa_r (k + 3), xa_r (k + 32 + 1 + 1), xa_r (k + 32 + 1 + 2), xa_i 0, xa_i 0] := (oh1 _ (by omega)).trans g32_1
  have g32_1_1 : h1.1 (k + 32 + 1 + 1) = xa_a 3 (fun _ => 0) := (oh1 _ (by omega)).trans g32_1_1
  have g32_1_2 : h1.1 (k + 32 + 1 + 2) = xa_a 2 (fun _ => 0) := (oh1 _ (by omega)).trans g32_1_2
  have gO36 : h1.1 (k + 36) = xa_o 3 [xa_n, xa_n, xa_n, xa_n, xa_n, xa_i 0, xa_i 0, xa_i 0, xa_i 0, xa_i 0, xa_i 0, xa_i 0] := ch1
  have hcn : h1.2 = k + 37 := nh1
  have fr : ∀ i, i < k → h1.1 i = h0.1 i := fun i hi => (oh1 i (by omega)).trans (fr i hi)
  refine xa_dup (pc := 146) dX9_init_146 rfl ?_
  refine xa_aload_n (pc := 147) dX9_init_147 rfl ?_
  refine xa_getfield (pc := 148) dX9_init_148 flRX9_19 (by omega) (by omega) hX0 rfl ?_
  refine xa_iconst (pc := 151) dX9_init_151 ?_
  refine xa_callI (pc := 152) (as := [xa_r (k + 3), xa_i (-1)]) (rest := [xa_r (k + 36), xa_r k]) (k := (k + 36)) dX9_init_152 ⟨qX3_init.1, qX3_init.2.1, qX3_init.2.2, by decide, by decide⟩ rfl rfl lkRX9_68 imX3_init rfl rfl (Nat.le_of_ble_eq_true rfl) (Nat.le_of_ble_eq_true rfl) (Nat.le_of_ble_eq_true rfl) (c_Search_init _ _ (-1) (by omega) (by omega) gO36) (fun r h' hq => ?_)
  obtain ⟨rfl, ⟨g36, g36_1, g36_2, g36_3, ⟨g36_4, g36_4_1, g36_4_2, g36_4_3, g36_4_4, ⟨g36_4_5, g36_4_5_1, g36_4_5_2, -, -⟩⟩⟩, hqn, hqf⟩ := hq
  have hX0 : h'.1 k = xa_o 9 [xa_r (k + 1), xa_r (k + 3), xa_r (k + 6), xa_r (k + 9), xa_r (k + 11), xa_r (k + 15), xa_i 0, xa_r (k + 24), xa_r (k + 31), xa_r (k + 32), xa_n, xa_n, xa_n] := (hqf _ (by omega)).trans hX0
  have g1 : h'.1 (k + 1) = xa_o 7 [xa_r (k + 1 + 1), xa_i 0] := (hqf _ (by omega)).trans g1
  have g1_1 : h'.1 (k + 1 + 1) = xa_a 120 (fun _ => 0) := (hqf _ (by omega)).trans g1_1
  have g3 : h'.1 (k + 3) = xa_o 0 [xa_r (k + 3 + 1), xa_r (k + 3 + 2), xa_i 0, xa_i 0, xa_i (-4), xa_i 0, xa_i 0, xa_i 10] := (hqf _ (by omega)).trans g3
  have g3_1 : h'.1 (k + 3 + 1) = xa_a 9 (fun _ => 0) := (hqf _ (by omega)).trans g3_1
  have g3_2 : h'.1 (k + 3 + 2) = xa_a 2 (fun _ => 0) := (hqf _ (by omega)).trans g3_2
  have g6 : h'.1 (k + 6) = xa_o 0 [xa_r (k + 6 + 1), xa_r (k + 6 + 2), xa_i 0, xa_i 0, xa_i (-4), xa_i 0, xa_i 0, xa_i 10] := (hqf _ (by omega)).trans g6
  have g6_1 : h'.1 (k + 6 + 1) = xa_a 9 (fun _ => 0) := (hqf _ (by omega)).trans g6_1
  have g6_2 : h'.1 (k + 6 + 2) = xa_a 2 (fun _ => 0) := (hqf _ (by omega)).trans g6_2
  have g9 : h'.1 (k + 9) = xa_o 2 [xa_r (k + 1), xa_r (k + 6), xa_r (k + 9 + 1), xa_i 0] := (hqf _ (by omega)).trans g9
  have g9_1 : h'.1 (k + 9 + 1) = xa_a 3 (fun _ => 0) := (hqf _ (by omega)).trans g9_1
  have g11 : h'.1 (k + 11) = xa_o 5 [xa_r (k + 11 + 1), xa_r (k + 11 + 2), xa_r (k + 11 + 3), xa_i 0] := (hqf _ (by omega)).trans g11
  have g11_1 : h'.1 (k + 11 + 1) = xa_a 240 (fun _ => 0) := (hqf _ (by omega)).trans g11_1
  have g11_2 : h'.1 (k + 11 + 2) = xa_a 4 (fun _ => 0) := (hqf _ (by omega)).trans g11_2
  have g11_3 : h'.1 (k + 11 + 3) = xa_a 120 (fun _ => 0) := (hqf _ (by omega)).trans g11_3
  have gQ15 : h'.1 (k + 15) = xa_q 2 (fun j => if j = 1 then some (k + 20) else (fun j => if j = 0 then some (k + 16) else (fun _ => none) j) j) := (hqf _ (by omega)).trans gQ15
  have g16 : h'.1 (k + 16) = xa_o 5 [xa_r (k + 16 + 1), xa_r (k + 16 + 2), xa_r (k + 16 + 3), xa_i 0] := (hqf _ (by omega)).trans g16
  have g16_1 : h'.1 (k + 16 + 1) = xa_a 240 (fun _ => 0) := (hqf _ (by omega)).trans g16_1
  have g16_2 : h'.1 (k + 16 + 2) = xa_a 4 (fun _ => 0) := (hqf _ (by omega)).trans g16_2
  have g16_3 : h'.1 (k + 16 + 3) = xa_a 120 (fun _ => 0) := (hqf _ (by omega)).trans g16_3
  have g20 : h'.1 (k + 20) = xa_o 5 [xa_r (k + 20 + 1), xa_r (k + 20 + 2), xa_r (k + 20 + 3), xa_i 0] := (hqf _ (by omega)).trans g20
  have g20_1 : h'.1 (k + 20 + 1) = xa_a 240 (fun _ => 0) := (hqf _ (by omega)).trans g20_1
  have g20_2 : h'.1 (k + 20 + 2) = xa_a 4 (fun _ => 0) := (hqf _ (by omega)).trans g20_2
  have g20_3 : h'.1 (k + 20 + 3) = xa_a 120 (fun _ => 0) := (hqf _ (by omega)).trans g20_3
  have g24 : h'.1 (k + 24) = xa_o 8 [xa_r (k + 24 + 4), xa_r (k + 3), xa_r (k + 24 + 1), xa_r (k + 24 + 2), xa_r (k + 24 + 3), xa_i 0, xa_i 0] := (hqf _ (by omega)).trans g24
  have g24_1 : h'.1 (k + 24 + 1) = xa_a 183 (fun _ => 0) := (hqf _ (by omega)).trans g24_1
  have g24_2 : h'.1 (k + 24 + 2) = xa_a 61 (fun _ => 0) := (hqf _ (by omega)).trans g24_2
  have g24_3 : h'.1 (k + 24 + 3) = xa_a 61 (fun _ => 0) := (hqf _ (by omega)).trans g24_3
  have g24_4 : h'.1 (k + 24 + 4) = xa_o 4 [xa_r (k + 3), xa_r (k + 24 + 4 + 1), xa_r (k + 24 + 4 + 2), xa_i 0, xa_i 0] := (hqf _ (by omega)).trans g24_4
  have g24_4_1 : h'.1 (k + 24 + 4 + 1) = xa_a 3 (fun _ => 0) := (hqf _ (by omega)).trans g24_4_1
  have g24_4_2 : h'.1 (k + 24 + 4 + 2) = xa_a 2 (fun _ => 0) := (hqf _ (by omega)).trans g24_4_2
  have gA31 : h'.1 (k + 31) = xa_a 4 (fun _ => 0) := (hqf _ (by omega)).trans gA31
  have g32 : h'.1 (k + 32) = xa_o 1 [xa_r (k + 3), xa_r (k + 32 + 1)] := (hqf _ (by omega)).trans g32
  have g32_1 : h'.1 (k + 32 + 1) = xa_o 4 [xa_r (k + 3), xa_r (k + 32 + 1 + 1), xa_r (k + 32 + 1 + 2), xa_i 0, xa_i 0] := (hqf _ (by omega)).trans g32_1
  have g32_1_1 : h'.1 (k + 32 + 1 + 1) = xa_a 3 (fun _ => 0) := (hqf _ (by omega)).trans g32_1_1
  have g32_1_2 : h'.1 (k + 32 + 1 + 2) = xa_a 2 (fun _ => 0) := (hqf _ (by omega)).trans g32_1_2
  have g36 : h'.1 (k + 36) = xa_o 3 [xa_r (k + 3), xa_r (k + 36 + 4), xa_r (k + 36 + 1), xa_r (k + 36 + 2), xa_r (k + 36 + 3), xa_i 0, xa_i 0, xa_i 0, xa_i 0, xa_i 0, xa_i 0, xa_i 0] := g36
  have g36_1 : h'.1 (k + 36 + 1) = xa_a 360 (fun _ => 0) := g36_1
  have g36_2 : h'.1 (k + 36 + 2) = xa_a 360 (fun _ => 0) := g36_2
  have g36_3 : h'.1 (k + 36 + 3) = xa_a 0 (fun _ => 0) := g36_3
  have g36_4 : h'.1 (k + 36 + 4) = xa_o 6 [xa_r (k + 3), xa_r (k + 36 + 4 + 5), xa_i (-1), xa_r (k + 36 + 4 + 1), xa_r (k + 36 + 4 + 2), xa_i 0, xa_i 0, xa_i 0, xa_r (k + 36 + 4 + 3), xa_r (k + 36 + 4 + 4)] := g36_4
  have g36_4_1 : h'.1 (k + 36 + 4 + 1) = xa_a 2 (fun _ => 0) := g36_4_1
  have g36_4_2 : h'.1 (k + 36 + 4 + 2) = xa_a 2 (fun _ => 0) := g36_4_2
  have g36_4_3 : h'.1 (k + 36 + 4 + 3) = xa_a 0 (fun _ => 0) := g36_4_3
  have g36_4_4 : h'.1 (k + 36 + 4 + 4) = xa_a 0 (fun _ => 0) := g36_4_4
  have g36_4_5 : h'.1 (k + 36 + 4 + 5) = xa_o 4 [xa_r (k + 3), xa_r (k + 36 + 4 + 5 + 1), xa_r (k + 36 + 4 + 5 + 2), xa_i 0, xa_i 0] := g36_4_5
  have g36_4_5_1 : h'.1 (k + 36 + 4 + 5 + 1) = xa_a 3 (fun _ => 0) := g36_4_5_1
  have g36_4_5_2 : h'.1 (k + 36 + 4 + 5 + 2) = xa_a 2 (fun _ => 0) := g36_4_5_2
  have hcn : h'.2 = k + 48 := by omega
  have fr : ∀ i, i < k → h'.1 i = h0.1 i := fun i hi => (hqf i (by omega)).trans (fr i hi)
  refine xa_putwF (pc := 155) [xa_r (k + 1), xa_r (k + 3), xa_r (k + 6), xa_r (k + 9), xa_r (k + 11), xa_r (k + 15), xa_i 0, xa_r (k + 24), xa_r (k + 31), xa_r (k + 32), xa_r (k + 36), xa_n, xa_n] dX9_init_155 rfl flRX9_71 plX9_10 (by omega) (by omega) hX0 trivial rfl rfl (fun h2 nh2 ch2 oh2 => ?_)
  have hX0 : h2.1 k = xa_o 9 [xa_r (k + 1), xa_r (k + 3), xa_r (k + 6), xa_r (k + 9), xa_r (k + 11), xa_r (k + 15), xa_i 0, xa_r (k + 24), xa_r (k + 31), xa_r (k + 32), xa_r (k + 36), xa_n, xa_n] := ch2
  have g1 : h2.1 (k + 1) = xa_o 7 [xa_r (k + 1 + 1), xa_i 0] := (oh2 _ (by omega)).trans g1
  have g1_1 : h2.1 (k + 1 + 1) = xa_a 120 (fun _ => 0) := (oh2 _ (by omega)).trans g1_1
  have g3 : h2.1 (k + 3) = xa_o 0 [xa_r (k + 3 + 1), xa_r (k + 3 + 2), xa_i 0, xa_i 0, xa_i (-4), xa_i 0, xa_i 0, xa_i 10] := (oh2 _ (by omega)).trans g3
  have g3_1 : h2.1 (k + 3 + 1) = xa_a 9 (fun _ => 0) := (oh2 _ (by omega)).trans g3_1
  have g3_2 : h2.1 (k + 3 + 2) = xa_a 2 (fun _ => 0) := (oh2 _ (by omega)).trans g3_2
  have g6 : h2.1 (k + 6) = xa_o 0 [xa_r (k + 6 + 1), xa_r (k + 6 + 2), xa_i 0, xa_i 0, xa_i (-4), xa_i 0, xa_i 0, xa_i 10] := (oh2 _ (by omega)).trans g6
  have g6_1 : h2.1 (k + 6 + 1) = xa_a 9 (fun _ => 0) := (oh2 _ (by omega)).trans g6_1
  have g6_2 : h2.1 (k + 6 + 2) = xa_a 2 (fun _ => 0) := (oh2 _ (by omega)).trans g6_2
  have g9 : h2.1 (k + 9) = xa_o 2 [xa_r (k + 1), xa_r (k + 6), xa_r (k + 9 + 1), xa_i 0] := (oh2 _ (by omega)).trans g9
  have g9_1 : h2.1 (k + 9 + 1) = xa_a 3 (fun _ => 0) := (oh2 _ (by omega)).trans g9_1
  have g11 : h2.1 (k + 11) = xa_o 5 [xa_r (k + 11 + 1), xa_r (k + 11 + 2), xa_r (k + 11 + 3), xa_i 0] := (oh2 _ (by omega)).trans g11
  have g11_1 : h2.1 (k + 11 + 1) = xa_a 240 (fun _ => 0) := (oh2 _ (by omega)).trans g11_1
  have g11_2 : h2.1 (k + 11 + 2) = xa_a 4 (fun _ => 0) := (oh2 _ (by omega)).trans g11_2
  have g11_3 : h2.1 (k + 11 + 3) = xa_a 120 (fun _ => 0) := (oh2 _ (by omega)).trans g11_3
  have gQ15 : h2.1 (k + 15) = xa_q 2 (fun j => if j = 1 then some (k + 20) else (fun j => if j = 0 then some (k + 16) else (fun _ => none) j) j) := (oh2 _ (by omega)).trans gQ15
  have g16 : h2.1 (k + 16) = xa_o 5 [xa_r (k + 16 + 1), xa_r (k + 16 + 2), xa_r (k + 16 + 3), xa_i 0] := (oh2 _ (by omega)).trans g16
  have g16_1 : h2.1 (k + 16 + 1) = xa_a 240 (fun _ => 0) := (oh2 _ (by omega)).trans g16_1
  have g16_2 : h2.1 (k + 16 + 2) = xa_a 4 (fun _ => 0) := (oh2 _ (by omega)).trans g16_2
  have g16_3 : h2.1 (k + 16 + 3) = xa_a 120 (fun _ => 0) := (oh2 _ (by omega)).trans g16_3
  have g20 : h2.1 (k + 20) = xa_o 5 [xa_r (k + 20 + 1), xa_r (k + 20 + 2), xa_r (k + 20 + 3), xa_i 0] := (oh2 _ (by omega)).trans g20
  have g20_1 : h2.1 (k + 20 + 1) = xa_a 240 (fun _ => 0) := (oh2 _ (by omega)).trans g20_1
  have g20_2 : h2.1 (k + 20 + 2) = xa_a 4 (fun _ => 0) := (oh2 _ (by omega)).trans g20_2
  have g20_3 : h2.1 (k + 20 + 3) = xa_a 120 (fun _ => 0) := (oh2 _ (by omega)).trans g20_3
  have g24 : h2.1 (k + 24) = xa_o 8 [xa_r (k + 24 + 4), xa_r (k + 3), xa_r (k + 24 + 1), xa_r (k + 24 + 2), xa_r (k + 24 + 3), xa_i 0, xa_i 0] := (oh2 _ (by omega)).trans g24
  have g24_1 : h2.1 (k + 24 + 1) = xa_a 183 (fun _ => 0) := (oh2 _ (by omega)).trans g24_1
  have g24_2 : h2.1 (k + 24 + 2) = xa_a 61 (fun _ => 0) := (oh2 _ (by omega)).trans g24_2
  have g24_3 : h2.1 (k + 24 + 3) = xa_a 61 (fun _ => 0) := (oh2 _ (by omega)).trans g24_3
  have g24_4 : h2.1 (k + 24 + 4) = xa_o 4 [xa_r (k + 3), xa_r (k + 24 + 4 + 1), xa_r (k + 24 + 4 + 2), xa_i 0, xa_i 0] := (oh2 _ (by omega)).trans g24_4
  have g24_4_1 : h2.1 (k + 24 + 4 + 1) = xa_a 3 (fun _ => 0) := (oh2 _ (by omega)).trans g24_4_1
  have g24_4_2 : h2.1 (k + 24 + 4 + 2) = xa_a 2 (fun _ => 0) := (oh2 _ (by omega)).trans g24_4_2
  have gA31 : h2.1 (k + 31) = xa_a 4 (fun _ => 0) := (oh2 _ (by omega)).trans gA31
  have g32 : h2.1 (k + 32) = xa_o 1 [xa_r (k + 3), xa_r (k + 32 + 1)] := (oh2 _ (by omega)).trans g32
  have g32_1 : h2.1 (k + 32 + 1) = xa_o 4 [xa_r (k + 3), xa_r (k + 32 + 1 + 1), xa_r (k + 32 + 1 + 2), xa_i 0, xa_i 0] := (oh2 _ (by omega)).trans g32_1
  have g32_1_1 : h2.1 (k + 32 + 1 + 1) = xa_a 3 (fun _ => 0) := (oh2 _ (by omega)).trans g32_1_1
  have g32_1_2 : h2.1 (k + 32 + 1 + 2) = xa_a 2 (fun _ => 0) := (oh2 _ (by omega)).trans g32_1_2
  have g36 : h2.1 (k + 36) = xa_o 3 [xa_r (k + 3), xa_r (k + 36 + 4), xa_r (k + 36 + 1), xa_r (k + 36 + 2), xa_r (k + 36 + 3), xa_i 0, xa_i 0, xa_i 0, xa_i 0, xa_i 0, xa_i 0, xa_i 0] := (oh2 _ (by omega)).trans g36
  have g36_1 : h2.1 (k + 36 + 1) = xa_a 360 (fun _ => 0) := (oh2 _ (by omega)).trans g36_1
  have g36_2 : h2.1 (k + 36 + 2) = xa_a 360 (fun _ => 0) := (oh2 _ (by omega)).trans g36_2
  have g36_3 : h2.1 (k + 36 + 3) = xa_a 0 (fun _ => 0) := (oh2 _ (by omega)).trans g36_3
  have g36_4 : h2.1 (k + 36 + 4) = xa_o 6 [xa_r (k + 3), xa_r (k + 36 + 4 + 5), xa_i (-1), xa_r (k + 36 + 4 + 1), xa_r (k + 36 + 4 + 2), xa_i 0, xa_i 0, xa_i 0, xa_r (k + 36 + 4 + 3), xa_r (k + 36 + 4 + 4)] := (oh2 _ (by omega)).trans g36_4
  have g36_4_1 : h2.1 (k + 36 + 4 + 1) = xa_a 2 (fun _ => 0) := (oh2 _ (by omega)).trans g36_4_1
  have g36_4_2 : h2.1 (k + 36 + 4 + 2) = xa_a 2 (fun _ => 0) := (oh2 _ (by omega)).trans g36_4_2
  have g36_4_3 : h2.1 (k + 36 + 4 + 3) = xa_a 0 (fun _ => 0) := (oh2 _ (by omega)).trans g36_4_3
  have g36_4_4 : h2.1 (k + 36 + 4 + 4) = xa_a 0 (fun _ => 0) := (oh2 _ (by omega)).trans g36_4_4
  have g36_4_5 : h2.1 (k + 36 + 4 + 5) = xa_o 4 [xa_r (k + 3), xa_r (k + 36 + 4 + 5 + 1), xa_r (k + 36 + 4 + 5 + 2), xa_i 0, xa_i 0] := (oh2 _ (by omega)).trans g36_4_5
  have g36_4_5_1 : h2.1 (k + 36 + 4 + 5 + 1) = xa_a 3 (fun _ => 0) := (oh2 _ (by omega)).trans g36_4_5_1
  have g36_4_5_2 : h2.1 (k + 36 + 4 + 5 + 2) = xa_a 2 (fun _ => 0) := (oh2 _ (by omega)).trans g36_4_5_2
  have hcn : h2.2 = k + 48 := nh2.trans hcn
  have fr : ∀ i, i < k → h2.1 i = h0.1 i := fun i hi => (oh2 i (by omega)).trans (fr i hi)
  exact c_Cat_cells_10 k hk hcn fr hX0 g1 g1_1 g3 g3_1 g3_2 g6 g6_1 g6_2 g9 g9_1 g11 g11_1 g11_2 g11_3 gQ15 g16 g16_1 g16_2 g16_3 g20 g20_1 g20_2 g20_3 g24 g24_1 g24_2 g24_3 g24_4 g24_4_1 g24_4_2 gA31 g32 g32_1 g32_1_1 g32_1_2 g36 g36_1 g36_2 g36_3 g36_4 g36_4_1 g36_4_2 g36_4_3 g36_4_4 g36_4_5 g36_4_5_1 g36_4_5_2
theorem c_Cat_cells_8 {G : xa_G} {h0 h : xa_H} (k : Nat) (hk : 2 ≤ k) (hcn : h.2 = k + 32) (fr : ∀ i, i < k → h.1 i = h0.1 i) (hX0 : h.1 k = xa_o 9 [xa_r (k + 1), xa_r (k + 3), xa_r (k + 6), xa_r (k + 9), xa_r (k + 11), xa_r (k + 15), xa_i 0, xa_r (k + 24), xa_r (k + 31), xa_n, xa_n, xa_n, xa_n]) (g1 : h.1 (k + 1) = xa_o 7 [xa_r (k + 1 + 1), xa_i 0]) (g1_1 : h.1 (k + 1 + 1) = xa_a 120 (fun _ => 0)) (g3 : h.1 (k + 3) = xa_o 0 [xa_r (k + 3 + 1), xa_r (k + 3 + 2), xa_i 0, xa_i 0, xa_i (-4), xa_i 0, xa_i 0, xa_i 10]) (g3_1 : h.1 (k + 3 + 1) = xa_a 9 (fun _ => 0)) (g3_2 : h.1 (k + 3 + 2) = xa_a 2 (fun _ => 0)) (g6 : h.1 (k + 6) = xa_o 0 [xa_r (k + 6 + 1), xa_r (k + 6 + 2), xa_i 0, xa_i 0, xa_i (-4), xa_i 0, xa_i 0, xa_i 10]) (g6_1 : h.1 (k + 6 + 1) = xa_a 9 (fun _ => 0)) (g6_2 : h.1 (k + 6 + 2) = xa_a 2 (fun _ => 0)) (g9 : h.1 (k + 9) = xa_o 2 [xa_r (k + 1), xa_r (k + 6), xa_r (k + 9 + 1), xa_i 0]) (g9_1 : h.1 (k + 9 + 1) = xa_a 3 (fun _ => 0)) (g11 : h.1 (k + 11) = xa_o 5 [xa_r (k + 11 + 1), xa_r (k + 11 + 2), xa_r (k + 11 + 3), xa_i 0]) (g11_1 : h.1 (k + 11 + 1) = xa_a 240 (fun _ => 0)) (g11_2 : h.1 (k + 11 + 2) = xa_a 4 (fun _ => 0)) (g11_3 : h.1 (k + 11 + 3) = xa_a 120 (fun _ => 0)) (gQ15 : h.1 (k + 15) = xa_q 2 (fun j => if j = 1 then some (k + 20) else (fun j => if j = 0 then some (k + 16) else (fun _ => none) j) j)) (g16 : h.1 (k + 16) = xa_o 5 [xa_r (k + 16 + 1), xa_r (k + 16 + 2), xa_r (k + 16 + 3), xa_i 0]) (g16_1 : h.1 (k + 16 + 1) = xa_a 240 (fun _ => 0)) (g16_2 : h.1 (k + 16 + 2) = xa_a 4 (fun _ => 0)) (g16_3 : h.1 (k + 16 + 3) = xa_a 120 (fun _ => 0)) (g20 : h.1 (k + 20) = xa_o 5 [xa_r (k + 20 + 1), xa_r (k + 20 + 2), xa_r (k + 20 + 3), xa_i 0]) (g20_1 : h.1 (k + 20 + 1) = xa_a 240 (fun _ => 0)) (g20_2 : h.1 (k + 20 + 2) = xa_a 4 (fun _ => 0)) (g20_3 : h.1 (k + 20 + 3) = xa_a 120 (fun _ => 0)) (g24 : h.1 (k + 24) = xa_o 8 [xa_r (k + 24 + 4), xa_r (k + 3), xa_r (k + 24 + 1), xa_r (k + 24 + 2), xa_r (k + 24 + 3), xa_i 0, xa_i 0]) (g24_1 : h.1 (k + 24 + 1) = xa_a 183 (fun _ => 0)) (g24_2 : h.1 (k + 24 + 2) = xa_a 61 (fun _ => 0)) (g24_3 : h.1 (k + 24 + 3) = xa_a 61 (fun _ => 0)) (g24_4 : h.1 (k + 24 + 4) = xa_o 4 [xa_r (k + 3), xa_r (k + 24 + 4 + 1), xa_r (k + 24 + 4 + 2), xa_i 0, xa_i 0]) (g24_4_1 : h.1 (k + 24 + 4 + 1) = xa_a 3 (fun _ => 0)) (g24_4_2 : h.1 (k + 24 + 4 + 2) = xa_a 2 (fun _ => 0)) (gA31 : h.1 (k + 31) = xa_a 4 (fun _ => 0))  : xa_W G mX9_init (xa_Z G (fun r h' => r = none ∧ h'.1 k = xa_o 9 [xa_r (k + 1), xa_r (k + 3), xa_r (k + 6), xa_r (k + 9), xa_r (k + 11), xa_r (k + 15), xa_i 0, xa_r (k + 24), xa_r (k + 31), xa_r (k + 32), xa_r (k + 36), xa_r (k + 48), xa_r (k + 60)] ∧ h'.1 (k + 1) = xa_o 7 [xa_r (k + 1 + 1), xa_i 0] ∧ h'.1 (k + 1 + 1) = xa_a 120 (fun _ => 0) ∧ h'.1 (k + 3) = xa_o 0 [xa_r (k + 3 + 1), xa_r (k + 3 + 2), xa_i 2, xa_i 1, xa_i (-4), xa_i 0, xa_i 0, xa_i 10] ∧ h'.1 (k + 3 + 1) = xa_a 9 (xa_upf (xa_upf (xa_upf (xa_upf (xa_upf (xa_upf (fun _ => 0) (0 * 3) 1) (0 * 3 + 1) 1) (0 * 3 + 2) 1) (1 * 3) 1) (1 * 3 + 1) 1) (1 * 3 + 2) 1) ∧ h'.1 (k + 3 + 2) = xa_a 2 (xa_upf (fun _ => 0) 0 10) ∧ h'.1 (k + 6) = xa_o 0 [xa_r (k + 6 + 1), xa_r (k + 6 + 2), xa_i 0, xa_i 0, xa_i (-4), xa_i 0, xa_i 0, xa_i 10] ∧ h'.1 (k + 6 + 1) = xa_a 9 (fun _ => 0) ∧ h'.1 (k + 6 + 2) = xa_a 2 (fun _ => 0) ∧ h'.1 (k + 9) = xa_o 2 [xa_r (k + 1), xa_r (k + 6), xa_r (k + 9 + 1), xa_i 0] ∧ h'.1 (k + 9 + 1) = xa_a 3 (fun _ => 0) ∧ h'.1 (k + 11) = xa_o 5 [xa_r (k + 11 + 1), xa_r (k + 11 + 2), xa_r (k + 11 + 3), xa_i 0] ∧ h'.1 (k + 11 + 1) = xa_a 240 (fun _ => 0) ∧ h'.1 (k + 11 + 2) = xa_a 4 (fun _ => 0) ∧ h'.1 (k + 11 + 3) = xa_a 120 (fun _ => 0) ∧ h'.1 (k + 15) = xa_q 2 (fun j => if j = 1 then some (k + 20) else (fun j => if j = 0 then some (k + 16) else (fun _ => none) j) j) ∧ h'.1 (k + 16) = xa_o 5 [xa_r (k + 16 + 1), xa_r (k + 16 + 2), xa_r (k + 16 + 3), xa_i 0] ∧ h'.1 (k + 16 + 1) = xa_a 240 (fun _ => 0) ∧ h'.1 (k + 16 + 2) = xa_a 4 (fun _ => 0) ∧ h'.1 (k + 16 + 3) = xa_a 120 (fun _ => 0) ∧ h'.1 (k + 20) = xa_o 5 [xa_r (k + 20 + 1), xa_r (k + 20 + 2), xa_r (k + 20 + 3), xa_i 0] ∧ h'.1 (k + 20 + 1) = xa_a 240 (fun _ => 0) ∧ h'.1 (k + 20 + 2) = xa_a 4 (fun _ => 0) ∧ h'.1 (k + 20 + 3) = xa_a 120 (fun _ => 0) ∧ h'.1 (k + 24) = xa_o 8 [xa_r (k + 24 + 4), xa_r (k + 3), xa_r (k + 24 + 1), xa_r (k + 24 + 2), xa_r (k + 24 + 3), xa_i 0, xa_i 0] ∧ h'.1 (k + 24 + 1) = xa_a 183 (fun _ => 0) ∧ h'.1 (k + 24 + 2) = xa_a 61 (fun _ => 0) ∧ h'.1 (k + 24 + 3) = xa_a 61 (fun _ => 0) ∧ h'.1 (k + 24 + 4) = xa_o 4 [xa_r (k + 3), xa_r (k + 24 + 4 + 1), xa_r (k + 24 + 4 + 2), xa_i 0, xa_i 0] ∧ h'.1 (k + 24 + 4 + 1) = xa_a 3 (fun _ => 0) ∧ h'.1 (k + 24 + 4 + 2) = xa_a 2 (fun _ => 0) ∧ h'.1 (k + 31) = xa_a 4 (fun _ => 0) ∧ h'.1 (k + 32) = xa_o 1 [xa_r (k + 3), xa_r (k + 32 + 1)] ∧ h'.1 (k + 32 + 1) = xa_o 4 [xa_r (k + 3), xa_r (k + 32 + 1 + 1), xa_r (k + 32 + 1 + 2), xa_i 0, xa_i 0] ∧ h'.1 (k + 32 + 1 + 1) = xa_a 3 (fun _ => 0) ∧ h'.1 (k + 32 + 1 + 2) = xa_a 2 (fun _ => 0) ∧ h'.1 (k + 36) = xa_o 3 [xa_r (k + 3), xa_r (k + 36 + 4), xa_r (k + 36 + 1), xa_r (k + 36 + 2), xa_r (k + 36 + 3), xa_i 0, xa_i 0, xa_i 0, xa_i 0, xa_i 0, xa_i 0, xa_i 0] ∧ h'.1 (k + 36 + 1) = xa_a 360 (fun _ => 0) ∧ h'.1 (k + 36 + 2) = xa_a 360 (fun _ => 0) ∧ h'.1 (k + 36 + 3) = xa_a 0 (fun _ => 0) ∧ h'.1 (k + 36 + 4) = xa_o 6 [xa_r (k + 3), xa_r (k + 36 + 4 + 5), xa_i (-1), xa_r (k + 36 + 4 + 1), xa_r (k + 36 + 4 + 2), xa_i 0, xa_i 0, xa_i 0, xa_r (k + 36 + 4 + 3), xa_r (k + 36 + 4 + 4)] ∧ h'.1 (k + 36 + 4 + 1) = xa_a 2 (fun _ => 0) ∧ h'.1 (k + 36 + 4 + 2) = xa_a 2 (fun _ => 0) ∧ h'.1 (k + 36 + 4 + 3) = xa_a 0 (fun _ => 0) ∧ h'.1 (k + 36 + 4 + 4) = xa_a 0 (fun _ => 0) ∧ h'.1 (k + 36 + 4 + 5) = xa_o 4 [xa_r (k + 3), xa_r (k + 36 + 4 + 5 + 1), xa_r (k + 36 + 4 + 5 + 2), xa_i 0, xa_i 0] ∧ h'.1 (k + 36 + 4 + 5 + 1) = xa_a 3 (fun _ => 0) ∧ h'.1 (k + 36 + 4 + 5 + 2) = xa_a 2 (fun _ => 0) ∧ h'.1 (k + 48) = xa_o 3 [xa_r (k + 3), xa_r (k + 48 + 4), xa_r (k + 48 + 1), xa_r (k + 48 + 2), xa_r (k + 48 + 3), xa_i 0, xa_i 0, xa_i 0, xa_i 0, xa_i 0, xa_i 0, xa_i 0] ∧ h'.1 (k + 48 + 1) = xa_a 360 (fun _ => 0) ∧ h'.1 (k + 48 + 2) = xa_a 360 (fun _ => 0) ∧ h'.1 (k + 48 + 3) = xa_a 0 (fun _ => 0) ∧ h'.1 (k + 48 + 4) = xa_o 6 [xa_r (k + 3), xa_r (k + 48 + 4 + 5), xa_i 0, xa_r (k + 48 + 4 + 1), xa_r (k + 48 + 4 + 2), xa_i 0, xa_i 0, xa_i 0, xa_r (k + 48 + 4 + 3), xa_r (k + 48 + 4 + 4)] ∧ h'.1 (k + 48 + 4 + 1) = xa_a 2 (fun _ => 0) ∧ h'.1 (k + 48 + 4 + 2) = xa_a 2 (fun _ => 0) ∧ h'.1 (k + 48 + 4 + 3) = xa_a 0 (fun _ => 0) ∧ h'.1 (k + 48 + 4 + 4) = xa_a 0 (fun _ => 0) ∧ h'.1 (k + 48 + 4 + 5) = xa_o 4 [xa_r (k + 3), xa_r (k + 48 + 4 + 5 + 1), xa_r (k + 48 + 4 + 5 + 2), xa_i 0, xa_i 0] ∧ h'.1 (k + 48 + 4 + 5 + 1) = xa_a 3 (fun _ => 0) ∧ h'.1 (k + 48 + 4 + 5 + 2) = xa_a 2 (fun _ => 0) ∧ h'.1 (k + 60) = xa_o 3 [xa_r (k + 3), xa_r (k + 60 + 4), xa_r (k + 60 + 1), xa_r (k + 60 + 2), xa_r (k + 60 + 3), xa_i 0, xa_i 0, xa_i 0, xa_i 0, xa_i 0, xa_i 0, xa_i 0] ∧ h'.1 (k + 60 + 1) = xa_a 360 (fun _ => 0) ∧ h'.1 (k + 60 + 2) = xa_a 360 (fun _ => 0) ∧ h'.1 (k + 60 + 3) = xa_a 0 (fun _ => 0) ∧ h'.1 (k + 60 + 4) = xa_o 6 [xa_r (k + 3), xa_r (k + 60 + 4 + 5), xa_i 1, xa_r (k + 60 + 4 + 1), xa_r (k + 60 + 4 + 2), xa_i 0, xa_i 0, xa_i 0, xa_r (k + 60 + 4 + 3), xa_r (k + 60 + 4 + 4)] ∧ h'.1 (k + 60 + 4 + 1) = xa_a 2 (fun _ => 0) ∧ h'.1 (k + 60 + 4 + 2) = xa_a 2 (fun _ => 0) ∧ h'.1 (k + 60 + 4 + 3) = xa_a 0 (fun _ => 0) ∧ h'.1 (k + 60 + 4 + 4) = xa_a 0 (fun _ => 0) ∧ h'.1 (k + 60 + 4 + 5) = xa_o 4 [xa_r (k + 3), xa_r (k + 60 + 4 + 5 + 1), xa_r (k + 60 + 4 + 5 + 2), xa_i 0, xa_i 0] ∧ h'.1 (k + 60 + 4 + 5 + 1) = xa_a 3 (fun _ => 0) ∧ h'.1 (k + 60 + 4 + 5 + 2) = xa_a 2 (fun _ => 0) ∧ h'.2 = k + 72 ∧ ∀ i, i < k → h'.1 i = h0.1 i)) 127 [some (xa_r k), some (xa_i 2)] [] h 40 2280 := by
  refine xa_aload_n (pc := 127) dX9_init_127 rfl ?_
  refine xa_newo (pc := 128) (ci := 1) (C := RX1) (T := TX1) (N := 2) (fs := [xa_n, xa_n]) (mc0 := 39) (ms0 := 2278) (k + 32) hcn dX9_init_128 rfl wcX1 tyX1_ok clRX9_59 inRX1 ziRX1 (fun j hj => by rcases (show j = 0 ∨ j = 1 by omega) with rfl | rfl <;> rfl) rfl rfl rfl (fun h1 nh1 ch1 oh1 => ?_)
  have hX0 : h1.1 k = xa_o 9 [xa_r (k + 1), xa_r (k + 3), xa_r (k + 6), xa_r (k + 9), xa_r (k + 11), xa_r (k + 15), xa_i 0, xa_r (k + 24), xa_r (k + 31), xa_n, xa_n, xa_n, xa_n] := (oh1 _ (by omega)).trans hX0
  have g1 : h1.1 (k + 1) = xa_o 7 [xa_r (k + 1 + 1), xa_i 0] := (oh1 _ (by omega)).trans g1
  have g1_1 : h1.1 (k + 1 + 1) = xa_a 120 (fun _ => 0) := (oh1 _ (by omega)).trans g1_1
  have g3 : h1.1 (k + 3) = xa_o 0 [xa_r (k + 3 + 1), xa_r (k + 3 + 2), xa_i 0, xa_i 0, xa_i (-4), xa_i 0, xa_i 0, xa_i 10] := (oh1 _ (by omega)).trans g3
  have g3_1 : h1.1 (k + 3 + 1) = xa_a 9 (fun _ => 0) := (oh1 _ (by omega)).trans g3_1
  have g3_2 : h1.1 (k + 3 + 2) = xa_a 2 (fun _ => 0) := (oh1 _ (by omega)).trans g3_2
  have g6 : h1.1 (k + 6) = xa_o 0 [xa_r (k + 6 + 1), xa_r (k + 6 + 2), xa_i 0, xa_i 0, xa_i (-4), xa_i 0, xa_i 0, xa_i 10] := (oh1 _ (by omega)).trans g6
  have g6_1 : h1.1 (k + 6 + 1) = xa_a 9 (fun _ => 0) := (oh1 _ (by omega)).trans g6_1
  have g6_2 : h1.1 (k + 6 + 2) = xa_a 2 (fun _ => 0) := (oh1 _ (by omega)).trans g6_2
  have g9 : h1.1 (k + 9) = xa_o 2 [xa_r (k + 1), xa_r (k + 6), xa_r (k + 9 + 1), xa_i 0] := (oh1 _ (by omega)).trans g9
  have g9_1 : h1.1 (k + 9 + 1) = xa_a 3 (fun _ => 0) := (oh1 _ (by omega)).trans g9_1
  have g11 : h1.1 (k + 11) = xa_o 5 [xa_r (k + 11 + 1), xa_r (k + 11 + 2), xa_r (k + 11 + 3), xa_i 0] := (oh1 _ (by omega)).trans g11
  have g11_1 : h1.1 (k + 11 + 1) = xa_a 240 (fun _ => 0) := (oh1 _ (by omega)).trans g11_1
  have g11_2 : h1.1 (k + 11 + 2) = xa_a 4 (fun _ => 0) := (oh1 _ (by omega)).trans g11_2
  have g11_3 : h1.1 (k + 11 + 3) = xa_a 120 (fun _ => 0) := (oh1 _ (by omega)).trans g11_3
  have gQ15 : h1.1 (k + 15) = xa_q 2 (fun j => if j = 1 then some (k + 20) else (fun j => if j = 0 then some (k + 16) else (fun _ => none) j) j) := (oh1 _ (by omega)).trans gQ15
  have g16 : h1.1 (k + 16) = xa_o 5 [xa_r (k + 16 + 1), xa_r (k + 16 + 2), xa_r (k + 16 + 3), xa_i 0] := (oh1 _ (by omega)).trans g16
  have g16_1 : h1.1 (k + 16 + 1) = xa_a 240 (fun _ => 0) := (oh1 _ (by omega)).trans g16_1
  have g16_2 : h1.1 (k + 16 + 2) = xa_a 4 (fun _ => 0) := (oh1 _ (by omega)).trans g16_2
  have g16_3 : h1.1 (k + 16 + 3) = xa_a 120 (fun _ => 0) := (oh1 _ (by omega)).trans g16_3
  have g20 : h1.1 (k + 20) = xa_o 5 [xa_r (k + 20 + 1), xa_r (k + 20 + 2), xa_r (k + 20 + 3), xa_i 0] := (oh1 _ (by omega)).trans g20
  have g20_1 : h1.1 (k + 20 + 1) = xa_a 240 (fun _ => 0) := (oh1 _ (by omega)).trans g20_1
  have g20_2 : h1.1 (k + 20 + 2) = xa_a 4 (fun _ => 0) := (oh1 _ (by omega)).trans g20_2
  have g20_3 : h1.1 (k + 20 + 3) = xa_a 120 (fun _ => 0) := (oh1 _ (by omega)).trans g20_3
  have g24 : h1.1 (k + 24) = xa_o 8 [xa_r (k + 24 + 4), xa_r (k + 3), xa_r (k + 24 + 1), xa_r (k + 24 + 2), xa_r (k + 24 + 3), xa_i 0, xa_i 0] := (oh1 _ (by omega)).trans g24
  have g24_1 : h1.1 (k + 24 + 1) = xa_a 183 (fun _ => 0) := (oh1 _ (by omega)).trans g24_1
  have g24_2 : h1.1 (k + 24 + 2) = xa_a 61 (fun _ => 0) := (oh1 _ (by omega)).trans g24_2
  have g24_3 : h1.1 (k + 24 + 3) = xa_a 61 (fun _ => 0) := (oh1 _ (by omega)).trans g24_3
  have g24_4 : h1.1 (k + 24 + 4) = xa_o 4 [xa_r (k + 3), xa_r (k + 24 + 4 + 1), xa_r (k + 24 + 4 + 2), xa_i 0, xa_i 0] := (oh1 _ (by omega)).trans g24_4
  have g24_4_1 : h1.1 (k + 24 + 4 + 1) = xa_a 3 (fun _ => 0) := (oh1 _ (by omega)).trans g24_4_1
  have g24_4_2 : h1.1 (k + 24 + 4 + 2) = xa_a 2 (fun _ => 0) := (oh1 _ (by omega)).trans g24_4_2
  have gA31 : h1.1 (k + 31) = xa_a 4 (fun _ => 0) := (oh1 _ (by omega)).trans gA31
  have gO32 : h1.1 (k + 32) = xa_o 1 [xa_n, xa_n] := ch1
  have hcn : h1.2 = k + 33 := nh1
  have fr : ∀ i, i < k → h1.1 i = h0.1 i := fun i hi => (oh1 i (by omega)).trans (fr i hi)
  refine xa_dup (pc := 131) dX9_init_131 rfl ?_
  refine xa_aload_n (pc := 132) dX9_init_132 rfl ?_
  refine xa_getfield (pc := 133) dX9_init_133 flRX9_19 (by omega) (by omega) hX0 rfl ?_
  refine xa_callI (pc := 136) (as := [xa_r (k + 3)]) (rest := [xa_r (k + 32), xa_r k]) (k := (k + 32)) dX9_init_136 ⟨qX1_init.1, qX1_init.2.1, qX1_init.2.2, by decide, by decide⟩ rfl rfl lkRX9_61 imX1_init rfl rfl (Nat.le_of_ble_eq_true rfl) (Nat.le_of_ble_eq_true rfl) (Nat.le_of_ble_eq_true rfl) (c_Loops_init _ _ (by omega) (by omega) gO32) (fun r h' hq => ?_)
  obtain ⟨rfl, ⟨g32, ⟨g32_1, g32_1_1, g32_1_2, -, -⟩⟩, hqn, hqf⟩ := hq
  have hX0 : h'.1 k = xa_o 9 [xa_r (k + 1), xa_r (k + 3), xa_r (k + 6), xa_r (k + 9), xa_r (k + 11), xa_r (k + 15), xa_i 0, xa_r (k + 24), xa_r (k + 31), xa_n, xa_n, xa_n, xa_n] := (hqf _ (by omega)).trans hX0
  have g1 : h'.1 (k + 1) = xa_o 7 [xa_r (k + 1 + 1), xa_i 0] := (hqf _ (by omega)).trans g1
  have g1_1 : h'.1 (k + 1 + 1) = xa_a 120 (fun _ => 0) := (hqf _ (by omega)).trans g1_1
  have g3 : h'.1 (k + 3) = xa_o 0 [xa_r (k + 3 + 1), xa_r (k + 3 + 2), xa_i 0, xa_i 0, xa_i (-4), xa_i 0, xa_i 0, xa_i 10] := (hqf _ (by omega)).trans g3
  have g3_1 : h'.1 (k + 3 + 1) = xa_a 9 (fun _ => 0) := (hqf _ (by omega)).trans g3_1
  have g3_2 : h'.1 (k + 3 + 2) = xa_a 2 (fun _ => 0) := (hqf _ (by omega)).trans g3_2
  have g6 : h'.1 (k + 6) = xa_o 0 [xa_r (k + 6 + 1), xa_r (k + 6 + 2), xa_i 0, xa_i 0, xa_i (-4), xa_i 0, xa_i 0, xa_i 10] := (hqf _ (by omega)).trans g6
  have g6_1 : h'.1 (k + 6 + 1) = xa_a 9 (fun _ => 0) := (hqf _ (by omega)).trans g6_1
  have g6_2 : h'.1 (k + 6 + 2) = xa_a 2 (fun _ => 0) := (hqf _ (by omega)).trans g6_2
  have g9 : h'.1 (k + 9) = xa_o 2 [xa_r (k + 1), xa_r (k + 6), xa_r (k + 9 + 1), xa_i 0] := (hqf _ (by omega)).trans g9
  have g9_1 : h'.1 (k + 9 + 1) = xa_a 3 (fun _ => 0) := (hqf _ (by omega)).trans g9_1
  have g11 : h'.1 (k + 11) = xa_o 5 [xa_r (k + 11 + 1), xa_r (k + 11 + 2), xa_r (k + 11 + 3), xa_i 0] := (hqf _ (by omega)).trans g11
  have g11_1 : h'.1 (k + 11 + 1) = xa_a 240 (fun _ => 0) := (hqf _ (by omega)).trans g11_1
  have g11_2 : h'.1 (k + 11 + 2) = xa_a 4 (fun _ => 0) := (hqf _ (by omega)).trans g11_2
  have g11_3 : h'.1 (k + 11 + 3) = xa_a 120 (fun _ => 0) := (hqf _ (by omega)).trans g11_3
  have gQ15 : h'.1 (k + 15) = xa_q 2 (fun j => if j = 1 then some (k + 20) else (fun j => if j = 0 then some (k + 16) else (fun _ => none) j) j) := (hqf _ (by omega)).trans gQ15
  have g16 : h'.1 (k + 16) = xa_o 5 [xa_r (k + 16 + 1), xa_r (k + 16 + 2), xa_r (k + 16 + 3), xa_i 0] := (hqf _ (by omega)).trans g16
  have g16_1 : h'.1 (k + 16 + 1) = xa_a 240 (fun _ => 0) := (hqf _ (by omega)).trans g16_1
  have g16_2 : h'.1 (k + 16 + 2) = xa_a 4 (fun _ => 0) := (hqf _ (by omega)).trans g16_2
  have g16_3 : h'.1 (k + 16 + 3) = xa_a 120 (fun _ => 0) := (hqf _ (by omega)).trans g16_3
  have g20 : h'.1 (k + 20) = xa_o 5 [xa_r (k + 20 + 1), xa_r (k + 20 + 2), xa_r (k + 20 + 3), xa_i 0] := (hqf _ (by omega)).trans g20
  have g20_1 : h'.1 (k + 20 + 1) = xa_a 240 (fun _ => 0) := (hqf _ (by omega)).trans g20_1
  have g20_2 : h'.1 (k + 20 + 2) = xa_a 4 (fun _ => 0) := (hqf _ (by omega)).trans g20_2
  have g20_3 : h'.1 (k + 20 + 3) = xa_a 120 (fun _ => 0) := (hqf _ (by omega)).trans g20_3
  have g24 : h'.1 (k + 24) = xa_o 8 [xa_r (k + 24 + 4), xa_r (k + 3), xa_r (k + 24 + 1), xa_r (k + 24 + 2), xa_r (k + 24 + 3), xa_i 0, xa_i 0] := (hqf _ (by omega)).trans g24
  have g24_1 : h'.1 (k + 24 + 1) = xa_a 183 (fun _ => 0) := (hqf _ (by omega)).trans g24_1
  have g24_2 : h'.1 (k + 24 + 2) = xa_a 61 (fun _ => 0) := (hqf _ (by omega)).trans g24_2
  have g24_3 : h'.1 (k + 24 + 3) = xa_a 61 (fun _ => 0) := (hqf _ (by omega)).trans g24_3
  have g24_4 : h'.1 (k + 24 + 4) = xa_o 4 [xa_r (k + 3), xa_r (k + 24 + 4 + 1), xa_r (k + 24 + 4 + 2), xa_i 0, xa_i 0] := (hqf _ (by omega)).trans g24_4
  have g24_4_1 : h'.1 (k + 24 + 4 + 1) = xa_a 3 (fun _ => 0) := (hqf _ (by omega)).trans g24_4_1
  have g24_4_2 : h'.1 (k + 24 + 4 + 2) = xa_a 2 (fun _ => 0) := (hqf _ (by omega)).trans g24_4_2
  have gA31 : h'.1 (k + 31) = xa_a 4 (fun _ => 0) := (hqf _ (by omega)).trans gA31
  have g32 : h'.1 (k + 32) = xa_o 1 [xa_r (k + 3), xa_r (k + 32 + 1)] := g32
  have g32_1 : h'.1 (k + 32 + 1) = xa_o 4 [xa_r (k + 3), xa_r (k + 32 + 1 + 1), xa_r (k + 32 + 1 + 2), xa_i 0, xa_i 0] := g32_1
  have g32_1_1 : h'.1 (k + 32 + 1 + 1) = xa_a 3 (fun _ => 0) := g32_1_1
  have g32_1_2 : h'.1 (k + 32 + 1 + 2) = xa_a 2 (fun _ => 0) := g32_1_2
  have hcn : h'.2 = k + 36 := by omega
  have fr : ∀ i, i < k → h'.1 i = h0.1 i := fun i hi => (hqf i (by omega)).trans (fr i hi)
  refine xa_putwF (pc := 139) [xa_r (k + 1), xa_r (k + 3), xa_r (k + 6), xa_r (k + 9), xa_r (k + 11), xa_r (k + 15), xa_i 0, xa_r (k + 24), xa_r (k + 31), xa_r (k + 32), xa_n, xa_n, xa_n] dX9_init_139 rfl flRX9_62 plX9_9 (by omega) (by omega) hX0 trivial rfl rfl (fun h2 nh2 ch2 oh2 => ?_)
  have hX0 : h2.1 k = xa_o 9 [xa_r (k + 1), xa_r (k + 3), xa_r (k + 6), xa_r (k + 9), xa_r (k + 11), xa_r (k + 15), xa_i 0, xa_r (k + 24), xa_r (k + 31), xa_r (k + 32), xa_n, xa_n, xa_n] := ch2
  have g1 : h2.1 (k + 1) = xa_o 7 [xa_r (k + 1 + 1), xa_i 0] := (oh2 _ (by omega)).trans g1
  have g1_1 : h2.1 (k + 1 + 1) = xa_a 120 (fun _ => 0) := (oh2 _ (by omega)).trans g1_1
  have g3 : h2.1 (k + 3) = xa_o 0 [xa_r (k + 3 + 1), xa_r (k + 3 + 2), xa_i 0, xa_i 0, xa_i (-4), xa_i 0, xa_i 0, xa_i 10] := (oh2 _ (by omega)).trans g3
  have g3_1 : h2.1 (k + 3 + 1) = xa_a 9 (fun _ => 0) := (oh2 _ (by omega)).trans g3_1
  have g3_2 : h2.1 (k + 3 + 2) = xa_a 2 (fun _ => 0) := (oh2 _ (by omega)).trans g3_2
  have g6 : h2.1 (k + 6) = xa_o 0 [xa_r (k + 6 + 1), xa_r (k + 6 + 2), xa_i 0, xa_i 0, xa_i (-4), xa_i 0, xa_i 0, xa_i 10] := (oh2 _ (by omega)).trans g6
  have g6_1 : h2.1 (k + 6 + 1) = xa_a 9 (fun _ => 0) := (oh2 _ (by omega)).trans g6_1
  have g6_2 : h2.1 (k + 6 + 2) = xa_a 2 (fun _ => 0) := (oh2 _ (by omega)).trans g6_2
  have g9 : h2.1 (k + 9) = xa_o 2 [xa_r (k + 1), xa_r (k + 6), xa_r (k + 9 + 1), xa_i 0] := (oh2 _ (by omega)).trans g9
  have g9_1 : h2.1 (k + 9 + 1) = xa_a 3 (fun _ => 0) := (oh2 _ (by omega)).trans g9_1
  have g11 : h2.1 (k + 11) = xa_o 5 [xa_r (k + 11 + 1), xa_r (k + 11 + 2), xa_r (k + 11 + 3), xa_i 0] := (oh2 _ (by omega)).trans g11
  have g11_1 : h2.1 (k + 11 + 1) = xa_a 240 (fun _ => 0) := (oh2 _ (by omega)).trans g11_1
  have g11_2 : h2.1 (k + 11 + 2) = xa_a 4 (fun _ => 0) := (oh2 _ (by omega)).trans g11_2
  have g11_3 : h2.1 (k + 11 + 3) = xa_a 120 (fun _ => 0) := (oh2 _ (by omega)).trans g11_3
  have gQ15 : h2.1 (k + 15) = xa_q 2 (fun j => if j = 1 then some (k + 20) else (fun j => if j = 0 then some (k + 16) else (fun _ => none) j) j) := (oh2 _ (by omega)).trans gQ15
  have g16 : h2.1 (k + 16) = xa_o 5 [xa_r (k + 16 + 1), xa_r (k + 16 + 2), xa_r (k + 16 + 3), xa_i 0] := (oh2 _ (by omega)).trans g16
  have g16_1 : h2.1 (k + 16 + 1) = xa_a 240 (fun _ => 0) := (oh2 _ (by omega)).trans g16_1
  have g16_2 : h2.1 (k + 16 + 2) = xa_a 4 (fun _ => 0) := (oh2 _ (by omega)).trans g16_2
  have g16_3 : h2.1 (k + 16 + 3) = xa_a 120 (fun _ => 0) := (oh2 _ (by omega)).trans g16_3
  have g20 : h2.1 (k + 20) = xa_o 5 [xa_r (k + 20 + 1), xa_r (k + 20 + 2), xa_r (k + 20 + 3), xa_i 0] := (oh2 _ (by omega)).trans g20
  have g20_1 : h2.1 (k + 20 + 1) = xa_a 240 (fun _ => 0) := (oh2 _ (by omega)).trans g20_1
  have g20_2 : h2.1 (k + 20 + 2) = xa_a 4 (fun _ => 0) := (oh2 _ (by omega)).trans g20_2
  have g20_3 : h2.1 (k + 20 + 3) = xa_a 120 (fun _ => 0) := (oh2 _ (by omega)).trans g20_3
  have g24 : h2.1 (k + 24) = xa_o 8 [xa_r (k + 24 + 4), xa_r (k + 3), xa_r (k + 24 + 1), xa_r (k + 24 + 2), xa_r (k + 24 + 3), xa_i 0, xa_i 0] := (oh2 _ (by omega)).trans g24
  have g24_1 : h2.1 (k + 24 + 1) = xa_a 183 (fun _ => 0) := (oh2 _ (by omega)).trans g24_1
  have g24_2 : h2.1 (k + 24 + 2) = xa_a 61 (fun _ => 0) := (oh2 _ (by omega)).trans g24_2
  have g24_3 : h2.1 (k + 24 + 3) = xa_a 61 (fun _ => 0) := (oh2 _ (by omega)).trans g24_3
  have g24_4 : h2.1 (k + 24 + 4) = xa_o 4 [xa_r (k + 3), xa_r (k + 24 + 4 + 1), xa_r (k + 24 + 4 + 2), xa_i 0, xa_i 0] := (oh2 _ (by omega)).trans g24_4
  have g24_4_1 : h2.1 (k + 24 + 4 + 1) = xa_a 3 (fun _ => 0) := (oh2 _ (by omega)).trans g24_4_1
  have g24_4_2 : h2.1 (k + 24 + 4 + 2) = xa_a 2 (fun _ => 0) := (oh2 _ (by omega)).trans g24_4_2
  have gA31 : h2.1 (k + 31) = xa_a 4 (fun _ => 0) := (oh2 _ (by omega)).trans gA31
  have g32 : h2.1 (k + 32) = xa_o 1 [xa_r (k + 3), xa_r (k + 32 + 1)] := (oh2 _ (by omega)).trans g32
  have g32_1 : h2.1 (k + 32 + 1) = xa_o 4 [xa_r (k + 3), xa_r (k + 32 + 1 + 1), xa_r (k + 32 + 1 + 2), xa_i 0, xa_i 0] := (oh2 _ (by omega)).trans g32_1
  have g32_1_1 : h2.1 (k + 32 + 1 + 1) = xa_a 3 (fun _ => 0) := (oh2 _ (by omega)).trans g32_1_1
  have g32_1_2 : h2.1 (k + 32 + 1 + 2) = xa_a 2 (fun _ => 0) := (oh2 _ (by omega)).trans g32_1_2
  have hcn : h2.2 = k + 36 := nh2.trans hcn
  have fr : ∀ i, i < k → h2.1 i = h0.1 i := fun i hi => (oh2 i (by omega)).trans (fr i hi)
  exact c_Cat_cells_9 k hk hcn fr hX0 g1 g1_1 g3 g3_1 g3_2 g6 g6_1 g6_2 g9 g9_1 g11 g11_1 g11_2 g11_3 gQ15 g16 g16_1 g16_2 g16_3 g20 g20_1 g20_2 g20_3 g24 g24_1 g24_2 g24_3 g24_4 g24_4_1 g24_4_2 gA31 g32 g32_1 g32_1_1 g32_1_2
theorem c_Cat_cells_7 {G : xa_G} {h0 h : xa_H} (k : Nat) (hk : 2 ≤ k) (hcn : h.2 = k + 31) (fr : ∀ i, i < k → h.1 i = h0.1 i) (hX0 : h.1 k = xa_o 9 [xa_r (k + 1), xa_r (k + 3), xa_r (k + 6), xa_r (k + 9), xa_r (k + 11), xa_r (k + 15), xa_i 0, xa_r (k + 24), xa_n, xa_n, xa_n, xa_n, xa_n]) (g1 : h.1 (k + 1) = xa_o 7 [xa_r (k + 1 + 1), xa_i 0]) (g1_1 : h.1 (k + 1 + 1) = xa_a 120 (fun _ => 0)) (g3 : h.1 (k + 3) = xa_o 0 [xa_r (k + 3 + 1), xa_r (k + 3 + 2), xa_i 0, xa_i 0, xa_i (-4), xa_i 0, xa_i 0, xa_i 10]) (g3_1 : h.1 (k + 3 + 1) = xa_a 9 (fun _ => 0)) (g3_2 : h.1 (k + 3 + 2) = xa_a 2 (fun _ => 0)) (g6 : h.1 (k + 6) = xa_o 0 [xa_r (k + 6 + 1), xa_r (k + 6 + 2), xa_i 0, xa_i 0, xa_i (-4), xa_i 0, xa_i 0, xa_i 10]) (g6_1 : h.1 (k + 6 + 1) = xa_a 9 (fun _ => 0)) (g6_2 : h.1 (k + 6 + 2) = xa_a 2 (fun _ => 0)) (g9 : h.1 (k + 9) = xa_o 2 [xa_r (k + 1), xa_r (k + 6), xa_r (k + 9 + 1), xa_i 0]) (g9_1 : h.1 (k + 9 + 1) = xa_a 3 (fun _ => 0)) (g11 : h.1 (k + 11) = xa_o 5 [xa_r (k + 11 + 1), xa_r (k + 11 + 2), xa_r (k + 11 + 3), xa_i 0]) (g11_1 : h.1 (k + 11 + 1) = xa_a 240 (fun _ => 0)) (g11_2 : h.1 (k + 11 + 2) = xa_a 4 (fun _ => 0)) (g11_3 : h.1 (k + 11 + 3) = xa_a 120 (fun _ => 0)) (gQ15 : h.1 (k + 15) = xa_q 2 (fun j => if j = 1 then some (k + 20) else (fun j => if j = 0 then some (k + 16) else (fun _ => none) j) j)) (g16 : h.1 (k + 16) = xa_o 5 [xa_r (k + 16 + 1), xa_r (k + 16 + 2), xa_r (k + 16 + 3), xa_i 0]) (g16_1 : h.1 (k + 16 + 1) = xa_a 240 (fun _ => 0)) (g16_2 : h.1 (k + 16 + 2) = xa_a 4 (fun _ => 0)) (g16_3 : h.1 (k + 16 + 3) = xa_a 120 (fun _ => 0)) (g20 : h.1 (k + 20) = xa_o 5 [xa_r (k + 20 + 1), xa_r (k + 20 + 2), xa_r (k + 20 + 3), xa_i 0]) (g20_1 : h.1 (k + 20 + 1) = xa_a 240 (fun _ => 0)) (g20_2 : h.1 (k + 20 + 2) = xa_a 4 (fun _ => 0)) (g20_3 : h.1 (k + 20 + 3) = xa_a 120 (fun _ => 0)) (g24 : h.1 (k + 24) = xa_o 8 [xa_r (k + 24 + 4), xa_r (k + 3), xa_r (k + 24 + 1), xa_r (k + 24 + 2), xa_r (k + 24 + 3), xa_i 0, xa_i 0]) (g24_1 : h.1 (k + 24 + 1) = xa_a 183 (fun _ => 0)) (g24_2 : h.1 (k + 24 + 2) = xa_a 61 (fun _ => 0)) (g24_3 : h.1 (k + 24 + 3) = xa_a 61 (fun _ => 0)) (g24_4 : h.1 (k + 24 + 4) = xa_o 4 [xa_r (k + 3), xa_r (k + 24 + 4 + 1), xa_r (k + 24 + 4 + 2), xa_i 0, xa_i 0]) (g24_4_1 : h.1 (k + 24 + 4 + 1) = xa_a 3 (fun _ => 0)) (g24_4_2 : h.1 (k + 24 + 4 + 2) = xa_a 2 (fun _ => 0))  : xa_W G mX9_init (xa_Z G (fun r h' => r = none ∧ h'.1 k = xa_o 9 [xa_r (k + 1), xa_r (k + 3), xa_r (k + 6), xa_r (k + 9), xa_r (k + 11), xa_r (k + 15), xa_i 0, xa_r (k + 24), xa_r (k + 31), xa_r (k + 32), xa_r (k + 36), xa_r (k + 48), xa_r (k + 60)] ∧ h'.1 (k + 1) = xa_o 7 [xa_r (k + 1 + 1), xa_i 0] ∧ h'.1 (k + 1 + 1) = xa_a 120 (fun _ => 0) ∧ h'.1 (k + 3) = xa_o 0 [xa_r (k + 3 + 1), xa_r (k + 3 + 2), xa_i 2, xa_i 1, xa_i (-4), xa_i 0, xa_i 0, xa_i 10] ∧ h'.1 (k + 3 + 1) = xa_a 9 (xa_upf (xa_upf (xa_upf (xa_upf (xa_upf (xa_upf (fun _ => 0) (0 * 3) 1) (0 * 3 + 1) 1) (0 * 3 + 2) 1) (1 * 3) 1) (1 * 3 + 1) 1) (1 * 3 + 2) 1) ∧ h'.1 (k + 3 + 2) = xa_a 2 (xa_upf (fun _ => 0) 0 10) ∧ h'.1 (k + 6) = xa_o 0 [xa_r (k + 6 + 1), xa_r (k + 6 + 2), xa_i 0, xa_i 0, xa_i (-4), xa_i 0, xa_i 0, xa_i 10] ∧ h'.1 (k + 6 + 1) = xa_a 9 (fun _ => 0) ∧ h'.1 (k + 6 + 2) = xa_a 2 (fun _ => 0) ∧ h'.1 (k + 9) = xa_o 2 [xa_r (k + 1), xa_r (k + 6), xa_r (k + 9 + 1), xa_i 0] ∧ h'.1 (k + 9 + 1) = xa_a 3 (fun _ => 0) ∧ h'.1 (k + 11) = xa_o 5 [xa_r (k + 11 + 1), xa_r (k + 11 + 2), xa_r (k + 11 + 3), xa_i 0] ∧ h'.1 (k + 11 + 1) = xa_a 240 (fun _ => 0) ∧ h'.1 (k + 11 + 2) = xa_a 4 (fun _ => 0) ∧ h'.1 (k + 11 + 3) = xa_a 120 (fun _ => 0) ∧ h'.1 (k + 15) = xa_q 2 (fun j => if j = 1 then some (k + 20) else (fun j => if j = 0 then some (k + 16) else (fun _ => none) j) j) ∧ h'.1 (k + 16) = xa_o 5 [xa_r (k + 16 + 1), xa_r (k + 16 + 2), xa_r (k + 16 + 3), xa_i 0] ∧ h'.1 (k + 16 + 1) = xa_a 240 (fun _ => 0) ∧ h'.1 (k + 16 + 2) = xa_a 4 (fun _ => 0) ∧ h'.1 (k + 16 + 3) = xa_a 120 (fun _ => 0) ∧ h'.1 (k + 20) = xa_o 5 [xa_r (k + 20 + 1), xa_r (k + 20 + 2), xa_r (k + 20 + 3), xa_i 0] ∧ h'.1 (k + 20 + 1) = xa_a 240 (fun _ => 0) ∧ h'.1 (k + 20 + 2) = xa_a 4 (fun _ => 0) ∧ h'.1 (k + 20 + 3) = xa_a 120 (fun _ => 0) ∧ h'.1 (k + 24) = xa_o 8 [xa_r (k + 24 + 4), xa_r (k + 3), xa_r (k + 24 + 1), xa_r (k + 24 + 2), xa_r (k + 24 + 3), xa_i 0, xa_i 0] ∧ h'.1 (k + 24 + 1) = xa_a 183 (fun _ => 0) ∧ h'.1 (k + 24 + 2) = xa_a 61 (fun _ => 0) ∧ h'.1 (k + 24 + 3) = xa_a 61 (fun _ => 0) ∧ h'.1 (k + 24 + 4) = xa_o 4 [xa_r (k + 3), xa_r (k + 24 + 4 + 1), xa_r (k + 24 + 4 + 2), xa_i 0, xa_i 0] ∧ h'.1 (k + 24 + 4 + 1) = xa_a 3 (fun _ => 0) ∧ h'.1 (k + 24 + 4 + 2) = xa_a 2 (fun _ => 0) ∧ h'.1 (k + 31) = xa_a 4 (fun _ => 0) ∧ h'.1 (k + 32) = xa_o 1 [xa_r (k + 3), xa_r (k + 32 + 1)] ∧ h'.1 (k + 32 + 1) = xa_o 4 [xa_r (k + 3), xa_r (k + 32 + 1 + 1), xa_r (k + 32 + 1 + 2), xa_i 0, xa_i 0] ∧ h'.1 (k + 32 + 1 + 1) = xa_a 3 (fun _ => 0) ∧ h'.1 (k + 32 + 1 + 2) = xa_a 2 (fun _ => 0) ∧ h'.1 (k + 36) = xa_o 3 [xa_r (k + 3), xa_r (k + 36 + 4), xa_r (k + 36 + 1), xa_r (k + 36 + 2), xa_r (k + 36 + 3), xa_i 0, xa_i 0, xa_i 0, xa_i 0, xa_i 0, xa_i 0, xa_i 0] ∧ h'.1 (k + 36 + 1) = xa_a 360 (fun _ => 0) ∧ h'.1 (k + 36 + 2) = xa_a 360 (fun _ => 0) ∧ h'.1 (k + 36 + 3) = xa_a 0 (fun _ => 0) ∧ h'.1 (k + 36 + 4) = xa_o 6 [xa_r (k + 3), xa_r (k + 36 + 4 + 5), xa_i (-1), xa_r (k + 36 + 4 + 1), xa_r (k + 36 + 4 + 2), xa_i 0, xa_i 0, xa_i 0, xa_r (k + 36 + 4 + 3), xa_r (k + 36 + 4 + 4)] ∧ h'.1 (k + 36 + 4 + 1) = xa_a 2 (fun _ => 0) ∧ h'.1 (k + 36 + 4 + 2) = xa_a 2 (fun _ => 0) ∧ h'.1 (k + 36 + 4 + 3) = xa_a 0 (fun _ => 0) ∧ h'.1 (k + 36 + 4 + 4) = xa_a 0 (fun _ => 0) ∧ h'.1 (k + 36 + 4 + 5) = xa_o 4 [xa_r (k + 3), xa_r (k + 36 + 4 + 5 + 1), xa_r (k + 36 + 4 + 5 + 2), xa_i 0, xa_i 0] ∧ h'.1 (k + 36 + 4 + 5 + 1) = xa_a 3 (fun _ => 0) ∧ h'.1 (k + 36 + 4 + 5 + 2) = xa_a 2 (fun _ => 0) ∧ h'.1 (k + 48) = xa_o 3 [xa_r (k + 3), xa_r (k + 48 + 4), xa_r (k + 48 + 1), xa_r (k + 48 + 2), xa_r (k + 48 + 3), xa_i 0, xa_i 0, xa_i 0, xa_i 0, xa_i 0, xa_i 0, xa_i 0] ∧ h'.1 (k + 48 + 1) = xa_a 360 (fun _ => 0) ∧ h'.1 (k + 48 + 2) = xa_a 360 (fun _ => 0) ∧ h'.1 (k + 48 + 3) = xa_a 0 (fun _ => 0) ∧ h'.1 (k + 48 + 4) = xa_o 6 [xa_r (k + 3), xa_r (k + 48 + 4 + 5), xa_i 0, xa_r (k + 48 + 4 + 1), xa_r (k + 48 + 4 + 2), xa_i 0, xa_i 0, xa_i 0, xa_r (k + 48 + 4 + 3), xa_r (k + 48 + 4 + 4)] ∧ h'.1 (k + 48 + 4 + 1) = xa_a 2 (fun _ => 0) ∧ h'.1 (k + 48 + 4 + 2) = xa_a 2 (fun _ => 0) ∧ h'.1 (k + 48 + 4 + 3) = xa_a 0 (fun _ => 0) ∧ h'.1 (k + 48 + 4 + 4) = xa_a 0 (fun _ => 0) ∧ h'.1 (k + 48 + 4 + 5) = xa_o 4 [xa_r (k + 3), xa_r (k + 48 + 4 + 5 + 1), xa_r (k + 48 + 4 + 5 + 2), xa_i 0, xa_i 0] ∧ h'.1 (k + 48 + 4 + 5 + 1) = xa_a 3 (fun _ => 0) ∧ h'.1 (k + 48 + 4 + 5 + 2) = xa_a 2 (fun _ => 0) ∧ h'.1 (k + 60) = xa_o 3 [xa_r (k + 3), xa_r (k + 60 + 4), xa_r (k + 60 + 1), xa_r (k + 60 + 2), xa_r (k + 60 + 3), xa_i 0, xa_i 0, xa_i 0, xa_i 0, xa_i 0, xa_i 0, xa_i 0] ∧ h'.1 (k + 60 + 1) = xa_a 360 (fun _ => 0) ∧ h'.1 (k + 60 + 2) = xa_a 360 (fun _ => 0) ∧ h'.1 (k + 60 + 3) = xa_a 0 (fun _ => 0) ∧ h'.1 (k + 60 + 4) = xa_o 6 [xa_r (k + 3), xa_r (k + 60 + 4 + 5), xa_i 1, xa_r (k + 60 + 4 + 1), xa_r (k + 60 + 4 + 2), xa_i 0, xa_i 0, xa_i 0, xa_r (k + 60 + 4 + 3), xa_r (k + 60 + 4 + 4)] ∧ h'.1 (k + 60 + 4 + 1) = xa_a 2 (fun _ => 0) ∧ h'.1 (k + 60 + 4 + 2) = xa_a 2 (fun _ => 0) ∧ h'.1 (k + 60 + 4 + 3) = xa_a 0 (fun _ => 0) ∧ h'.1 (k + 60 + 4 + 4) = xa_a 0 (fun _ => 0) ∧ h'.1 (k + 60 + 4 + 5) = xa_o 4 [xa_r (k + 3), xa_r (k + 60 + 4 + 5 + 1), xa_r (k + 60 + 4 + 5 + 2), xa_i 0, xa_i 0] ∧ h'.1 (k + 60 + 4 + 5 + 1) = xa_a 3 (fun _ => 0) ∧ h'.1 (k + 60 + 4 + 5 + 2) = xa_a 2 (fun _ => 0) ∧ h'.2 = k + 72 ∧ ∀ i, i < k → h'.1 i = h0.1 i)) 120 [some (xa_r k), some (xa_i 2)] [] h 41 2284 := by
  refine xa_aload_n (pc := 120) dX9_init_120 rfl ?_
  refine xa_iconst (pc := 121) dX9_init_121 ?_
  refine xa_newap (pc := 122) (mc0 := 40) (ms0 := 2280) 4 (k + 31) hcn dX9_init_122 rfl (by decide) rfl rfl (fun h1 nh1 ch1 oh1 => ?_)
  have hX0 : h1.1 k = xa_o 9 [xa_r (k + 1), xa_r (k + 3), xa_r (k + 6), xa_r (k + 9), xa_r (k + 11), xa_r (k + 15), xa_i 0, xa_r (k + 24), xa_n, xa_n, xa_n, xa_n, xa_n] := (oh1 _ (by omega)).trans hX0
  have g1 : h1.1 (k + 1) = xa_o 7 [xa_r (k + 1 + 1), xa_i 0] := (oh1 _ (by omega)).trans g1
  have g1_1 : h1.1 (k + 1 + 1) = xa_a 120 (fun _ => 0) := (oh1 _ (by omega)).trans g1_1
  have g3 : h1.1 (k + 3) = xa_o 0 [xa_r (k + 3 + 1), xa_r (k + 3 + 2), xa_i 0, xa_i 0, xa_i (-4), xa_i 0, xa_i 0, xa_i 10] := (oh1 _ (by omega)).trans g3
  have g3_1 : h1.1 (k + 3 + 1) = xa_a 9 (fun _ => 0) := (oh1 _ (by omega)).trans g3_1
  have g3_2 : h1.1 (k + 3 + 2) = xa_a 2 (fun _ => 0) := (oh1 _ (by omega)).trans g3_2
  have g6 : h1.1 (k + 6) = xa_o 0 [xa_r (k + 6 + 1), xa_r (k + 6 + 2), xa_i 0, xa_i 0, xa_i (-4), xa_i 0, xa_i 0, xa_i 10] := (oh1 _ (by omega)).trans g6
  have g6_1 : h1.1 (k + 6 + 1) = xa_a 9 (fun _ => 0) := (oh1 _ (by omega)).trans g6_1
  have g6_2 : h1.1 (k + 6 + 2) = xa_a 2 (fun _ => 0) := (oh1 _ (by omega)).trans g6_2
  have g9 : h1.1 (k + 9) = xa_o 2 [xa_r (k + 1), xa_r (k + 6), xa_r (k + 9 + 1), xa_i 0] := (oh1 _ (by omega)).trans g9
  have g9_1 : h1.1 (k + 9 + 1) = xa_a 3 (fun _ => 0) := (oh1 _ (by omega)).trans g9_1
  have g11 : h1.1 (k + 11) = xa_o 5 [xa_r (k + 11 + 1), xa_r (k + 11 + 2), xa_r (k + 11 + 3), xa_i 0] := (oh1 _ (by omega)).trans g11
  have g11_1 : h1.1 (k + 11 + 1) = xa_a 240 (fun _ => 0) := (oh1 _ (by omega)).trans g11_1
  have g11_2 : h1.1 (k + 11 + 2) = xa_a 4 (fun _ => 0) := (oh1 _ (by omega)).trans g11_2
  have g11_3 : h1.1 (k + 11 + 3) = xa_a 120 (fun _ => 0) := (oh1 _ (by omega)).trans g11_3
  have gQ15 : h1.1 (k + 15) = xa_q 2 (fun j => if j = 1 then some (k + 20) else (fun j => if j = 0 then some (k + 16) else (fun _ => none) j) j) := (oh1 _ (by omega)).trans gQ15
  have g16 : h1.1 (k + 16) = xa_o 5 [xa_r (k + 16 + 1), xa_r (k + 16 + 2), xa_r (k + 16 + 3), xa_i 0] := (oh1 _ (by omega)).trans g16
  have g16_1 : h1.1 (k + 16 + 1) = xa_a 240 (fun _ => 0) := (oh1 _ (by omega)).trans g16_1
  have g16_2 : h1.1 (k + 16 + 2) = xa_a 4 (fun _ => 0) := (oh1 _ (by omega)).trans g16_2
  have g16_3 : h1.1 (k + 16 + 3) = xa_a 120 (fun _ => 0) := (oh1 _ (by omega)).trans g16_3
  have g20 : h1.1 (k + 20) = xa_o 5 [xa_r (k + 20 + 1), xa_r (k + 20 + 2), xa_r (k + 20 + 3), xa_i 0] := (oh1 _ (by omega)).trans g20
  have g20_1 : h1.1 (k + 20 + 1) = xa_a 240 (fun _ => 0) := (oh1 _ (by omega)).trans g20_1
  have g20_2 : h1.1 (k + 20 + 2) = xa_a 4 (fun _ => 0) := (oh1 _ (by omega)).trans g20_2
  have g20_3 : h1.1 (k + 20 + 3) = xa_a 120 (fun _ => 0) := (oh1 _ (by omega)).trans g20_3
  have g24 : h1.1 (k + 24) = xa_o 8 [xa_r (k + 24 + 4), xa_r (k + 3), xa_r (k + 24 + 1), xa_r (k + 24 + 2), xa_r (k + 24 + 3), xa_i 0, xa_i 0] := (oh1 _ (by omega)).trans g24
  have g24_1 : h1.1 (k + 24 + 1) = xa_a 183 (fun _ => 0) := (oh1 _ (by omega)).trans g24_1
  have g24_2 : h1.1 (k + 24 + 2) = xa_a 61 (fun _ => 0) := (oh1 _ (by omega)).trans g24_2
  have g24_3 : h1.1 (k + 24 + 3) = xa_a 61 (fun _ => 0) := (oh1 _ (by omega)).trans g24_3
  have g24_4 : h1.1 (k + 24 + 4) = xa_o 4 [xa_r (k + 3), xa_r (k + 24 + 4 + 1), xa_r (k + 24 + 4 + 2), xa_i 0, xa_i 0] := (oh1 _ (by omega)).trans g24_4
  have g24_4_1 : h1.1 (k + 24 + 4 + 1) = xa_a 3 (fun _ => 0) := (oh1 _ (by omega)).trans g24_4_1
  have g24_4_2 : h1.1 (k + 24 + 4 + 2) = xa_a 2 (fun _ => 0) := (oh1 _ (by omega)).trans g24_4_2
  have gA31 : h1.1 (k + 31) = xa_a 4 (fun _ => 0) := ch1
  have hcn : h1.2 = k + 32 := nh1
  have fr : ∀ i, i < k → h1.1 i = h0.1 i := fun i hi => (oh1 i (by omega)).trans (fr i hi)
  refine xa_putwF (pc := 124) [xa_r (k + 1), xa_r (k + 3), xa_r (k + 6), xa_r (k + 9), xa_r (k + 11), xa_r (k + 15), xa_i 0, xa_r (k + 24), xa_r (k + 31), xa_n, xa_n, xa_n, xa_n] dX9_init_124 rfl flRX9_55 plX9_8 (by omega) (by omega) hX0 trivial rfl rfl (fun h2 nh2 ch2 oh2 => ?_)
  have hX0 : h2.1 k = xa_o 9 [xa_r (k + 1), xa_r (k + 3), xa_r (k + 6), xa_r (k + 9), xa_r (k + 11), xa_r (k + 15), xa_i 0, xa_r (k + 24), xa_r (k + 31), xa_n, xa_n, xa_n, xa_n] := ch2
  have g1 : h2.1 (k + 1) = xa_o 7 [xa_r (k + 1 + 1), xa_i 0] := (oh2 _ (by omega)).trans g1
  have g1_1 : h2.1 (k + 1 + 1) = xa_a 120 (fun _ => 0) := (oh2 _ (by omega)).trans g1_1
  have g3 : h2.1 (k + 3) = xa_o 0 [xa_r (k + 3 + 1), xa_r (k + 3 + 2), xa_i 0, xa_i 0, xa_i (-4), xa_i 0, xa_i 0, xa_i 10] := (oh2 _ (by omega)).trans g3
  have g3_1 : h2.1 (k + 3 + 1) = xa_a 9 (fun _ => 0) := (oh2 _ (by omega)).trans g3_1
  have g3_2 : h2.1 (k + 3 + 2) = xa_a 2 (fun _ => 0) := (oh2 _ (by omega)).trans g3_2
  have g6 : h2.1 (k + 6) = xa_o 0 [xa_r (k + 6 + 1), xa_r (k + 6 + 2), xa_i 0, xa_i 0, xa_i (-4), xa_i 0, xa_i 0, xa_i 10] := (oh2 _ (by omega)).trans g6
  have g6_1 : h2.1 (k + 6 + 1) = xa_a 9 (fun _ => 0) := (oh2 _ (by omega)).trans g6_1
  have g6_2 : h2.1 (k + 6 + 2) = xa_a 2 (fun _ => 0) := (oh2 _ (by omega)).trans g6_2
  have g9 : h2.1 (k + 9) = xa_o 2 [xa_r (k + 1), xa_r (k + 6), xa_r (k + 9 + 1), xa_i 0] := (oh2 _ (by omega)).trans g9
  have g9_1 : h2.1 (k + 9 + 1) = xa_a 3 (fun _ => 0) := (oh2 _ (by omega)).trans g9_1
  have g11 : h2.1 (k + 11) = xa_o 5 [xa_r (k + 11 + 1), xa_r (k + 11 + 2), xa_r (k + 11 + 3), xa_i 0] := (oh2 _ (by omega)).trans g11
  have g11_1 : h2.1 (k + 11 + 1) = xa_a 240 (fun _ => 0) := (oh2 _ (by omega)).trans g11_1
  have g11_2 : h2.1 (k + 11 + 2) = xa_a 4 (fun _ => 0) := (oh2 _ (by omega)).trans g11_2
  have g11_3 : h2.1 (k + 11 + 3) = xa_a 120 (fun _ => 0) := (oh2 _ (by omega)).trans g11_3
  have gQ15 : h2.1 (k + 15) = xa_q 2 (fun j => if j = 1 then some (k + 20) else (fun j => if j = 0 then some (k + 16) else (fun _ => none) j) j) := (oh2 _ (by omega)).trans gQ15
  have g16 : h2.1 (k + 16) = xa_o 5 [xa_r (k + 16 + 1), xa_r (k + 16 + 2), xa_r (k + 16 + 3), xa_i 0] := (oh2 _ (by omega)).trans g16
  have g16_1 : h2.1 (k + 16 + 1) = xa_a 240 (fun _ => 0) := (oh2 _ (by omega)).trans g16_1
  have g16_2 : h2.1 (k + 16 + 2) = xa_a 4 (fun _ => 0) := (oh2 _ (by omega)).trans g16_2
  have g16_3 : h2.1 (k + 16 + 3) = xa_a 120 (fun _ => 0) := (oh2 _ (by omega)).trans g16_3
  have g20 : h2.1 (k + 20) = xa_o 5 [xa_r (k + 20 + 1), xa_r (k + 20 + 2), xa_r (k + 20 + 3), xa_i 0] := (oh2 _ (by omega)).trans g20
  have g20_1 : h2.1 (k + 20 + 1) = xa_a 240 (fun _ => 0) := (oh2 _ (by omega)).trans g20_1
  have g20_2 : h2.1 (k + 20 + 2) = xa_a 4 (fun _ => 0) := (oh2 _ (by omega)).trans g20_2
  have g20_3 : h2.1 (k + 20 + 3) = xa_a 120 (fun _ => 0) := (oh2 _ (by omega)).trans g20_3
  have g24 : h2.1 (k + 24) = xa_o 8 [xa_r (k + 24 + 4), xa_r (k + 3), xa_r (k + 24 + 1), xa_r (k + 24 + 2), xa_r (k + 24 + 3), xa_i 0, xa_i 0] := (oh2 _ (by omega)).trans g24
  have g24_1 : h2.1 (k + 24 + 1) = xa_a 183 (fun _ => 0) := (oh2 _ (by omega)).trans g24_1
  have g24_2 : h2.1 (k + 24 + 2) = xa_a 61 (fun _ => 0) := (oh2 _ (by omega)).trans g24_2
  have g24_3 : h2.1 (k + 24 + 3) = xa_a 61 (fun _ => 0) := (oh2 _ (by omega)).trans g24_3
  have g24_4 : h2.1 (k + 24 + 4) = xa_o 4 [xa_r (k + 3), xa_r (k + 24 + 4 + 1), xa_r (k + 24 + 4 + 2), xa_i 0, xa_i 0] := (oh2 _ (by omega)).trans g24_4
  have g24_4_1 : h2.1 (k + 24 + 4 + 1) = xa_a 3 (fun _ => 0) := (oh2 _ (by omega)).trans g24_4_1
  have g24_4_2 : h2.1 (k + 24 + 4 + 2) = xa_a 2 (fun _ => 0) := (oh2 _ (by omega)).trans g24_4_2
  have gA31 : h2.1 (k + 31) = xa_a 4 (fun _ => 0) := (oh2 _ (by omega)).trans gA31
  have hcn : h2.2 = k + 32 := nh2.trans hcn
  have fr : ∀ i, i < k → h2.1 i = h0.1 i := fun i hi => (oh2 i (by omega)).trans (fr i hi)
  exact c_Cat_cells_8 k hk hcn fr hX0 g1 g1_1 g3 g3_1 g3_2 g6 g6_1 g6_2 g9 g9_1 g11 g11_1 g11_2 g11_3 gQ15 g16 g16_1 g16_2 g16_3 g20 g20_1 g20_2 g20_3 g24 g24_1 g24_2 g24_3 g24_4 g24_4_1 g24_4_2 gA31
theorem c_Cat_cells_6 {G : xa_G} {h0 h : xa_H} (k : Nat) (hk : 2 ≤ k) (hcn : h.2 = k + 16) (fr : ∀ i, i < k → h.1 i = h0.1 i) (hX0 : h.1 k = xa_o 9 [xa_r (k + 1), xa_r (k + 3), xa_r (k + 6), xa_r (k + 9), xa_r (k + 11), xa_r (k + 15), xa_i 0, xa_n, xa_n, xa_n, xa_n, xa_n, xa_n]) (g1 : h.1 (k + 1) = xa_o 7 [xa_r (k + 1 + 1), xa_i 0]) (g1_1 : h.1 (k + 1 + 1) = xa_a 120 (fun _ => 0)) (g3 : h.1 (k + 3) = xa_o 0 [xa_r (k + 3 + 1), xa_r (k + 3 + 2), xa_i 0, xa_i 0, xa_i (-4), xa_i 0, xa_i 0, xa_i 10]) (g3_1 : h.1 (k + 3 + 1) = xa_a 9 (fun _ => 0)) (g3_2 : h.1 (k + 3 + 2) = xa_a 2 (fun _ => 0)) (g6 : h.1 (k + 6) = xa_o 0 [xa_r (k + 6 + 1), xa_r (k + 6 + 2), xa_i 0, xa_i 0, xa_i (-4), xa_i 0, xa_i 0, xa_i 10]) (g6_1 : h.1 (k + 6 + 1) = xa_a 9 (fun _ => 0)) (g6_2 : h.1 (k + 6 + 2) = xa_a 2 (fun _ => 0)) (g9 : h.1 (k + 9) = xa_o 2 [xa_r (k + 1), xa_r (k + 6), xa_r (k + 9 + 1), xa_i 0]) (g9_1 : h.1 (k + 9 + 1) = xa_a 3 (fun _ => 0)) (g11 : h.1 (k + 11) = xa_o 5 [xa_r (k + 11 + 1), xa_r (k + 11 + 2), xa_r (k + 11 + 3), xa_i 0]) (g11_1 : h.1 (k + 11 + 1) = xa_a 240 (fun _ => 0)) (g11_2 : h.1 (k + 11 + 2) = xa_a 4 (fun _ => 0)) (g11_3 : h.1 (k + 11 + 3) = xa_a 120 (fun _ => 0)) (gQ15 : h.1 (k + 15) = xa_q 2 (fun _ => none))  : xa_W G mX9_init (xa_Z G (fun r h' => r = none ∧ h'.1 k = xa_o 9 [xa_r (k + 1), xa_r (k + 3), xa_r (k + 6), xa_r (k + 9), xa_r (k + 11), xa_r (k + 15), xa_i 0, xa_r (k + 24), xa_r (k + 31), xa_r (k + 32), xa_r (k + 36), xa_r (k + 48), xa_r (k + 60)] ∧ h'.1 (k + 1) = xa_o 7 [xa_r (k + 1 + 1), xa_i 0] ∧ h'.1 (k + 1 + 1) = xa_a 120 (fun _ => 0) ∧ h'.1 (k + 3) = xa_o 0 [xa_r (k + 3 + 1), xa_r (k + 3 + 2), xa_i 2, xa_i 1, xa_i (-4), xa_i 0, xa_i 0, xa_i 10] ∧ h'.1 (k + 3 + 1) = xa_a 9 (xa_upf (xa_upf (xa_upf (xa_upf (xa_upf (xa_upf (fun _ => 0) (0 * 3) 1) (0 * 3 + 1) 1) (0 * 3 + 2) 1) (1 * 3) 1) (1 * 3 + 1) 1) (1 * 3 + 2) 1) ∧ h'.1 (k + 3 + 2) = xa_a 2 (xa_upf (fun _ => 0) 0 10) ∧ h'.1 (k + 6) = xa_o 0 [xa_r (k + 6 + 1), xa_r (k + 6 + 2), xa_i 0, xa_i 0, xa_i (-4), xa_i 0, xa_i 0, xa_i 10] ∧ h'.1 (k + 6 + 1) = xa_a 9 (fun _ => 0) ∧ h'.1 (k + 6 + 2) = xa_a 2 (fun _ => 0) ∧ h'.1 (k + 9) = xa_o 2 [xa_r (k + 1), xa_r (k + 6), xa_r (k + 9 + 1), xa_i 0] ∧ h'.1 (k + 9 + 1) = xa_a 3 (fun _ => 0) ∧ h'.1 (k + 11) = xa_o 5 [xa_r (k + 11 + 1), xa_r (k + 11 + 2), xa_r (k + 11 + 3), xa_i 0] ∧ h'.1 (k + 11 + 1) = xa_a 240 (fun _ => 0) ∧ h'.1 (k + 11 + 2) = xa_a 4 (fun _ => 0) ∧ h'.1 (k + 11 + 3) = xa_a 120 (fun _ => 0) ∧ h'.1 (k + 15) = xa_q 2 (fun j => if j = 1 then some (k + 20) else (fun j => if j = 0 then some (k + 16) else (fun _ => none) j) j) ∧ h'.1 (k + 16) = xa_o 5 [xa_r (k + 16 + 1), xa_r (k + 16 + 2), xa_r (k + 16 + 3), xa_i 0] ∧ h'.1 (k + 16 + 1) = xa_a 240 (fun _ => 0) ∧ h'.1 (k + 16 + 2) = xa_a 4 (fun _ => 0) ∧ h'.1 (k + 16 + 3) = xa_a 120 (fun _ => 0) ∧ h'.1 (k + 20) = xa_o 5 [xa_r (k + 20 + 1), xa_r (k + 20 + 2), xa_r (k + 20 + 3), xa_i 0] ∧ h'.1 (k + 20 + 1) = xa_a 240 (fun _ => 0) ∧ h'.1 (k + 20 + 2) = xa_a 4 (fun _ => 0) ∧ h'.1 (k + 20 + 3) = xa_a 120 (fun _ => 0) ∧ h'.1 (k + 24) = xa_o 8 [xa_r (k + 24 + 4), xa_r (k + 3), xa_r (k + 24 + 1), xa_r (k + 24 + 2), xa_r (k + 24 + 3), xa_i 0, xa_i 0] ∧ h'.1 (k + 24 + 1) = xa_a 183 (fun _ => 0) ∧ h'.1 (k + 24 + 2) = xa_a 61 (fun _ => 0) ∧ h'.1 (k + 24 + 3) = xa_a 61 (fun _ => 0) ∧ h'.1 (k + 24 + 4) = xa_o 4 [xa_r (k + 3), xa_r (k + 24 + 4 + 1), xa_r (k + 24 + 4 + 2), xa_i 0, xa_i 0] ∧ h'.1 (k + 24 + 4 + 1) = xa_a 3 (fun _ => 0) ∧ h'.1 (k + 24 + 4 + 2) = xa_a 2 (fun _ => 0) ∧ h'.1 (k + 31) = xa_a 4 (fun _ => 0) ∧ h'.1 (k + 32) = xa_o 1 [xa_r (k + 3), xa_r (k + 32 + 1)] ∧ h'.1 (k + 32 + 1) = xa_o 4 [xa_r (k + 3), xa_r (k + 32 + 1 + 1), xa_r (k + 32 + 1 + 2), xa_i 0, xa_i 0] ∧ h'.1 (k + 32 + 1 + 1) = xa_a 3 (fun _ => 0) ∧ h'.1 (k + 32 + 1 + 2) = xa_a 2 (fun _ => 0) ∧ h'.1 (k + 36) = xa_o 3 [xa_r (k + 3), xa_r (k + 36 + 4), xa_r (k + 36 + 1), xa_r (k + 36 + 2), xa_r (k + 36 + 3), xa_i 0, xa_i 0, xa_i 0, xa_i 0, xa_i 0, xa_i 0, xa_i 0] ∧ h'.1 (k + 36 + 1) = xa_a 360 (fun _ => 0) ∧ h'.1 (k + 36 + 2) = xa_a 360 (fun _ => 0) ∧ h'.1 (k + 36 + 3) = xa_a 0 (fun _ => 0) ∧ h'.1 (k + 36 + 4) = xa_o 6 [xa_r (k + 3), xa_r (k + 36 + 4 + 5), xa_i (-1), xa_r (k + 36 + 4 + 1), xa_r (k + 36 + 4 + 2), xa_i 0, xa_i 0, xa_i 0, xa_r (k + 36 + 4 + 3), xa_r (k + 36 + 4 + 4)] ∧ h'.1 (k + 36 + 4 + 1) = xa_a 2 (fun _ => 0) ∧ h'.1 (k + 36 + 4 + 2) = xa_a 2 (fun _ => 0) ∧ h'.1 (k + 36 + 4 + 3) = xa_a 0 (fun _ => 0) ∧ h'.1 (k + 36 + 4 + 4) = xa_a 0 (fun _ => 0) ∧ h'.1 (k + 36 + 4 + 5) = xa_o 4 [xa_r (k + 3), xa_r (k + 36 + 4 + 5 + 1), xa_r (k + 36 + 4 + 5 + 2), xa_i 0, xa_i 0] ∧ h'.1 (k + 36 + 4 + 5 + 1) = xa_a 3 (fun _ => 0) ∧ h'.1 (k + 36 + 4 + 5 + 2) = xa_a 2 (fun _ => 0) ∧ h'.1 (k + 48) = xa_o 3 [xa_r (k + 3), xa_r (k + 48 + 4), xa_r (k + 48 + 1), xa_r (k + 48 + 2), xa_r (k + 48 + 3), xa_i 0, xa_i 0, xa_i 0, xa_i 0, xa_i 0, xa_i 0, xa_i 0] ∧ h'.1 (k + 48 + 1) = xa_a 360 (fun _ => 0) ∧ h'.1 (k + 48 + 2) = xa_a 360 (fun _ => 0) ∧ h'.1 (k + 48 + 3) = xa_a 0 (fun _ => 0) ∧ h'.1 (k + 48 + 4) = xa_o 6 [xa_r (k + 3), xa_r (k + 48 + 4 + 5), xa_i 0, xa_r (k + 48 + 4 + 1), xa_r (k + 48 + 4 + 2), xa_i 0, xa_i 0, xa_i 0, xa_r (k + 48 + 4 + 3), xa_r (k + 48 + 4 + 4)] ∧ h'.1 (k + 48 + 4 + 1) = xa_a 2 (fun _ => 0) ∧ h'.1 (k + 48 + 4 + 2) = xa_a 2 (fun _ => 0) ∧ h'.1 (k + 48 + 4 + 3) = xa_a 0 (fun _ => 0) ∧ h'.1 (k + 48 + 4 + 4) = xa_a 0 (fun _ => 0) ∧ h'.1 (k + 48 + 4 + 5) = xa_o 4 [xa_r (k + 3), xa_r (k + 48 + 4 + 5 + 1), xa_r (k + 48 + 4 + 5 + 2), xa_i 0, xa_i 0] ∧ h'.1 (k + 48 + 4 + 5 + 1) = xa_a 3 (fun _ => 0) ∧ h'.1 (k + 48 + 4 + 5 + 2) = xa_a 2 (fun _ => 0) ∧ h'.1 (k + 60) = xa_o 3 [xa_r (k + 3), xa_r (k + 60 + 4), xa_r (k + 60 + 1), xa_r (k + 60 + 2), xa_r (k + 60 + 3), xa_i 0, xa_i 0, xa_i 0, xa_i 0, xa_i 0, xa_i 0, xa_i 0] ∧ h'.1 (k + 60 + 1) = xa_a 360 (fun _ => 0) ∧ h'.1 (k + 60 + 2) = xa_a 360 (fun _ => 0) ∧ h'.1 (k + 60 + 3) = xa_a 0 (fun _ => 0) ∧ h'.1 (k + 60 + 4) = xa_o 6 [xa_r (k + 3), xa_r (k + 60 + 4 + 5), xa_i 1, xa_r (k + 60 + 4 + 1), xa_r (k + 60 + 4 + 2), xa_i 0, xa_i 0, xa_i 0, xa_r (k + 60 + 4 + 3), xa_r (k + 60 + 4 + 4)] ∧ h'.1 (k + 60 + 4 + 1) = xa_a 2 (fun _ => 0) ∧ h'.1 (k + 60 + 4 + 2) = xa_a 2 (fun _ => 0) ∧ h'.1 (k + 60 + 4 + 3) = xa_a 0 (fun _ => 0) ∧ h'.1 (k + 60 + 4 + 4) = xa_a 0 (fun _ => 0) ∧ h'.1 (k + 60 + 4 + 5) = xa_o 4 [xa_r (k + 3), xa_r (k + 60 + 4 + 5 + 1), xa_r (k + 60 + 4 + 5 + 2), xa_i 0, xa_i 0] ∧ h'.1 (k + 60 + 4 + 5 + 1) = xa_a 3 (fun _ => 0) ∧ h'.1 (k + 60 + 4 + 5 + 2) = xa_a 2 (fun _ => 0) ∧ h'.2 = k + 72 ∧ ∀ i, i < k → h'.1 i = h0.1 i)) 75 [some (xa_r k), none] [] h 56 3342 := by
  refine xa_iconst (pc := 75) dX9_init_75 ?_
  refine xa_istoren (pc := 76) [some (xa_r k), some (xa_i 0)] dX9_init_76 (by decide) (Nat.le_of_ble_eq_true rfl) rfl rfl ?_
  refine xa_iload_n (pc := 77) dX9_init_77 rfl ?_
  refine xa_aload_n (pc := 78) dX9_init_78 rfl ?_
  refine xa_getfield (pc := 79) dX9_init_79 flRX9_42 (by omega) (by omega) hX0 rfl ?_
  refine xa_alenq (pc := 82) dX9_init_82 (by omega) (by omega) gQ15 ?_
  refine xa_top (y := 2) rfl ?_
  refine xa_icmp_ge (pc := 83) (tgt := 105) dX9_init_83 (by decide) (by decide) (by decide) (fun c_83 => ?_) (fun c_83 => ?_)
  · skip
    exfalso; omega
  · skip
    refine xa_aload_n (pc := 86) dX9_init_86 rfl ?_
    refine xa_getfield (pc := 87) dX9_init_87 flRX9_42 (by omega) (by omega) hX0 rfl ?_
    refine xa_iload_n (pc := 90) dX9_init_90 rfl ?_
    refine xa_newo (pc := 91) (ci := 5) (C := RX5) (T := TX5) (N := 4) (fs := [xa_n, xa_n, xa_n, xa_i 0]) (mc0 := 55) (ms0 := 3338) (k + 16) hcn dX9_init_91 rfl wcX5 tyX5_ok clRX9_35 inRX5 ziRX5 (fun j hj => by rcases (show j = 0 ∨ j = 1 ∨ j = 2 ∨ j = 3 by omega) with rfl | rfl | rfl | rfl <;> rfl) rfl rfl rfl (fun h1 nh1 ch1 oh1 => ?_)
    have hX0 : h1.1 k = xa_o 9 [xa_r (k + 1), xa_r (k + 3), xa_r (k + 6), xa_r (k + 9), xa_r (k + 11), xa_r (k + 15), xa_i 0, xa_n, xa_n, xa_n, xa_n, xa_n, xa_n] := (oh1 _ (by omega)).trans hX0
    have g1 : h1.1 (k + 1) = xa_o 7 [xa_r (k + 1 + 1), xa_i 0] := (oh1 _ (by omega)).trans g1
    have g1_1 : h1.1 (k + 1 + 1) = xa_a 120 (fun _ => 0) := (oh1 _ (by omega)).trans g1_1
    have g3 : h1.1 (k + 3) = xa_o 0 [xa_r (k + 3 + 1), xa_r (k + 3 + 2), xa_i 0, xa_i 0, xa_i (-4), xa_i 0, xa_i 0, xa_i 10] := (oh1 _ (by omega)).trans g3
    have g3_1 : h1.1 (k + 3 + 1) = xa_a 9 (fun _ => 0) := (oh1 _ (by omega)).trans g3_1
    have g3_2 : h1.1 (k + 3 + 2) = xa_a 2 (fun _ => 0) := (oh1 _ (by omega)).trans g3_2
    have g6 : h1.1 (k + 6) = xa_o 0 [xa_r (k + 6 + 1), xa_r (k + 6 + 2), xa_i 0, xa_i 0, xa_i (-4), xa_i 0, xa_i 0, xa_i 10] := (oh1 _ (by omega)).trans g6
    have g6_1 : h1.1 (k + 6 + 1) = xa_a 9 (fun _ => 0) := (oh1 _ (by omega)).trans g6_1
    have g6_2 : h1.1 (k + 6 + 2) = xa_a 2 (fun _ => 0) := (oh1 _ (by omega)).trans g6_2
    have g9 : h1.1 (k + 9) = xa_o 2 [xa_r (k + 1), xa_r (k + 6), xa_r (k + 9 + 1), xa_i 0] := (oh1 _ (by omega)).trans g9
    have g9_1 : h1.1 (k + 9 + 1) = xa_a 3 (fun _ => 0) := (oh1 _ (by omega)).trans g9_1
    have g11 : h1.1 (k + 11) = xa_o 5 [xa_r (k + 11 + 1), xa_r (k + 11 + 2), xa_r (k + 11 + 3), xa_i 0] := (oh1 _ (by omega)).trans g11
    have g11_1 : h1.1 (k + 11 + 1) = xa_a 240 (fun _ => 0) := (oh1 _ (by omega)).trans g11_1
    have g11_2 : h1.1 (k + 11 + 2) = xa_a 4 (fun _ => 0) := (oh1 _ (by omega)).trans g11_2
    have g11_3 : h1.1 (k + 11 + 3) = xa_a 120 (fun _ => 0) := (oh1 _ (by omega)).trans g11_3
    have gQ15 : h1.1 (k + 15) = xa_q 2 (fun _ => none) := (oh1 _ (by omega)).trans gQ15
    have gO16 : h1.1 (k + 16) = xa_o 5 [xa_n, xa_n, xa_n, xa_i 0] := ch1
    have hcn : h1.2 = k + 17 := nh1
    have fr : ∀ i, i < k → h1.1 i = h0.1 i := fun i hi => (oh1 i (by omega)).trans (fr i hi)
    refine xa_dup (pc := 94) dX9_init_94 rfl ?_
    refine xa_callI (pc := 95) (as := []) (rest := [xa_r (k + 16), xa_i 0, xa_r (k + 15)]) (k := (k + 16)) dX9_init_95 ⟨qX5_init.1, qX5_init.2.1, qX5_init.2.2, by decide, by decide⟩ rfl rfl lkRX9_37 imX5_init rfl rfl (Nat.le_of_ble_eq_true rfl) (Nat.le_of_ble_eq_true rfl) (Nat.le_of_ble_eq_true rfl) (c_Sheet_init _ (by omega) (by omega) gO16) (fun r h' hq => ?_)
    obtain ⟨rfl, ⟨g16, g16_1, g16_2, g16_3, -, -⟩, hqn, hqf⟩ := hq
    have hX0 : h'.1 k = xa_o 9 [xa_r (k + 1), xa_r (k + 3), xa_r (k + 6), xa_r (k + 9), xa_r (k + 11), xa_r (k + 15), xa_i 0, xa_n, xa_n, xa_n, xa_n, xa_n, xa_n] := (hqf _ (by omega)).trans hX0
    have g1 : h'.1 (k + 1) = xa_o 7 [xa_r (k + 1 + 1), xa_i 0] := (hqf _ (by omega)).trans g1
    have g1_1 : h'.1 (k + 1 + 1) = xa_a 120 (fun _ => 0) := (hqf _ (by omega)).trans g1_1
    have g3 : h'.1 (k + 3) = xa_o 0 [xa_r (k + 3 + 1), xa_r (k + 3 + 2), xa_i 0, xa_i 0, xa_i (-4), xa_i 0, xa_i 0, xa_i 10] := (hqf _ (by omega)).trans g3
    have g3_1 : h'.1 (k + 3 + 1) = xa_a 9 (fun _ => 0) := (hqf _ (by omega)).trans g3_1
    have g3_2 : h'.1 (k + 3 + 2) = xa_a 2 (fun _ => 0) := (hqf _ (by omega)).trans g3_2
    have g6 : h'.1 (k + 6) = xa_o 0 [xa_r (k + 6 + 1), xa_r (k + 6 + 2), xa_i 0, xa_i 0, xa_i (-4), xa_i 0, xa_i 0, xa_i 10] := (hqf _ (by omega)).trans g6
    have g6_1 : h'.1 (k + 6 + 1) = xa_a 9 (fun _ => 0) := (hqf _ (by omega)).trans g6_1
    have g6_2 : h'.1 (k + 6 + 2) = xa_a 2 (fun _ => 0) := (hqf _ (by omega)).trans g6_2
    have g9 : h'.1 (k + 9) = xa_o 2 [xa_r (k + 1), xa_r (k + 6), xa_r (k + 9 + 1), xa_i 0] := (hqf _ (by omega)).trans g9
    have g9_1 : h'.1 (k + 9 + 1) = xa_a 3 (fun _ => 0) := (hqf _ (by omega)).trans g9_1
    have g11 : h'.1 (k + 11) = xa_o 5 [xa_r (k + 11 + 1), xa_r (k + 11 + 2), xa_r (k + 11 + 3), xa_i 0] := (hqf _ (by omega)).trans g11
    have g11_1 : h'.1 (k + 11 + 1) = xa_a 240 (fun _ => 0) := (hqf _ (by omega)).trans g11_1
    have g11_2 : h'.1 (k + 11 + 2) = xa_a 4 (fun _ => 0) := (hqf _ (by omega)).trans g11_2
    have g11_3 : h'.1 (k + 11 + 3) = xa_a 120 (fun _ => 0) := (hqf _ (by omega)).trans g11_3
    have gQ15 : h'.1 (k + 15) = xa_q 2 (fun _ => none) := (hqf _ (by omega)).trans gQ15
    have g16 : h'.1 (k + 16) = xa_o 5 [xa_r (k + 16 + 1), xa_r (k + 16 + 2), xa_r (k + 16 + 3), xa_i 0] := g16
    have g16_1 : h'.1 (k + 16 + 1) = xa_a 240 (fun _ => 0) := g16_1
    have g16_2 : h'.1 (k + 16 + 2) = xa_a 4 (fun _ => 0) := g16_2
    have g16_3 : h'.1 (k + 16 + 3) = xa_a 120 (fun _ => 0) := g16_3
    have hcn : h'.2 = k + 20 := by omega
    have fr : ∀ i, i < k → h'.1 i = h0.1 i := fun i hi => (hqf i (by omega)).trans (fr i hi)
    refine xa_aastw (pc := 98) dX9_init_98 (by omega) (by omega) gQ15 (by omega) (by omega) (by omega) (by omega) g16 (fun h2 nh2 ch2 oh2 => ?_)
    have gQ15 : h2.1 (k + 15) = xa_q 2 (fun j => if j = 0 then some (k + 16) else (fun _ => none) j) := ch2
    have hX0 : h2.1 k = xa_o 9 [xa_r (k + 1), xa_r (k + 3), xa_r (k + 6), xa_r (k + 9), xa_r (k + 11), xa_r (k + 15), xa_i 0, xa_n, xa_n, xa_n, xa_n, xa_n, xa_n] := (oh2 _ (by omega)).trans hX0
    have g1 : h2.1 (k + 1) = xa_o 7 [xa_r (k + 1 + 1), xa_i 0] := (oh2 _ (by omega)).trans g1
    have g1_1 : h2.1 (k + 1 + 1) = xa_a 120 (fun _ => 0) := (oh2 _ (by omega)).trans g1_1
    have g3 : h2.1 (k + 3) = xa_o 0 [xa_r (k + 3 + 1), xa_r (k + 3 + 2), xa_i 0, xa_i 0, xa_i (-4), xa_i 0, xa_i 0, xa_i 10] := (oh2 _ (by omega)).trans g3
    have g3_1 : h2.1 (k + 3 + 1) = xa_a 9 (fun _ => 0) := (oh2 _ (by omega)).trans g3_1
    have g3_2 : h2.1 (k + 3 + 2) = xa_a 2 (fun _ => 0) := (oh2 _ (by omega)).trans g3_2
    have g6 : h2.1 (k + 6) = xa_o 0 [xa_r (k + 6 + 1), xa_r (k + 6 + 2), xa_i 0, xa_i 0, xa_i (-4), xa_i 0, xa_i 0, xa_i 10] := (oh2 _ (by omega)).trans g6
    have g6_1 : h2.1 (k + 6 + 1) = xa_a 9 (fun _ => 0) := (oh2 _ (by omega)).trans g6_1
    have g6_2 : h2.1 (k + 6 + 2) = xa_a 2 (fun _ => 0) := (oh2 _ (by omega)).trans g6_2
    have g9 : h2.1 (k + 9) = xa_o 2 [xa_r (k + 1), xa_r (k + 6), xa_r (k + 9 + 1), xa_i 0] := (oh2 _ (by omega)).trans g9
    have g9_1 : h2.1 (k + 9 + 1) = xa_a 3 (fun _ => 0) := (oh2 _ (by omega)).trans g9_1
    have g11 : h2.1 (k + 11) = xa_o 5 [xa_r (k + 11 + 1), xa_r (k + 11 + 2), xa_r (k + 11 + 3), xa_i 0] := (oh2 _ (by omega)).trans g11
    have g11_1 : h2.1 (k + 11 + 1) = xa_a 240 (fun _ => 0) := (oh2 _ (by omega)).trans g11_1
    have g11_2 : h2.1 (k + 11 + 2) = xa_a 4 (fun _ => 0) := (oh2 _ (by omega)).trans g11_2
    have g11_3 : h2.1 (k + 11 + 3) = xa_a 120 (fun _ => 0) := (oh2 _ (by omega)).trans g11_3
    have g16 : h2.1 (k + 16) = xa_o 5 [xa_r (k + 16 + 1), xa_r (k + 16 + 2), xa_r (k + 16 + 3), xa_i 0] := (oh2 _ (by omega)).trans g16
    have g16_1 : h2.1 (k + 16 + 1) = xa_a 240 (fun _ => 0) := (oh2 _ (by omega)).trans g16_1
    have g16_2 : h2.1 (k + 16 + 2) = xa_a 4 (fun _ => 0) := (oh2 _ (by omega)).trans g16_2
    have g16_3 : h2.1 (k + 16 + 3) = xa_a 120 (fun _ => 0) := (oh2 _ (by omega)).trans g16_3
    have hcn : h2.2 = k + 20 := nh2.trans hcn
    have fr : ∀ i, i < k → h2.1 i = h0.1 i := fun i hi => (oh2 i (by omega)).trans (fr i hi)
    refine xa_iincw (pc := 99) (y := 1) [some (xa_r k), some (xa_i 1)] dX9_init_99 (by decide) rfl rfl rfl rfl ?_
    refine xa_goto (pc := 102) (tgt := 77) dX9_init_102 (by decide) ?_
    refine xa_iload_n (pc := 77) dX9_init_77 rfl ?_
    refine xa_aload_n (pc := 78) dX9_init_78 rfl ?_
    refine xa_getfield (pc := 79) dX9_init_79 flRX9_42 (by omega) (by omega) hX0 rfl ?_
    refine xa_alenq (pc := 82) dX9_init_82 (by omega) (by omega) gQ15 ?_
    refine xa_top (y := 2) rfl ?_
    refine xa_icmp_ge (pc := 83) (tgt := 105) dX9_init_83 (by decide) (by decide) (by decide) (fun c_83 => ?_) (fun c_83 => ?_)
    · skip
      exfalso; omega
    · skip
      refine xa_aload_n (pc := 86) dX9_init_86 rfl ?_
      refine xa_getfield (pc := 87) dX9_init_87 flRX9_42 (by omega) (by omega) hX0 rfl ?_
      refine xa_iload_n (pc := 90) dX9_init_90 rfl ?_
      refine xa_newo (pc := 91) (ci := 5) (C := RX5) (T := TX5) (N := 4) (fs := [xa_n, xa_n, xa_n, xa_i 0]) (mc0 := 51) (ms0 := 2970) (k + 20) hcn dX9_init_91 rfl wcX5 tyX5_ok clRX9_35 inRX5 ziRX5 (fun j hj => by rcases (show j = 0 ∨ j = 1 ∨ j = 2 ∨ j = 3 by omega) with rfl | rfl | rfl | rfl <;> rfl) rfl rfl rfl (fun h3 nh3 ch3 oh3 => ?_)
      have hX0 : h3.1 k = xa_o 9 [xa_r (k + 1), xa_r (k + 3), xa_r (k + 6), xa_r (k + 9), xa_r (k + 11), xa_r (k + 15), xa_i 0, xa_n, xa_n, xa_n, xa_n, xa_n, xa_n] := (oh3 _ (by omega)).trans hX0
      have g1 : h3.1 (k + 1) = xa_o 7 [xa_r (k + 1 + 1), xa_i 0] := (oh3 _ (by omega)).trans g1
      have g1_1 : h3.1 (k + 1 + 1) = xa_a 120 (fun _ => 0) := (oh3 _ (by omega)).trans g1_1
      have g3 : h3.1 (k + 3) = xa_o 0 [xa_r (k + 3 + 1), xa_r (k + 3 + 2), xa_i 0, xa_i 0, xa_i (-4), xa_i 0, xa_i 0, xa_i 10] := (oh3 _ (by omega)).trans g3
      have g3_1 : h3.1 (k + 3 + 1) = xa_a 9 (fun _ => 0) := (oh3 _ (by omega)).trans g3_1
      have g3_2 : h3.1 (k + 3 + 2) = xa_a 2 (fun _ => 0) := (oh3 _ (by omega)).trans g3_2
      have g6 : h3.1 (k + 6) = xa_o 0 [xa_r (k + 6 + 1), xa_r (k + 6 + 2), xa_i 0, xa_i 0, xa_i (-4), xa_i 0, xa_i 0, xa_i 10] := (oh3 _ (by omega)).trans g6
      have g6_1 : h3.1 (k + 6 + 1) = xa_a 9 (fun _ => 0) := (oh3 _ (by omega)).trans g6_1
      have g6_2 : h3.1 (k + 6 + 2) = xa_a 2 (fun _ => 0) := (oh3 _ (by omega)).trans g6_2
      have g9 : h3.1 (k + 9) = xa_o 2 [xa_r (k + 1), xa_r (k + 6), xa_r (k + 9 + 1), xa_i 0] := (oh3 _ (by omega)).trans g9
      have g9_1 : h3.1 (k + 9 + 1) = xa_a 3 (fun _ => 0) := (oh3 _ (by omega)).trans g9_1
      have g11 : h3.1 (k + 11) = xa_o 5 [xa_r (k + 11 + 1), xa_r (k + 11 + 2), xa_r (k + 11 + 3), xa_i 0] := (oh3 _ (by omega)).trans g11
      have g11_1 : h3.1 (k + 11 + 1) = xa_a 240 (fun _ => 0) := (oh3 _ (by omega)).trans g11_1
      have g11_2 : h3.1 (k + 11 + 2) = xa_a 4 (fun _ => 0) := (oh3 _ (by omega)).trans g11_2
      have g11_3 : h3.1 (k + 11 + 3) = xa_a 120 (fun _ => 0) := (oh3 _ (by omega)).trans g11_3
      have gQ15 : h3.1 (k + 15) = xa_q 2 (fun j => if j = 0 then some (k + 16) else (fun _ => none) j) := (oh3 _ (by omega)).trans gQ15
      have g16 : h3.1 (k + 16) = xa_o 5 [xa_r (k + 16 + 1), xa_r (k + 16 + 2), xa_r (k + 16 + 3), xa_i 0] := (oh3 _ (by omega)).trans g16
      have g16_1 : h3.1 (k + 16 + 1) = xa_a 240 (fun _ => 0) := (oh3 _ (by omega)).trans g16_1
      have g16_2 : h3.1 (k + 16 + 2) = xa_a 4 (fun _ => 0) := (oh3 _ (by omega)).trans g16_2
      have g16_3 : h3.1 (k + 16 + 3) = xa_a 120 (fun _ => 0) := (oh3 _ (by omega)).trans g16_3
      have gO20 : h3.1 (k + 20) = xa_o 5 [xa_n, xa_n, xa_n, xa_i 0] := ch3
      have hcn : h3.2 = k + 21 := nh3
      have fr : ∀ i, i < k → h3.1 i = h0.1 i := fun i hi => (oh3 i (by omega)).trans (fr i hi)
      refine xa_dup (pc := 94) dX9_init_94 rfl ?_
      refine xa_callI (pc := 95) (as := []) (rest := [xa_r (k + 20), xa_i 1, xa_r (k + 15)]) (k := (k + 20)) dX9_init_95 ⟨qX5_init.1, qX5_init.2.1, qX5_init.2.2, by decide, by decide⟩ rfl rfl lkRX9_37 imX5_init rfl rfl (Nat.le_of_ble_eq_true rfl) (Nat.le_of_ble_eq_true rfl) (Nat.le_of_ble_eq_true rfl) (c_Sheet_init _ (by omega) (by omega) gO20) (fun r h' hq => ?_)
      obtain ⟨rfl, ⟨g20, g20_1, g20_2, g20_3, -, -⟩, hqn, hqf⟩ := hq
      have hX0 : h'.1 k = xa_o 9 [xa_r (k + 1), xa_r (k + 3), xa_r (k + 6), xa_r (k + 9), xa_r (k + 11), xa_r (k + 15), xa_i 0, xa_n, xa_n, xa_n, xa_n, xa_n, xa_n] := (hqf _ (by omega)).trans hX0
      have g1 : h'.1 (k + 1) = xa_o 7 [xa_r (k + 1 + 1), xa_i 0] := (hqf _ (by omega)).trans g1
      have g1_1 : h'.1 (k + 1 + 1) = xa_a 120 (fun _ => 0) := (hqf _ (by omega)).trans g1_1
      have g3 : h'.1 (k + 3) = xa_o 0 [xa_r (k + 3 + 1), xa_r (k + 3 + 2), xa_i 0, xa_i 0, xa_i (-4), xa_i 0, xa_i 0, xa_i 10] := (hqf _ (by omega)).trans g3
      have g3_1 : h'.1 (k + 3 + 1) = xa_a 9 (fun _ => 0) := (hqf _ (by omega)).trans g3_1
      have g3_2 : h'.1 (k + 3 + 2) = xa_a 2 (fun _ => 0) := (hqf _ (by omega)).trans g3_2
      have g6 : h'.1 (k + 6) = xa_o 0 [xa_r (k + 6 + 1), xa_r (k + 6 + 2), xa_i 0, xa_i 0, xa_i (-4), xa_i 0, xa_i 0, xa_i 10] := (hqf _ (by omega)).trans g6
      have g6_1 : h'.1 (k + 6 + 1) = xa_a 9 (fun _ => 0) := (hqf _ (by omega)).trans g6_1
      have g6_2 : h'.1 (k + 6 + 2) = xa_a 2 (fun _ => 0) := (hqf _ (by omega)).trans g6_2
      have g9 : h'.1 (k + 9) = xa_o 2 [xa_r (k + 1), xa_r (k + 6), xa_r (k + 9 + 1), xa_i 0] := (hqf _ (by omega)).trans g9
      have g9_1 : h'.1 (k + 9 + 1) = xa_a 3 (fun _ => 0) := (hqf _ (by omega)).trans g9_1
      have g11 : h'.1 (k + 11) = xa_o 5 [xa_r (k + 11 + 1), xa_r (k + 11 + 2), xa_r (k + 11 + 3), xa_i 0] := (hqf _ (by omega)).trans g11
      have g11_1 : h'.1 (k + 11 + 1) = xa_a 240 (fun _ => 0) := (hqf _ (by omega)).trans g11_1
      have g11_2 : h'.1 (k + 11 + 2) = xa_a 4 (fun _ => 0) := (hqf _ (by omega)).trans g11_2
      have g11_3 : h'.1 (k + 11 + 3) = xa_a 120 (fun _ => 0) := (hqf _ (by omega)).trans g11_3
      have gQ15 : h'.1 (k + 15) = xa_q 2 (fun j => if j = 0 then some (k + 16) else (fun _ => none) j) := (hqf _ (by omega)).trans gQ15
      have g16 : h'.1 (k + 16) = xa_o 5 [xa_r (k + 16 + 1), xa_r (k + 16 + 2), xa_r (k + 16 + 3), xa_i 0] := (hqf _ (by omega)).trans g16
      have g16_1 : h'.1 (k + 16 + 1) = xa_a 240 (fun _ => 0) := (hqf _ (by omega)).trans g16_1
      have g16_2 : h'.1 (k + 16 + 2) = xa_a 4 (fun _ => 0) := (hqf _ (by omega)).trans g16_2
      have g16_3 : h'.1 (k + 16 + 3) = xa_a 120 (fun _ => 0) := (hqf _ (by omega)).trans g16_3
      have g20 : h'.1 (k + 20) = xa_o 5 [xa_r (k + 20 + 1), xa_r (k + 20 + 2), xa_r (k + 20 + 3), xa_i 0] := g20
      have g20_1 : h'.1 (k + 20 + 1) = xa_a 240 (fun _ => 0) := g20_1
      have g20_2 : h'.1 (k + 20 + 2) = xa_a 4 (fun _ => 0) := g20_2
      have g20_3 : h'.1 (k + 20 + 3) = xa_a 120 (fun _ => 0) := g20_3
      have hcn : h'.2 = k + 24 := by omega
      have fr : ∀ i, i < k → h'.1 i = h0.1 i := fun i hi => (hqf i (by omega)).trans (fr i hi)
      refine xa_aastw (pc := 98) dX9_init_98 (by omega) (by omega) gQ15 (by omega) (by omega) (by omega) (by omega) g20 (fun h4 nh4 ch4 oh4 => ?_)
      have gQ15 : h4.1 (k + 15) = xa_q 2 (fun j => if j = 1 then some (k + 20) else (fun j => if j = 0 then some (k + 16) else (fun _ => none) j) j) := ch4
      have hX0 : h4.1 k = xa_o 9 [xa_r (k + 1), xa_r (k + 3), xa_r (k + 6), xa_r (k + 9), xa_r (k + 11), xa_r (k + 15), xa_i 0, xa_n, xa_n, xa_n, xa_n, xa_n, xa_n] := (oh4 _ (by omega)).trans hX0
      have g1 : h4.1 (k + 1) = xa_o 7 [xa_r (k + 1 + 1), xa_i 0] := (oh4 _ (by omega)).trans g1
      have g1_1 : h4.1 (k + 1 + 1) = xa_a 120 (fun _ => 0) := (oh4 _ (by omega)).trans g1_1
      have g3 : h4.1 (k + 3) = xa_o 0 [xa_r (k + 3 + 1), xa_r (k + 3 + 2), xa_i 0, xa_i 0, xa_i (-4), xa_i 0, xa_i 0, xa_i 10] := (oh4 _ (by omega)).trans g3
      have g3_1 : h4.1 (k + 3 + 1) = xa_a 9 (fun _ => 0) := (oh4 _ (by omega)).trans g3_1
      have g3_2 : h4.1 (k + 3 + 2) = xa_a 2 (fun _ => 0) := (oh4 _ (by omega)).trans g3_2
      have g6 : h4.1 (k + 6) = xa_o 0 [xa_r (k + 6 + 1), xa_r (k + 6 + 2), xa_i 0, xa_i 0, xa_i (-4), xa_i 0, xa_i 0, xa_i 10] := (oh4 _ (by omega)).trans g6
      have g6_1 : h4.1 (k + 6 + 1) = xa_a 9 (fun _ => 0) := (oh4 _ (by omega)).trans g6_1
      have g6_2 : h4.1 (k + 6 + 2) = xa_a 2 (fun _ => 0) := (oh4 _ (by omega)).trans g6_2
      have g9 : h4.1 (k + 9) = xa_o 2 [xa_r (k + 1), xa_r (k + 6), xa_r (k + 9 + 1), xa_i 0] := (oh4 _ (by omega)).trans g9
      have g9_1 : h4.1 (k + 9 + 1) = xa_a 3 (fun _ => 0) := (oh4 _ (by omega)).trans g9_1
      have g11 : h4.1 (k + 11) = xa_o 5 [xa_r (k + 11 + 1), xa_r (k + 11 + 2), xa_r (k + 11 + 3), xa_i 0] := (oh4 _ (by omega)).trans g11
      have g11_1 : h4.1 (k + 11 + 1) = xa_a 240 (fun _ => 0) := (oh4 _ (by omega)).trans g11_1
      have g11_2 : h4.1 (k + 11 + 2) = xa_a 4 (fun _ => 0) := (oh4 _ (by omega)).trans g11_2
      have g11_3 : h4.1 (k + 11 + 3) = xa_a 120 (fun _ => 0) := (oh4 _ (by omega)).trans g11_3
      have g16 : h4.1 (k + 16) = xa_o 5 [xa_r (k + 16 + 1), xa_r (k + 16 + 2), xa_r (k + 16 + 3), xa_i 0] := (oh4 _ (by omega)).trans g16
      have g16_1 : h4.1 (k + 16 + 1) = xa_a 240 (fun _ => 0) := (oh4 _ (by omega)).trans g16_1
      have g16_2 : h4.1 (k + 16 + 2) = xa_a 4 (fun _ => 0) := (oh4 _ (by omega)).trans g16_2
      have g16_3 : h4.1 (k + 16 + 3) = xa_a 120 (fun _ => 0) := (oh4 _ (by omega)).trans g16_3
      have g20 : h4.1 (k + 20) = xa_o 5 [xa_r (k + 20 + 1), xa_r (k + 20 + 2), xa_r (k + 20 + 3), xa_i 0] := (oh4 _ (by omega)).trans g20
      have g20_1 : h4.1 (k + 20 + 1) = xa_a 240 (fun _ => 0) := (oh4 _ (by omega)).trans g20_1
      have g20_2 : h4.1 (k + 20 + 2) = xa_a 4 (fun _ => 0) := (oh4 _ (by omega)).trans g20_2
      have g20_3 : h4.1 (k + 20 + 3) = xa_a 120 (fun _ => 0) := (oh4 _ (by omega)).trans g20_3
      have hcn : h4.2 = k + 24 := nh4.trans hcn
      have fr : ∀ i, i < k → h4.1 i = h0.1 i := fun i hi => (oh4 i (by omega)).trans (fr i hi)
      refine xa_iincw (pc := 99) (y := 2) [some (xa_r k), some (xa_i 2)] dX9_init_99 (by decide) rfl rfl rfl rfl ?_
      refine xa_goto (pc := 102) (tgt := 77) dX9_init_102 (by decide) ?_
      refine xa_iload_n (pc := 77) dX9_init_77 rfl ?_
      refine xa_aload_n (pc := 78) dX9_init_78 rfl ?_
      refine xa_getfield (pc := 79) dX9_init_79 flRX9_42 (by omega) (by omega) hX0 rfl ?_
      refine xa_alenq (pc := 82) dX9_init_82 (by omega) (by omega) gQ15 ?_
      refine xa_top (y := 2) rfl ?_
      refine xa_icmp_ge (pc := 83) (tgt := 105) dX9_init_83 (by decide) (by decide) (by decide) (fun c_83 => ?_) (fun c_83 => ?_)
      · skip
        refine xa_aload_n (pc := 105) dX9_init_105 rfl ?_
        refine xa_newo (pc := 106) (ci := 8) (C := RX8) (T := TX8) (N := 7) (fs := [xa_n, xa_n, xa_n, xa_n, xa_n, xa_i 0, xa_i 0]) (mc0 := 47) (ms0 := 2599) (k + 24) hcn dX9_init_106 rfl wcX8 tyX8_ok clRX9_46 inRX8 ziRX8 (fun j hj => by rcases (show j = 0 ∨ j = 1 ∨ j = 2 ∨ j = 3 ∨ j = 4 ∨ j = 5 ∨ j = 6 by omega) with rfl | rfl | rfl | rfl | rfl | rfl | rfl <;> rfl) rfl rfl rfl (fun h5 nh5 ch5 oh5 => ?_)
        have hX0 : h5.1 k = xa_o 9 [xa_r (k + 1), xa_r (k + 3), xa_r (k + 6), xa_r (k + 9), xa_r (k + 11), xa_r (k + 15), xa_i 0, xa_n, xa_n, xa_n, xa_n, xa_n, xa_n] := (oh5 _ (by omega)).trans hX0
        have g1 : h5.1 (k + 1) = xa_o 7 [xa_r (k + 1 + 1), xa_i 0] := (oh5 _ (by omega)).trans g1
        have g1_1 : h5.1 (k + 1 + 1) = xa_a 120 (fun _ => 0) := (oh5 _ (by omega)).trans g1_1
        have g3 : h5.1 (k + 3) = xa_o 0 [xa_r (k + 3 + 1), xa_r (k + 3 + 2), xa_i 0, xa_i 0, xa_i (-4), xa_i 0, xa_i 0, xa_i 10] := (oh5 _ (by omega)).trans g3
        have g3_1 : h5.1 (k + 3 + 1) = xa_a 9 (fun _ => 0) := (oh5 _ (by omega)).trans g3_1
        have g3_2 : h5.1 (k + 3 + 2) = xa_a 2 (fun _ => 0) := (oh5 _ (by omega)).trans g3_2
        have g6 : h5.1 (k + 6) = xa_o 0 [xa_r (k + 6 + 1), xa_r (k + 6 + 2), xa_i 0, xa_i 0, xa_i (-4), xa_i 0, xa_i 0, xa_i 10] := (oh5 _ (by omega)).trans g6
        have g6_1 : h5.1 (k + 6 + 1) = xa_a 9 (fun _ => 0) := (oh5 _ (by omega)).trans g6_1
        have g6_2 : h5.1 (k + 6 + 2) = xa_a 2 (fun _ => 0) := (oh5 _ (by omega)).trans g6_2
        have g9 : h5.1 (k + 9) = xa_o 2 [xa_r (k + 1), xa_r (k + 6), xa_r (k + 9 + 1), xa_i 0] := (oh5 _ (by omega)).trans g9
        have g9_1 : h5.1 (k + 9 + 1) = xa_a 3 (fun _ => 0) := (oh5 _ (by omega)).trans g9_1
        have g11 : h5.1 (k + 11) = xa_o 5 [xa_r (k + 11 + 1), xa_r (k + 11 + 2), xa_r (k + 11 + 3), xa_i 0] := (oh5 _ (by omega)).trans g11
        have g11_1 : h5.1 (k + 11 + 1) = xa_a 240 (fun _ => 0) := (oh5 _ (by omega)).trans g11_1
        have g11_2 : h5.1 (k + 11 + 2) = xa_a 4 (fun _ => 0) := (oh5 _ (by omega)).trans g11_2
        have g11_3 : h5.1 (k + 11 + 3) = xa_a 120 (fun _ => 0) := (oh5 _ (by omega)).trans g11_3
        have gQ15 : h5.1 (k + 15) = xa_q 2 (fun j => if j = 1 then some (k + 20) else (fun j => if j = 0 then some (k + 16) else (fun _ => none) j) j) := (oh5 _ (by omega)).trans gQ15
        have g16 : h5.1 (k + 16) = xa_o 5 [xa_r (k + 16 + 1), xa_r (k + 16 + 2), xa_r (k + 16 + 3), xa_i 0] := (oh5 _ (by omega)).trans g16
        have g16_1 : h5.1 (k + 16 + 1) = xa_a 240 (fun _ => 0) := (oh5 _ (by omega)).trans g16_1
        have g16_2 : h5.1 (k + 16 + 2) = xa_a 4 (fun _ => 0) := (oh5 _ (by omega)).trans g16_2
        have g16_3 : h5.1 (k + 16 + 3) = xa_a 120 (fun _ => 0) := (oh5 _ (by omega)).trans g16_3
        have g20 : h5.1 (k + 20) = xa_o 5 [xa_r (k + 20 + 1), xa_r (k + 20 + 2), xa_r (k + 20 + 3), xa_i 0] := (oh5 _ (by omega)).trans g20
        have g20_1 : h5.1 (k + 20 + 1) = xa_a 240 (fun _ => 0) := (oh5 _ (by omega)).trans g20_1
        have g20_2 : h5.1 (k + 20 + 2) = xa_a 4 (fun _ => 0) := (oh5 _ (by omega)).trans g20_2
        have g20_3 : h5.1 (k + 20 + 3) = xa_a 120 (fun _ => 0) := (oh5 _ (by omega)).trans g20_3
        have gO24 : h5.1 (k + 24) = xa_o 8 [xa_n, xa_n, xa_n, xa_n, xa_n, xa_i 0, xa_i 0] := ch5
        have hcn : h5.2 = k + 25 := nh5
        have fr : ∀ i, i < k → h5.1 i = h0.1 i := fun i hi => (oh5 i (by omega)).trans (fr i hi)
        refine xa_dup (pc := 109) dX9_init_109 rfl ?_
        refine xa_aload_n (pc := 110) dX9_init_110 rfl ?_
        refine xa_getfield (pc := 111) dX9_init_111 flRX9_19 (by omega) (by omega) hX0 rfl ?_
        refine xa_callI (pc := 114) (as := [xa_r (k + 3)]) (rest := [xa_r (k + 24), xa_r k]) (k := (k + 24)) dX9_init_114 ⟨qX8_init.1, qX8_init.2.1, qX8_init.2.2, by decide, by decide⟩ rfl rfl lkRX9_48 imX8_init rfl rfl (Nat.le_of_ble_eq_true rfl) (Nat.le_of_ble_eq_true rfl) (Nat.le_of_ble_eq_true rfl) (c_Trace_init _ _ (by omega) (by omega) gO24) (fun r h' hq => ?_)
        obtain ⟨rfl, ⟨⟨g24, g24_1, g24_2, g24_3, -, -⟩, ⟨g24_4, g24_4_1, g24_4_2, -, -⟩⟩, hqn, hqf⟩ := hq
        have hX0 : h'.1 k = xa_o 9 [xa_r (k + 1), xa_r (k + 3), xa_r (k + 6), xa_r (k + 9), xa_r (k + 11), xa_r (k + 15), xa_i 0, xa_n, xa_n, xa_n, xa_n, xa_n, xa_n] := (hqf _ (by omega)).trans hX0
        have g1 : h'.1 (k + 1) = xa_o 7 [xa_r (k + 1 + 1), xa_i 0] := (hqf _ (by omega)).trans g1
        have g1_1 : h'.1 (k + 1 + 1) = xa_a 120 (fun _ => 0) := (hqf _ (by omega)).trans g1_1
        have g3 : h'.1 (k + 3) = xa_o 0 [xa_r (k + 3 + 1), xa_r (k + 3 + 2), xa_i 0, xa_i 0, xa_i (-4), xa_i 0, xa_i 0, xa_i 10] := (hqf _ (by omega)).trans g3
        have g3_1 : h'.1 (k + 3 + 1) = xa_a 9 (fun _ => 0) := (hqf _ (by omega)).trans g3_1
        have g3_2 : h'.1 (k + 3 + 2) = xa_a 2 (fun _ => 0) := (hqf _ (by omega)).trans g3_2
        have g6 : h'.1 (k + 6) = xa_o 0 [xa_r (k + 6 + 1), xa_r (k + 6 + 2), xa_i 0, xa_i 0, xa_i (-4), xa_i 0, xa_i 0, xa_i 10] := (hqf _ (by omega)).trans g6
        have g6_1 : h'.1 (k + 6 + 1) = xa_a 9 (fun _ => 0) := (hqf _ (by omega)).trans g6_1
        have g6_2 : h'.1 (k + 6 + 2) = xa_a 2 (fun _ => 0) := (hqf _ (by omega)).trans g6_2
        have g9 : h'.1 (k + 9) = xa_o 2 [xa_r (k + 1), xa_r (k + 6), xa_r (k + 9 + 1), xa_i 0] := (hqf _ (by omega)).trans g9
        have g9_1 : h'.1 (k + 9 + 1) = xa_a 3 (fun _ => 0) := (hqf _ (by omega)).trans g9_1
        have g11 : h'.1 (k + 11) = xa_o 5 [xa_r (k + 11 + 1), xa_r (k + 11 + 2), xa_r (k + 11 + 3), xa_i 0] := (hqf _ (by omega)).trans g11
        have g11_1 : h'.1 (k + 11 + 1) = xa_a 240 (fun _ => 0) := (hqf _ (by omega)).trans g11_1
        have g11_2 : h'.1 (k + 11 + 2) = xa_a 4 (fun _ => 0) := (hqf _ (by omega)).trans g11_2
        have g11_3 : h'.1 (k + 11 + 3) = xa_a 120 (fun _ => 0) := (hqf _ (by omega)).trans g11_3
        have gQ15 : h'.1 (k + 15) = xa_q 2 (fun j => if j = 1 then some (k + 20) else (fun j => if j = 0 then some (k + 16) else (fun _ => none) j) j) := (hqf _ (by omega)).trans gQ15
        have g16 : h'.1 (k + 16) = xa_o 5 [xa_r (k + 16 + 1), xa_r (k + 16 + 2), xa_r (k + 16 + 3), xa_i 0] := (hqf _ (by omega)).trans g16
        have g16_1 : h'.1 (k + 16 + 1) = xa_a 240 (fun _ => 0) := (hqf _ (by omega)).trans g16_1
        have g16_2 : h'.1 (k + 16 + 2) = xa_a 4 (fun _ => 0) := (hqf _ (by omega)).trans g16_2
        have g16_3 : h'.1 (k + 16 + 3) = xa_a 120 (fun _ => 0) := (hqf _ (by omega)).trans g16_3
        have g20 : h'.1 (k + 20) = xa_o 5 [xa_r (k + 20 + 1), xa_r (k + 20 + 2), xa_r (k + 20 + 3), xa_i 0] := (hqf _ (by omega)).trans g20
        have g20_1 : h'.1 (k + 20 + 1) = xa_a 240 (fun _ => 0) := (hqf _ (by omega)).trans g20_1
        have g20_2 : h'.1 (k + 20 + 2) = xa_a 4 (fun _ => 0) := (hqf _ (by omega)).trans g20_2
        have g20_3 : h'.1 (k + 20 + 3) = xa_a 120 (fun _ => 0) := (hqf _ (by omega)).trans g20_3
        have g24 : h'.1 (k + 24) = xa_o 8 [xa_r (k + 24 + 4), xa_r (k + 3), xa_r (k + 24 + 1), xa_r (k + 24 + 2), xa_r (k + 24 + 3), xa_i 0, xa_i 0] := g24
        have g24_1 : h'.1 (k + 24 + 1) = xa_a 183 (fun _ => 0) := g24_1
        have g24_2 : h'.1 (k + 24 + 2) = xa_a 61 (fun _ => 0) := g24_2
        have g24_3 : h'.1 (k + 24 + 3) = xa_a 61 (fun _ => 0) := g24_3
        have g24_4 : h'.1 (k + 24 + 4) = xa_o 4 [xa_r (k + 3), xa_r (k + 24 + 4 + 1), xa_r (k + 24 + 4 + 2), xa_i 0, xa_i 0] := g24_4
        have g24_4_1 : h'.1 (k + 24 + 4 + 1) = xa_a 3 (fun _ => 0) := g24_4_1
        have g24_4_2 : h'.1 (k + 24 + 4 + 2) = xa_a 2 (fun _ => 0) := g24_4_2
        have hcn : h'.2 = k + 31 := by omega
        have fr : ∀ i, i < k → h'.1 i = h0.1 i := fun i hi => (hqf i (by omega)).trans (fr i hi)
        refine xa_putwF (pc := 117) [xa_r (k + 1), xa_r (k + 3), xa_r (k + 6), xa_r (k + 9), xa_r (k + 11), xa_r (k + 15), xa_i 0, xa_r (k + 24), xa_n, xa_n, xa_n, xa_n, xa_n] dX9_init_117 rfl flRX9_51 plX9_7 (by omega) (by omega) hX0 trivial rfl rfl (fun h6 nh6 ch6 oh6 => ?_)
        have hX0 : h6.1 k = xa_o 9 [xa_r (k + 1), xa_r (k + 3), xa_r (k + 6), xa_r (k + 9), xa_r (k + 11), xa_r (k + 15), xa_i 0, xa_r (k + 24), xa_n, xa_n, xa_n, xa_n, xa_n] := ch6
        have g1 : h6.1 (k + 1) = xa_o 7 [xa_r (k + 1 + 1), xa_i 0] := (oh6 _ (by omega)).trans g1
        have g1_1 : h6.1 (k + 1 + 1) = xa_a 120 (fun _ => 0) := (oh6 _ (by omega)).trans g1_1
        have g3 : h6.1 (k + 3) = xa_o 0 [xa_r (k + 3 + 1), xa_r (k + 3 + 2), xa_i 0, xa_i 0, xa_i (-4), xa_i 0, xa_i 0, xa_i 10] := (oh6 _ (by omega)).trans g3
        have g3_1 : h6.1 (k + 3 + 1) = xa_a 9 (fun _ => 0) := (oh6 _ (by omega)).trans g3_1
        have g3_2 : h6.1 (k + 3 + 2) = xa_a 2 (fun _ => 0) := (oh6 _ (by omega)).trans g3_2
        have g6 : h6.1 (k + 6) = xa_o 0 [xa_r (k + 6 + 1), xa_r (k + 6 + 2), xa_i 0, xa_i 0, xa_i (-4), xa_i 0, xa_i 0, xa_i 10] := (oh6 _ (by omega)).trans g6
        have g6_1 : h6.1 (k + 6 + 1) = xa_a 9 (fun _ => 0) := (oh6 _ (by omega)).trans g6_1
        have g6_2 : h6.1 (k + 6 + 2) = xa_a 2 (fun _ => 0) := (oh6 _ (by omega)).trans g6_2
        have g9 : h6.1 (k + 9) = xa_o 2 [xa_r (k + 1), xa_r (k + 6), xa_r (k + 9 + 1), xa_i 0] := (oh6 _ (by omega)).trans g9
        have g9_1 : h6.1 (k + 9 + 1) = xa_a 3 (fun _ => 0) := (oh6 _ (by omega)).trans g9_1
        have g11 : h6.1 (k + 11) = xa_o 5 [xa_r (k + 11 + 1), xa_r (k + 11 + 2), xa_r (k + 11 + 3), xa_i 0] := (oh6 _ (by omega)).trans g11
        have g11_1 : h6.1 (k + 11 + 1) = xa_a 240 (fun _ => 0) := (oh6 _ (by omega)).trans g11_1
        have g11_2 : h6.1 (k + 11 + 2) = xa_a 4 (fun _ => 0) := (oh6 _ (by omega)).trans g11_2
        have g11_3 : h6.1 (k + 11 + 3) = xa_a 120 (fun _ => 0) := (oh6 _ (by omega)).trans g11_3
        have gQ15 : h6.1 (k + 15) = xa_q 2 (fun j => if j = 1 then some (k + 20) else (fun j => if j = 0 then some (k + 16) else (fun _ => none) j) j) := (oh6 _ (by omega)).trans gQ15
        have g16 : h6.1 (k + 16) = xa_o 5 [xa_r (k + 16 + 1), xa_r (k + 16 + 2), xa_r (k + 16 + 3), xa_i 0] := (oh6 _ (by omega)).trans g16
        have g16_1 : h6.1 (k + 16 + 1) = xa_a 240 (fun _ => 0) := (oh6 _ (by omega)).trans g16_1
        have g16_2 : h6.1 (k + 16 + 2) = xa_a 4 (fun _ => 0) := (oh6 _ (by omega)).trans g16_2
        have g16_3 : h6.1 (k + 16 + 3) = xa_a 120 (fun _ => 0) := (oh6 _ (by omega)).trans g16_3
        have g20 : h6.1 (k + 20) = xa_o 5 [xa_r (k + 20 + 1), xa_r (k + 20 + 2), xa_r (k + 20 + 3), xa_i 0] := (oh6 _ (by omega)).trans g20
        have g20_1 : h6.1 (k + 20 + 1) = xa_a 240 (fun _ => 0) := (oh6 _ (by omega)).trans g20_1
        have g20_2 : h6.1 (k + 20 + 2) = xa_a 4 (fun _ => 0) := (oh6 _ (by omega)).trans g20_2
        have g20_3 : h6.1 (k + 20 + 3) = xa_a 120 (fun _ => 0) := (oh6 _ (by omega)).trans g20_3
        have g24 : h6.1 (k + 24) = xa_o 8 [xa_r (k + 24 + 4), xa_r (k + 3), xa_r (k + 24 + 1), xa_r (k + 24 + 2), xa_r (k + 24 + 3), xa_i 0, xa_i 0] := (oh6 _ (by omega)).trans g24
        have g24_1 : h6.1 (k + 24 + 1) = xa_a 183 (fun _ => 0) := (oh6 _ (by omega)).trans g24_1
        have g24_2 : h6.1 (k + 24 + 2) = xa_a 61 (fun _ => 0) := (oh6 _ (by omega)).trans g24_2
        have g24_3 : h6.1 (k + 24 + 3) = xa_a 61 (fun _ => 0) := (oh6 _ (by omega)).trans g24_3
        have g24_4 : h6.1 (k + 24 + 4) = xa_o 4 [xa_r (k + 3), xa_r (k + 24 + 4 + 1), xa_r (k + 24 + 4 + 2), xa_i 0, xa_i 0] := (oh6 _ (by omega)).trans g24_4
        have g24_4_1 : h6.1 (k + 24 + 4 + 1) = xa_a 3 (fun _ => 0) := (oh6 _ (by omega)).trans g24_4_1
        have g24_4_2 : h6.1 (k + 24 + 4 + 2) = xa_a 2 (fun _ => 0) := (oh6 _ (by omega)).trans g24_4_2
        have hcn : h6.2 = k + 31 := nh6.trans hcn
        have fr : ∀ i, i < k → h6.1 i = h0.1 i := fun i hi => (oh6 i (by omega)).trans (fr i hi)
        exact c_Cat_cells_7 k hk hcn fr hX0 g1 g1_1 g3 g3_1 g3_2 g6 g6_1 g6_2 g9 g9_1 g11 g11_1 g11_2 g11_3 gQ15 g16 g16_1 g16_2 g16_3 g20 g20_1 g20_2 g20_3 g24 g24_1 g24_2 g24_3 g24_4 g24_4_1 g24_4_2
      · skip
        exfalso; omega
theorem c_Cat_cells_5 {G : xa_G} {h0 h : xa_H} (k : Nat) (hk : 2 ≤ k) (hcn : h.2 = k + 15) (fr : ∀ i, i < k → h.1 i = h0.1 i) (hX0 : h.1 k = xa_o 9 [xa_r (k + 1), xa_r (k + 3), xa_r (k + 6), xa_r (k + 9), xa_r (k + 11), xa_n, xa_i 0, xa_n, xa_n, xa_n, xa_n, xa_n, xa_n]) (g1 : h.1 (k + 1) = xa_o 7 [xa_r (k + 1 + 1), xa_i 0]) (g1_1 : h.1 (k + 1 + 1) = xa_a 120 (fun _ => 0)) (g3 : h.1 (k + 3) = xa_o 0 [xa_r (k + 3 + 1), xa_r (k + 3 + 2), xa_i 0, xa_i 0, xa_i (-4), xa_i 0, xa_i 0, xa_i 10]) (g3_1 : h.1 (k + 3 + 1) = xa_a 9 (fun _ => 0)) (g3_2 : h.1 (k + 3 + 2) = xa_a 2 (fun _ => 0)) (g6 : h.1 (k + 6) = xa_o 0 [xa_r (k + 6 + 1), xa_r (k + 6 + 2), xa_i 0, xa_i 0, xa_i (-4), xa_i 0, xa_i 0, xa_i 10]) (g6_1 : h.1 (k + 6 + 1) = xa_a 9 (fun _ => 0)) (g6_2 : h.1 (k + 6 + 2) = xa_a 2 (fun _ => 0)) (g9 : h.1 (k + 9) = xa_o 2 [xa_r (k + 1), xa_r (k + 6), xa_r (k + 9 + 1), xa_i 0]) (g9_1 : h.1 (k + 9 + 1) = xa_a 3 (fun _ => 0)) (g11 : h.1 (k + 11) = xa_o 5 [xa_r (k + 11 + 1), xa_r (k + 11 + 2), xa_r (k + 11 + 3), xa_i 0]) (g11_1 : h.1 (k + 11 + 1) = xa_a 240 (fun _ => 0)) (g11_2 : h.1 (k + 11 + 2) = xa_a 4 (fun _ => 0)) (g11_3 : h.1 (k + 11 + 3) = xa_a 120 (fun _ => 0))  : xa_W G mX9_init (xa_Z G (fun r h' => r = none ∧ h'.1 k = xa_o 9 [xa_r (k + 1), xa_r (k + 3), xa_r (k + 6), xa_r (k + 9), xa_r (k + 11), xa_r (k + 15), xa_i 0, xa_r (k + 24), xa_r (k + 31), xa_r (k + 32), xa_r (k + 36), xa_r (k + 48), xa_r (k + 60)] ∧ h'.1 (k + 1) = xa_o 7 [xa_r (k + 1 + 1), xa_i 0] ∧ h'.1 (k + 1 + 1) = xa_a 120 (fun _ => 0) ∧ h'.1 (k + 3) = xa_o 0 [xa_r (k + 3 + 1), xa_r (k + 3 + 2), xa_i 2, xa_i 1, xa_i (-4), xa_i 0, xa_i 0, xa_i 10] ∧ h'.1 (k + 3 + 1) = xa_a 9 (xa_upf (xa_upf (xa_upf (xa_upf (xa_upf (xa_upf (fun _ => 0) (0 * 3) 1) (0 * 3 + 1) 1) (0 * 3 + 2) 1) (1 * 3) 1) (1 * 3 + 1) 1) (1 * 3 + 2) 1) ∧ h'.1 (k + 3 + 2) = xa_a 2 (xa_upf (fun _ => 0) 0 10) ∧ h'.1 (k + 6) = xa_o 0 [xa_r (k + 6 + 1), xa_r (k + 6 + 2), xa_i 0, xa_i 0, xa_i (-4), xa_i 0, xa_i 0, xa_i 10] ∧ h'.1 (k + 6 + 1) = xa_a 9 (fun _ => 0) ∧ h'.1 (k + 6 + 2) = xa_a 2 (fun _ => 0) ∧ h'.1 (k + 9) = xa_o 2 [xa_r (k + 1), xa_r (k + 6), xa_r (k + 9 + 1), xa_i 0] ∧ h'.1 (k + 9 + 1) = xa_a 3 (fun _ => 0) ∧ h'.1 (k + 11) = xa_o 5 [xa_r (k + 11 + 1), xa_r (k + 11 + 2), xa_r (k + 11 + 3), xa_i 0] ∧ h'.1 (k + 11 + 1) = xa_a 240 (fun _ => 0) ∧ h'.1 (k + 11 + 2) = xa_a 4 (fun _ => 0) ∧ h'.1 (k + 11 + 3) = xa_a 120 (fun _ => 0) ∧ h'.1 (k + 15) = xa_q 2 (fun j => if j = 1 then some (k + 20) else (fun j => if j = 0 then some (k + 16) else (fun _ => none) j) j) ∧ h'.1 (k + 16) = xa_o 5 [xa_r (k + 16 + 1), xa_r (k + 16 + 2), xa_r (k + 16 + 3), xa_i 0] ∧ h'.1 (k + 16 + 1) = xa_a 240 (fun _ => 0) ∧ h'.1 (k + 16 + 2) = xa_a 4 (fun _ => 0) ∧ h'.1 (k + 16 + 3) = xa_a 120 (fun _ => 0) ∧ h'.1 (k + 20) = xa_o 5 [xa_r (k + 20 + 1), xa_r (k + 20 + 2), xa_r (k + 20 + 3), xa_i 0] ∧ h'.1 (k + 20 + 1) = xa_a 240 (fun _ => 0) ∧ h'.1 (k + 20 + 2) = xa_a 4 (fun _ => 0) ∧ h'.1 (k + 20 + 3) = xa_a 120 (fun _ => 0) ∧ h'.1 (k + 24) = xa_o 8 [xa_r (k + 24 + 4), xa_r (k + 3), xa_r (k + 24 + 1), xa_r (k + 24 + 2), xa_r (k + 24 + 3), xa_i 0, xa_i 0] ∧ h'.1 (k + 24 + 1) = xa_a 183 (fun _ => 0) ∧ h'.1 (k + 24 + 2) = xa_a 61 (fun _ => 0) ∧ h'.1 (k + 24 + 3) = xa_a 61 (fun _ => 0) ∧ h'.1 (k + 24 + 4) = xa_o 4 [xa_r (k + 3), xa_r (k + 24 + 4 + 1), xa_r (k + 24 + 4 + 2), xa_i 0, xa_i 0] ∧ h'.1 (k + 24 + 4 + 1) = xa_a 3 (fun _ => 0) ∧ h'.1 (k + 24 + 4 + 2) = xa_a 2 (fun _ => 0) ∧ h'.1 (k + 31) = xa_a 4 (fun _ => 0) ∧ h'.1 (k + 32) = xa_o 1 [xa_r (k + 3), xa_r (k + 32 + 1)] ∧ h'.1 (k + 32 + 1) = xa_o 4 [xa_r (k + 3), xa_r (k + 32 + 1 + 1), xa_r (k + 32 + 1 + 2), xa_i 0, xa_i 0] ∧ h'.1 (k + 32 + 1 + 1) = xa_a 3 (fun _ => 0) ∧ h'.1 (k + 32 + 1 + 2) = xa_a 2 (fun _ => 0) ∧ h'.1 (k + 36) = xa_o 3 [xa_r (k + 3), xa_r (k + 36 + 4), xa_r (k + 36 + 1), xa_r (k + 36 + 2), xa_r (k + 36 + 3), xa_i 0, xa_i 0, xa_i 0, xa_i 0, xa_i 0, xa_i 0, xa_i 0] ∧ h'.1 (k + 36 + 1) = xa_a 360 (fun _ => 0) ∧ h'.1 (k + 36 + 2) = xa_a 360 (fun _ => 0) ∧ h'.1 (k + 36 + 3) = xa_a 0 (fun _ => 0) ∧ h'.1 (k + 36 + 4) = xa_o 6 [xa_r (k + 3), xa_r (k + 36 + 4 + 5), xa_i (-1), xa_r (k + 36 + 4 + 1), xa_r (k + 36 + 4 + 2), xa_i 0, xa_i 0, xa_i 0, xa_r (k + 36 + 4 + 3), xa_r (k + 36 + 4 + 4)] ∧ h'.1 (k + 36 + 4 + 1) = xa_a 2 (fun _ => 0) ∧ h'.1 (k + 36 + 4 + 2) = xa_a 2 (fun _ => 0) ∧ h'.1 (k + 36 + 4 + 3) = xa_a 0 (fun _ => 0) ∧ h'.1 (k + 36 + 4 + 4) = xa_a 0 (fun _ => 0) ∧ h'.1 (k + 36 + 4 + 5) = xa_o 4 [xa_r (k + 3), xa_r (k + 36 + 4 + 5 + 1), xa_r (k + 36 + 4 + 5 + 2), xa_i 0, xa_i 0] ∧ h'.1 (k + 36 + 4 + 5 + 1) = xa_a 3 (fun _ => 0) ∧ h'.1 (k + 36 + 4 + 5 + 2) = xa_a 2 (fun _ => 0) ∧ h'.1 (k + 48) = xa_o 3 [xa_r (k + 3), xa_r (k + 48 + 4), xa_r (k + 48 + 1), xa_r (k + 48 + 2), xa_r (k + 48 + 3), xa_i 0, xa_i 0, xa_i 0, xa_i 0, xa_i 0, xa_i 0, xa_i 0] ∧ h'.1 (k + 48 + 1) = xa_a 360 (fun _ => 0) ∧ h'.1 (k + 48 + 2) = xa_a 360 (fun _ => 0) ∧ h'.1 (k + 48 + 3) = xa_a 0 (fun _ => 0) ∧ h'.1 (k + 48 + 4) = xa_o 6 [xa_r (k + 3), xa_r (k + 48 + 4 + 5), xa_i 0, xa_r (k + 48 + 4 + 1), xa_r (k + 48 + 4 + 2), xa_i 0, xa_i 0, xa_i 0, xa_r (k + 48 + 4 + 3), xa_r (k + 48 + 4 + 4)] ∧ h'.1 (k + 48 + 4 + 1) = xa_a 2 (fun _ => 0) ∧ h'.1 (k + 48 + 4 + 2) = xa_a 2 (fun _ => 0) ∧ h'.1 (k + 48 + 4 + 3) = xa_a 0 (fun _ => 0) ∧ h'.1 (k + 48 + 4 + 4) = xa_a 0 (fun _ => 0) ∧ h'.1 (k + 48 + 4 + 5) = xa_o 4 [xa_r (k + 3), xa_r (k + 48 + 4 + 5 + 1), xa_r (k + 48 + 4 + 5 + 2), xa_i 0, xa_i 0] ∧ h'.1 (k + 48 + 4 + 5 + 1) = xa_a 3 (fun _ => 0) ∧ h'.1 (k + 48 + 4 + 5 + 2) = xa_a 2 (fun _ => 0) ∧ h'.1 (k + 60) = xa_o 3 [xa_r (k + 3), xa_r (k + 60 + 4), xa_r (k + 60 + 1), xa_r (k + 60 + 2), xa_r (k + 60 + 3), xa_i 0, xa_i 0, xa_i 0, xa_i 0, xa_i 0, xa_i 0, xa_i 0] ∧ h'.1 (k + 60 + 1) = xa_a 360 (fun _ => 0) ∧ h'.1 (k + 60 + 2) = xa_a 360 (fun _ => 0) ∧ h'.1 (k + 60 + 3) = xa_a 0 (fun _ => 0) ∧ h'.1 (k + 60 + 4) = xa_o 6 [xa_r (k + 3), xa_r (k + 60 + 4 + 5), xa_i 1, xa_r (k + 60 + 4 + 1), xa_r (k + 60 + 4 + 2), xa_i 0, xa_i 0, xa_i 0, xa_r (k + 60 + 4 + 3), xa_r (k + 60 + 4 + 4)] ∧ h'.1 (k + 60 + 4 + 1) = xa_a 2 (fun _ => 0) ∧ h'.1 (k + 60 + 4 + 2) = xa_a 2 (fun _ => 0) ∧ h'.1 (k + 60 + 4 + 3) = xa_a 0 (fun _ => 0) ∧ h'.1 (k + 60 + 4 + 4) = xa_a 0 (fun _ => 0) ∧ h'.1 (k + 60 + 4 + 5) = xa_o 4 [xa_r (k + 3), xa_r (k + 60 + 4 + 5 + 1), xa_r (k + 60 + 4 + 5 + 2), xa_i 0, xa_i 0] ∧ h'.1 (k + 60 + 4 + 5 + 1) = xa_a 3 (fun _ => 0) ∧ h'.1 (k + 60 + 4 + 5 + 2) = xa_a 2 (fun _ => 0) ∧ h'.2 = k + 72 ∧ ∀ i, i < k → h'.1 i = h0.1 i)) 67 [some (xa_r k), none] [] h 57 3344 := by
  refine xa_aload_n (pc := 67) dX9_init_67 rfl ?_
  refine xa_iconst (pc := 68) dX9_init_68 ?_
  refine xa_anewq (pc := 69) (mc0 := 56) (ms0 := 3342) 2 (k + 15) hcn dX9_init_69 clRX9_35 rfl (by decide) rfl rfl (fun h1 nh1 ch1 oh1 => ?_)
  have hX0 : h1.1 k = xa_o 9 [xa_r (k + 1), xa_r (k + 3), xa_r (k + 6), xa_r (k + 9), xa_r (k + 11), xa_n, xa_i 0, xa_n, xa_n, xa_n, xa_n, xa_n, xa_n] := (oh1 _ (by omega)).trans hX0
  have g1 : h1.1 (k + 1) = xa_o 7 [xa_r (k + 1 + 1), xa_i 0] := (oh1 _ (by omega)).trans g1
  have g1_1 : h1.1 (k + 1 + 1) = xa_a 120 (fun _ => 0) := (oh1 _ (by omega)).trans g1_1
  have g3 : h1.1 (k + 3) = xa_o 0 [xa_r (k + 3 + 1), xa_r (k + 3 + 2), xa_i 0, xa_i 0, xa_i (-4), xa_i 0, xa_i 0, xa_i 10] := (oh1 _ (by omega)).trans g3
  have g3_1 : h1.1 (k + 3 + 1) = xa_a 9 (fun _ => 0) := (oh1 _ (by omega)).trans g3_1
  have g3_2 : h1.1 (k + 3 + 2) = xa_a 2 (fun _ => 0) := (oh1 _ (by omega)).trans g3_2
  have g6 : h1.1 (k + 6) = xa_o 0 [xa_r (k + 6 + 1), xa_r (k + 6 + 2), xa_i 0, xa_i 0, xa_i (-4), xa_i 0, xa_i 0, xa_i 10] := (oh1 _ (by omega)).trans g6
  have g6_1 : h1.1 (k + 6 + 1) = xa_a 9 (fun _ => 0) := (oh1 _ (by omega)).trans g6_1
  have g6_2 : h1.1 (k + 6 + 2) = xa_a 2 (fun _ => 0) := (oh1 _ (by omega)).trans g6_2
  have g9 : h1.1 (k + 9) = xa_o 2 [xa_r (k + 1), xa_r (k + 6), xa_r (k + 9 + 1), xa_i 0] := (oh1 _ (by omega)).trans g9
  have g9_1 : h1.1 (k + 9 + 1) = xa_a 3 (fun _ => 0) := (oh1 _ (by omega)).trans g9_1
  have g11 : h1.1 (k + 11) = xa_o 5 [xa_r (k + 11 + 1), xa_r (k + 11 + 2), xa_r (k + 11 + 3), xa_i 0] := (oh1 _ (by omega)).trans g11
  have g11_1 : h1.1 (k + 11 + 1) = xa_a 240 (fun _ => 0) := (oh1 _ (by omega)).trans g11_1
  have g11_2 : h1.1 (k + 11 + 2) = xa_a 4 (fun _ => 0) := (oh1 _ (by omega)).trans g11_2
  have g11_3 : h1.1 (k + 11 + 3) = xa_a 120 (fun _ => 0) := (oh1 _ (by omega)).trans g11_3
  have gQ15 : h1.1 (k + 15) = xa_q 2 (fun _ => none) := ch1
  have hcn : h1.2 = k + 16 := nh1
  have fr : ∀ i, i < k → h1.1 i = h0.1 i := fun i hi => (oh1 i (by omega)).trans (fr i hi)
  refine xa_putwF (pc := 72) [xa_r (k + 1), xa_r (k + 3), xa_r (k + 6), xa_r (k + 9), xa_r (k + 11), xa_r (k + 15), xa_i 0, xa_n, xa_n, xa_n, xa_n, xa_n, xa_n] dX9_init_72 rfl flRX9_42 plX9_5 (by omega) (by omega) hX0 trivial rfl rfl (fun h2 nh2 ch2 oh2 => ?_)
  have hX0 : h2.1 k = xa_o 9 [xa_r (k + 1), xa_r (k + 3), xa_r (k + 6), xa_r (k + 9), xa_r (k + 11), xa_r (k + 15), xa_i 0, xa_n, xa_n, xa_n, xa_n, xa_n, xa_n] := ch2
  have g1 : h2.1 (k + 1) = xa_o 7 [xa_r (k + 1 + 1), xa_i 0] := (oh2 _ (by omega)).trans g1
  have g1_1 : h2.1 (k + 1 + 1) = xa_a 120 (fun _ => 0) := (oh2 _ (by omega)).trans g1_1
  have g3 : h2.1 (k + 3) = xa_o 0 [xa_r (k + 3 + 1), xa_r (k + 3 + 2), xa_i 0, xa_i 0, xa_i (-4), xa_i 0, xa_i 0, xa_i 10] := (oh2 _ (by omega)).trans g3
  have g3_1 : h2.1 (k + 3 + 1) = xa_a 9 (fun _ => 0) := (oh2 _ (by omega)).trans g3_1
  have g3_2 : h2.1 (k + 3 + 2) = xa_a 2 (fun _ => 0) := (oh2 _ (by omega)).trans g3_2
  have g6 : h2.1 (k + 6) = xa_o 0 [xa_r (k + 6 + 1), xa_r (k + 6 + 2), xa_i 0, xa_i 0, xa_i (-4), xa_i 0, xa_i 0, xa_i 10] := (oh2 _ (by omega)).trans g6
  have g6_1 : h2.1 (k + 6 + 1) = xa_a 9 (fun _ => 0) := (oh2 _ (by omega)).trans g6_1
  have g6_2 : h2.1 (k + 6 + 2) = xa_a 2 (fun _ => 0) := (oh2 _ (by omega)).trans g6_2
  have g9 : h2.1 (k + 9) = xa_o 2 [xa_r (k + 1), xa_r (k + 6), xa_r (k + 9 + 1), xa_i 0] := (oh2 _ (by omega)).trans g9
  have g9_1 : h2.1 (k + 9 + 1) = xa_a 3 (fun _ => 0) := (oh2 _ (by omega)).trans g9_1
  have g11 : h2.1 (k + 11) = xa_o 5 [xa_r (k + 11 + 1), xa_r (k + 11 + 2), xa_r (k + 11 + 3), xa_i 0] := (oh2 _ (by omega)).trans g11
  have g11_1 : h2.1 (k + 11 + 1) = xa_a 240 (fun _ => 0) := (oh2 _ (by omega)).trans g11_1
  have g11_2 : h2.1 (k + 11 + 2) = xa_a 4 (fun _ => 0) := (oh2 _ (by omega)).trans g11_2
  have g11_3 : h2.1 (k + 11 + 3) = xa_a 120 (fun _ => 0) := (oh2 _ (by omega)).trans g11_3
  have gQ15 : h2.1 (k + 15) = xa_q 2 (fun _ => none) := (oh2 _ (by omega)).trans gQ15
  have hcn : h2.2 = k + 16 := nh2.trans hcn
  have fr : ∀ i, i < k → h2.1 i = h0.1 i := fun i hi => (oh2 i (by omega)).trans (fr i hi)
  exact c_Cat_cells_6 k hk hcn fr hX0 g1 g1_1 g3 g3_1 g3_2 g6 g6_1 g6_2 g9 g9_1 g11 g11_1 g11_2 g11_3 gQ15
theorem c_Cat_cells_4 {G : xa_G} {h0 h : xa_H} (k : Nat) (hk : 2 ≤ k) (hcn : h.2 = k + 11) (fr : ∀ i, i < k → h.1 i = h0.1 i) (hX0 : h.1 k = xa_o 9 [xa_r (k + 1), xa_r (k + 3), xa_r (k + 6), xa_r (k + 9), xa_n, xa_n, xa_i 0, xa_n, xa_n, xa_n, xa_n, xa_n, xa_n]) (g1 : h.1 (k + 1) = xa_o 7 [xa_r (k + 1 + 1), xa_i 0]) (g1_1 : h.1 (k + 1 + 1) = xa_a 120 (fun _ => 0)) (g3 : h.1 (k + 3) = xa_o 0 [xa_r (k + 3 + 1), xa_r (k + 3 + 2), xa_i 0, xa_i 0, xa_i (-4), xa_i 0, xa_i 0, xa_i 10]) (g3_1 : h.1 (k + 3 + 1) = xa_a 9 (fun _ => 0)) (g3_2 : h.1 (k + 3 + 2) = xa_a 2 (fun _ => 0)) (g6 : h.1 (k + 6) = xa_o 0 [xa_r (k + 6 + 1), xa_r (k + 6 + 2), xa_i 0, xa_i 0, xa_i (-4), xa_i 0, xa_i 0, xa_i 10]) (g6_1 : h.1 (k + 6 + 1) = xa_a 9 (fun _ => 0)) (g6_2 : h.1 (k + 6 + 2) = xa_a 2 (fun _ => 0)) (g9 : h.1 (k + 9) = xa_o 2 [xa_r (k + 1), xa_r (k + 6), xa_r (k + 9 + 1), xa_i 0]) (g9_1 : h.1 (k + 9 + 1) = xa_a 3 (fun _ => 0))  : xa_W G mX9_init (xa_Z G (fun r h' => r = none ∧ h'.1 k = xa_o 9 [xa_r (k + 1), xa_r (k + 3), xa_r (k + 6), xa_r (k + 9), xa_r (k + 11), xa_r (k + 15), xa_i 0, xa_r (k + 24), xa_r (k + 31), xa_r (k + 32), xa_r (k + 36), xa_r (k + 48), xa_r (k + 60)] ∧ h'.1 (k + 1) = xa_o 7 [xa_r (k + 1 + 1), xa_i 0] ∧ h'.1 (k + 1 + 1) = xa_a 120 (fun _ => 0) ∧ h'.1 (k + 3) = xa_o 0 [xa_r (k + 3 + 1), xa_r (k + 3 + 2), xa_i 2, xa_i 1, xa_i (-4), xa_i 0, xa_i 0, xa_i 10] ∧ h'.1 (k + 3 + 1) = xa_a 9 (xa_upf (xa_upf (xa_upf (xa_upf (xa_upf (xa_upf (fun _ => 0) (0 * 3) 1) (0 * 3 + 1) 1) (0 * 3 + 2) 1) (1 * 3) 1) (1 * 3 + 1) 1) (1 * 3 + 2) 1) ∧ h'.1 (k + 3 + 2) = xa_a 2 (xa_upf (fun _ => 0) 0 10) ∧ h'.1 (k + 6) = xa_o 0 [xa_r (k + 6 + 1), xa_r (k + 6 + 2), xa_i 0, xa_i 0, xa_i (-4), xa_i 0, xa_i 0, xa_i 10] ∧ h'.1 (k + 6 + 1) = xa_a 9 (fun _ => 0) ∧ h'.1 (k + 6 + 2) = xa_a 2 (fun _ => 0) ∧ h'.1 (k + 9) = xa_o 2 [xa_r (k + 1), xa_r (k + 6), xa_r (k + 9 + 1), xa_i 0] ∧ h'.1 (k + 9 + 1) = xa_a 3 (fun _ => 0) ∧ h'.1 (k + 11) = xa_o 5 [xa_r (k + 11 + 1), xa_r (k + 11 + 2), xa_r (k + 11 + 3), xa_i 0] ∧ h'.1 (k + 11 + 1) = xa_a 240 (fun _ => 0) ∧ h'.1 (k + 11 + 2) = xa_a 4 (fun _ => 0) ∧ h'.1 (k + 11 + 3) = xa_a 120 (fun _ => 0) ∧ h'.1 (k + 15) = xa_q 2 (fun j => if j = 1 then some (k + 20) else (fun j => if j = 0 then some (k + 16) else (fun _ => none) j) j) ∧ h'.1 (k + 16) = xa_o 5 [xa_r (k + 16 + 1), xa_r (k + 16 + 2), xa_r (k + 16 + 3), xa_i 0] ∧ h'.1 (k + 16 + 1) = xa_a 240 (fun _ => 0) ∧ h'.1 (k + 16 + 2) = xa_a 4 (fun _ => 0) ∧ h'.1 (k + 16 + 3) = xa_a 120 (fun _ => 0) ∧ h'.1 (k + 20) = xa_o 5 [xa_r (k + 20 + 1), xa_r (k + 20 + 2), xa_r (k + 20 + 3), xa_i 0] ∧ h'.1 (k + 20 + 1) = xa_a 240 (fun _ => 0) ∧ h'.1 (k + 20 + 2) = xa_a 4 (fun _ => 0) ∧ h'.1 (k + 20 + 3) = xa_a 120 (fun _ => 0) ∧ h'.1 (k + 24) = xa_o 8 [xa_r (k + 24 + 4), xa_r (k + 3), xa_r (k + 24 + 1), xa_r (k + 24 + 2), xa_r (k + 24 + 3), xa_i 0, xa_i 0] ∧ h'.1 (k + 24 + 1) = xa_a 183 (fun _ => 0) ∧ h'.1 (k + 24 + 2) = xa_a 61 (fun _ => 0) ∧ h'.1 (k + 24 + 3) = xa_a 61 (fun _ => 0) ∧ h'.1 (k + 24 + 4) = xa_o 4 [xa_r (k + 3), xa_r (k + 24 + 4 + 1), xa_r (k + 24 + 4 + 2), xa_i 0, xa_i 0] ∧ h'.1 (k + 24 + 4 + 1) = xa_a 3 (fun _ => 0) ∧ h'.1 (k + 24 + 4 + 2) = xa_a 2 (fun _ => 0) ∧ h'.1 (k + 31) = xa_a 4 (fun _ => 0) ∧ h'.1 (k + 32) = xa_o 1 [xa_r (k + 3), xa_r (k + 32 + 1)] ∧ h'.1 (k + 32 + 1) = xa_o 4 [xa_r (k + 3), xa_r (k + 32 + 1 + 1), xa_r (k + 32 + 1 + 2), xa_i 0, xa_i 0] ∧ h'.1 (k + 32 + 1 + 1) = xa_a 3 (fun _ => 0) ∧ h'.1 (k + 32 + 1 + 2) = xa_a 2 (fun _ => 0) ∧ h'.1 (k + 36) = xa_o 3 [xa_r (k + 3), xa_r (k + 36 + 4), xa_r (k + 36 + 1), xa_r (k + 36 + 2), xa_r (k + 36 + 3), xa_i 0, xa_i 0, xa_i 0, xa_i 0, xa_i 0, xa_i 0, xa_i 0] ∧ h'.1 (k + 36 + 1) = xa_a 360 (fun _ => 0) ∧ h'.1 (k + 36 + 2) = xa_a 360 (fun _ => 0) ∧ h'.1 (k + 36 + 3) = xa_a 0 (fun _ => 0) ∧ h'.1 (k + 36 + 4) = xa_o 6 [xa_r (k + 3), xa_r (k + 36 + 4 + 5), xa_i (-1), xa_r (k + 36 + 4 + 1), xa_r (k + 36 + 4 + 2), xa_i 0, xa_i 0, xa_i 0, xa_r (k + 36 + 4 + 3), xa_r (k + 36 + 4 + 4)] ∧ h'.1 (k + 36 + 4 + 1) = xa_a 2 (fun _ => 0) ∧ h'.1 (k + 36 + 4 + 2) = xa_a 2 (fun _ => 0) ∧ h'.1 (k + 36 + 4 + 3) = xa_a 0 (fun _ => 0) ∧ h'.1 (k + 36 + 4 + 4) = xa_a 0 (fun _ => 0) ∧ h'.1 (k + 36 + 4 + 5) = xa_o 4 [xa_r (k + 3), xa_r (k + 36 + 4 + 5 + 1), xa_r (k + 36 + 4 + 5 + 2), xa_i 0, xa_i 0] ∧ h'.1 (k + 36 + 4 + 5 + 1) = xa_a 3 (fun _ => 0) ∧ h'.1 (k + 36 + 4 + 5 + 2) = xa_a 2 (fun _ => 0) ∧ h'.1 (k + 48) = xa_o 3 [xa_r (k + 3), xa_r (k + 48 + 4), xa_r (k + 48 + 1), xa_r (k + 48 + 2), xa_r (k + 48 + 3), xa_i 0, xa_i 0, xa_i 0, xa_i 0, xa_i 0, xa_i 0, xa_i 0] ∧ h'.1 (k + 48 + 1) = xa_a 360 (fun _ => 0) ∧ h'.1 (k + 48 + 2) = xa_a 360 (fun _ => 0) ∧ h'.1 (k + 48 + 3) = xa_a 0 (fun _ => 0) ∧ h'.1 (k + 48 + 4) = xa_o 6 [xa_r (k + 3), xa_r (k + 48 + 4 + 5), xa_i 0, xa_r (k + 48 + 4 + 1), xa_r (k + 48 + 4 + 2), xa_i 0, xa_i 0, xa_i 0, xa_r (k + 48 + 4 + 3), xa_r (k + 48 + 4 + 4)] ∧ h'.1 (k + 48 + 4 + 1) = xa_a 2 (fun _ => 0) ∧ h'.1 (k + 48 + 4 + 2) = xa_a 2 (fun _ => 0) ∧ h'.1 (k + 48 + 4 + 3) = xa_a 0 (fun _ => 0) ∧ h'.1 (k + 48 + 4 + 4) = xa_a 0 (fun _ => 0) ∧ h'.1 (k + 48 + 4 + 5) = xa_o 4 [xa_r (k + 3), xa_r (k + 48 + 4 + 5 + 1), xa_r (k + 48 + 4 + 5 + 2), xa_i 0, xa_i 0] ∧ h'.1 (k + 48 + 4 + 5 + 1) = xa_a 3 (fun _ => 0) ∧ h'.1 (k + 48 + 4 + 5 + 2) = xa_a 2 (fun _ => 0) ∧ h'.1 (k + 60) = xa_o 3 [xa_r (k + 3), xa_r (k + 60 + 4), xa_r (k + 60 + 1), xa_r (k + 60 + 2), xa_r (k + 60 + 3), xa_i 0, xa_i 0, xa_i 0, xa_i 0, xa_i 0, xa_i 0, xa_i 0] ∧ h'.1 (k + 60 + 1) = xa_a 360 (fun _ => 0) ∧ h'.1 (k + 60 + 2) = xa_a 360 (fun _ => 0) ∧ h'.1 (k + 60 + 3) = xa_a 0 (fun _ => 0) ∧ h'.1 (k + 60 + 4) = xa_o 6 [xa_r (k + 3), xa_r (k + 60 + 4 + 5), xa_i 1, xa_r (k + 60 + 4 + 1), xa_r (k + 60 + 4 + 2), xa_i 0, xa_i 0, xa_i 0, xa_r (k + 60 + 4 + 3), xa_r (k + 60 + 4 + 4)] ∧ h'.1 (k + 60 + 4 + 1) = xa_a 2 (fun _ => 0) ∧ h'.1 (k + 60 + 4 + 2) = xa_a 2 (fun _ => 0) ∧ h'.1 (k + 60 + 4 + 3) = xa_a 0 (fun _ => 0) ∧ h'.1 (k + 60 + 4 + 4) = xa_a 0 (fun _ => 0) ∧ h'.1 (k + 60 + 4 + 5) = xa_o 4 [xa_r (k + 3), xa_r (k + 60 + 4 + 5 + 1), xa_r (k + 60 + 4 + 5 + 2), xa_i 0, xa_i 0] ∧ h'.1 (k + 60 + 4 + 5 + 1) = xa_a 3 (fun _ => 0) ∧ h'.1 (k + 60 + 4 + 5 + 2) = xa_a 2 (fun _ => 0) ∧ h'.2 = k + 72 ∧ ∀ i, i < k → h'.1 i = h0.1 i)) 56 [some (xa_r k), none] [] h 61 3712 := by
  refine xa_aload_n (pc := 56) dX9_init_56 rfl ?_
  refine xa_newo (pc := 57) (ci := 5) (C := RX5) (T := TX5) (N := 4) (fs := [xa_n, xa_n, xa_n, xa_i 0]) (mc0 := 60) (ms0 := 3708) (k + 11) hcn dX9_init_57 rfl wcX5 tyX5_ok clRX9_35 inRX5 ziRX5 (fun j hj => by rcases (show j = 0 ∨ j = 1 ∨ j = 2 ∨ j = 3 by omega) with rfl | rfl | rfl | rfl <;> rfl) rfl rfl rfl (fun h1 nh1 ch1 oh1 => ?_)
  have hX0 : h1.1 k = xa_o 9 [xa_r (k + 1), xa_r (k + 3), xa_r (k + 6), xa_r (k + 9), xa_n, xa_n, xa_i 0, xa_n, xa_n, xa_n, xa_n, xa_n, xa_n] := (oh1 _ (by omega)).trans hX0
  have g1 : h1.1 (k + 1) = xa_o 7 [xa_r (k + 1 + 1), xa_i 0] := (oh1 _ (by omega)).trans g1
  have g1_1 : h1.1 (k + 1 + 1) = xa_a 120 (fun _ => 0) := (oh1 _ (by omega)).trans g1_1
  have g3 : h1.1 (k + 3) = xa_o 0 [xa_r (k + 3 + 1), xa_r (k + 3 + 2), xa_i 0, xa_i 0, xa_i (-4), xa_i 0, xa_i 0, xa_i 10] := (oh1 _ (by omega)).trans g3
  have g3_1 : h1.1 (k + 3 + 1) = xa_a 9 (fun _ => 0) := (oh1 _ (by omega)).trans g3_1
  have g3_2 : h1.1 (k + 3 + 2) = xa_a 2 (fun _ => 0) := (oh1 _ (by omega)).trans g3_2
  have g6 : h1.1 (k + 6) = xa_o 0 [xa_r (k + 6 + 1), xa_r (k + 6 + 2), xa_i 0, xa_i 0, xa_i (-4), xa_i 0, xa_i 0, xa_i 10] := (oh1 _ (by omega)).trans g6
  have g6_1 : h1.1 (k + 6 + 1) = xa_a 9 (fun _ => 0) := (oh1 _ (by omega)).trans g6_1
  have g6_2 : h1.1 (k + 6 + 2) = xa_a 2 (fun _ => 0) := (oh1 _ (by omega)).trans g6_2
  have g9 : h1.1 (k + 9) = xa_o 2 [xa_r (k + 1), xa_r (k + 6), xa_r (k + 9 + 1), xa_i 0] := (oh1 _ (by omega)).trans g9
  have g9_1 : h1.1 (k + 9 + 1) = xa_a 3 (fun _ => 0) := (oh1 _ (by omega)).trans g9_1
  have gO11 : h1.1 (k + 11) = xa_o 5 [xa_n, xa_n, xa_n, xa_i 0] := ch1
  have hcn : h1.2 = k + 12 := nh1
  have fr : ∀ i, i < k → h1.1 i = h0.1 i := fun i hi => (oh1 i (by omega)).trans (fr i hi)
  refine xa_dup (pc := 60) dX9_init_60 rfl ?_
  refine xa_callI (pc := 61) (as := []) (rest := [xa_r (k + 11), xa_r k]) (k := (k + 11)) dX9_init_61 ⟨qX5_init.1, qX5_init.2.1, qX5_init.2.2, by decide, by decide⟩ rfl rfl lkRX9_37 imX5_init rfl rfl (Nat.le_of_ble_eq_true rfl) (Nat.le_of_ble_eq_true rfl) (Nat.le_of_ble_eq_true rfl) (c_Sheet_init _ (by omega) (by omega) gO11) (fun r h' hq => ?_)
  obtain ⟨rfl, ⟨g11, g11_1, g11_2, g11_3, -, -⟩, hqn, hqf⟩ := hq
  have hX0 : h'.1 k = xa_o 9 [xa_r (k + 1), xa_r (k + 3), xa_r (k + 6), xa_r (k + 9), xa_n, xa_n, xa_i 0, xa_n, xa_n, xa_n, xa_n, xa_n, xa_n] := (hqf _ (by omega)).trans hX0
  have g1 : h'.1 (k + 1) = xa_o 7 [xa_r (k + 1 + 1), xa_i 0] := (hqf _ (by omega)).trans g1
  have g1_1 : h'.1 (k + 1 + 1) = xa_a 120 (fun _ => 0) := (hqf _ (by omega)).trans g1_1
  have g3 : h'.1 (k + 3) = xa_o 0 [xa_r (k + 3 + 1), xa_r (k + 3 + 2), xa_i 0, xa_i 0, xa_i (-4), xa_i 0, xa_i 0, xa_i 10] := (hqf _ (by omega)).trans g3
  have g3_1 : h'.1 (k + 3 + 1) = xa_a 9 (fun _ => 0) := (hqf _ (by omega)).trans g3_1
  have g3_2 : h'.1 (k + 3 + 2) = xa_a 2 (fun _ => 0) := (hqf _ (by omega)).trans g3_2
  have g6 : h'.1 (k + 6) = xa_o 0 [xa_r (k + 6 + 1), xa_r (k + 6 + 2), xa_i 0, xa_i 0, xa_i (-4), xa_i 0, xa_i 0, xa_i 10] := (hqf _ (by omega)).trans g6
  have g6_1 : h'.1 (k + 6 + 1) = xa_a 9 (fun _ => 0) := (hqf _ (by omega)).trans g6_1
  have g6_2 : h'.1 (k + 6 + 2) = xa_a 2 (fun _ => 0) := (hqf _ (by omega)).trans g6_2
  have g9 : h'.1 (k + 9) = xa_o 2 [xa_r (k + 1), xa_r (k + 6), xa_r (k + 9 + 1), xa_i 0] := (hqf _ (by omega)).trans g9
  have g9_1 : h'.1 (k + 9 + 1) = xa_a 3 (fun _ => 0) := (hqf _ (by omega)).trans g9_1
  have g11 : h'.1 (k + 11) = xa_o 5 [xa_r (k + 11 + 1), xa_r (k + 11 + 2), xa_r (k + 11 + 3), xa_i 0] := g11
  have g11_1 : h'.1 (k + 11 + 1) = xa_a 240 (fun _ => 0) := g11_1
  have g11_2 : h'.1 (k + 11 + 2) = xa_a 4 (fun _ => 0) := g11_2
  have g11_3 : h'.1 (k + 11 + 3) = xa_a 120 (fun _ => 0) := g11_3
  have hcn : h'.2 = k + 15 := by omega
  have fr : ∀ i, i < k → h'.1 i = h0.1 i := fun i hi => (hqf i (by omega)).trans (fr i hi)
  refine xa_putwF (pc := 64) [xa_r (k + 1), xa_r (k + 3), xa_r (k + 6), xa_r (k + 9), xa_r (k + 11), xa_n, xa_i 0, xa_n, xa_n, xa_n, xa_n, xa_n, xa_n] dX9_init_64 rfl flRX9_38 plX9_4 (by omega) (by omega) hX0 trivial rfl rfl (fun h2 nh2 ch2 oh2 => ?_)
  have hX0 : h2.1 k = xa_o 9 [xa_r (k + 1), xa_r (k + 3), xa_r (k + 6), xa_r (k + 9), xa_r (k + 11), xa_n, xa_i 0, xa_n, xa_n, xa_n, xa_n, xa_n, xa_n] := ch2
  have g1 : h2.1 (k + 1) = xa_o 7 [xa_r (k + 1 + 1), xa_i 0] := (oh2 _ (by omega)).trans g1
  have g1_1 : h2.1 (k + 1 + 1) = xa_a 120 (fun _ => 0) := (oh2 _ (by omega)).trans g1_1
  have g3 : h2.1 (k + 3) = xa_o 0 [xa_r (k + 3 + 1), xa_r (k + 3 + 2), xa_i 0, xa_i 0, xa_i (-4), xa_i 0, xa_i 0, xa_i 10] := (oh2 _ (by omega)).trans g3
  have g3_1 : h2.1 (k + 3 + 1) = xa_a 9 (fun _ => 0) := (oh2 _ (by omega)).trans g3_1
  have g3_2 : h2.1 (k + 3 + 2) = xa_a 2 (fun _ => 0) := (oh2 _ (by omega)).trans g3_2
  have g6 : h2.1 (k + 6) = xa_o 0 [xa_r (k + 6 + 1), xa_r (k + 6 + 2), xa_i 0, xa_i 0, xa_i (-4), xa_i 0, xa_i 0, xa_i 10] := (oh2 _ (by omega)).trans g6
  have g6_1 : h2.1 (k + 6 + 1) = xa_a 9 (fun _ => 0) := (oh2 _ (by omega)).trans g6_1
  have g6_2 : h2.1 (k + 6 + 2) = xa_a 2 (fun _ => 0) := (oh2 _ (by omega)).trans g6_2
  have g9 : h2.1 (k + 9) = xa_o 2 [xa_r (k + 1), xa_r (k + 6), xa_r (k + 9 + 1), xa_i 0] := (oh2 _ (by omega)).trans g9
  have g9_1 : h2.1 (k + 9 + 1) = xa_a 3 (fun _ => 0) := (oh2 _ (by omega)).trans g9_1
  have g11 : h2.1 (k + 11) = xa_o 5 [xa_r (k + 11 + 1), xa_r (k + 11 + 2), xa_r (k + 11 + 3), xa_i 0] := (oh2 _ (by omega)).trans g11
  have g11_1 : h2.1 (k + 11 + 1) = xa_a 240 (fun _ => 0) := (oh2 _ (by omega)).trans g11_1
  have g11_2 : h2.1 (k + 11 + 2) = xa_a 4 (fun _ => 0) := (oh2 _ (by omega)).trans g11_2
  have g11_3 : h2.1 (k + 11 + 3) = xa_a 120 (fun _ => 0) := (oh2 _ (by omega)).trans g11_3
  have hcn : h2.2 = k + 15 := nh2.trans hcn
  have fr : ∀ i, i < k → h2.1 i = h0.1 i := fun i hi => (oh2 i (by omega)).trans (fr i hi)
  exact c_Cat_cells_5 k hk hcn fr hX0 g1 g1_1 g3 g3_1 g3_2 g6 g6_1 g6_2 g9 g9_1 g11 g11_1 g11_2 g11_3
theorem c_Cat_cells_3 {G : xa_G} {h0 h : xa_H} (k : Nat) (hk : 2 ≤ k) (hcn : h.2 = k + 9) (fr : ∀ i, i < k → h.1 i = h0.1 i) (hX0 : h.1 k = xa_o 9 [xa_r (k + 1), xa_r (k + 3), xa_r (k + 6), xa_n, xa_n, xa_n, xa_i 0, xa_n, xa_n, xa_n, xa_n, xa_n, xa_n]) (g1 : h.1 (k + 1) = xa_o 7 [xa_r (k + 1 + 1), xa_i 0]) (g1_1 : h.1 (k + 1 + 1) = xa_a 120 (fun _ => 0)) (g3 : h.1 (k + 3) = xa_o 0 [xa_r (k + 3 + 1), xa_r (k + 3 + 2), xa_i 0, xa_i 0, xa_i (-4), xa_i 0, xa_i 0, xa_i 10]) (g3_1 : h.1 (k + 3 + 1) = xa_a 9 (fun _ => 0)) (g3_2 : h.1 (k + 3 + 2) = xa_a 2 (fun _ => 0)) (g6 : h.1 (k + 6) = xa_o 0 [xa_r (k + 6 + 1), xa_r (k + 6 + 2), xa_i 0, xa_i 0, xa_i (-4), xa_i 0, xa_i 0, xa_i 10]) (g6_1 : h.1 (k + 6 + 1) = xa_a 9 (fun _ => 0)) (g6_2 : h.1 (k + 6 + 2) = xa_a 2 (fun _ => 0))  : xa_W G mX9_init (xa_Z G (fun r h' => r = none ∧ h'.1 k = xa_o 9 [xa_r (k + 1), xa_r (k + 3), xa_r (k + 6), xa_r (k + 9), xa_r (k + 11), xa_r (k + 15), xa_i 0, xa_r (k + 24), xa_r (k + 31), xa_r (k + 32), xa_r (k + 36), xa_r (k + 48), xa_r (k + 60)] ∧ h'.1 (k + 1) = xa_o 7 [xa_r (k + 1 + 1), xa_i 0] ∧ h'.1 (k + 1 + 1) = xa_a 120 (fun _ => 0) ∧ h'.1 (k + 3) = xa_o 0 [xa_r (k + 3 + 1), xa_r (k + 3 + 2), xa_i 2, xa_i 1, xa_i (-4), xa_i 0, xa_i 0, xa_i 10] ∧ h'.1 (k + 3 + 1) = xa_a 9 (xa_upf (xa_upf (xa_upf (xa_upf (xa_upf (xa_upf (fun _ => 0) (0 * 3) 1) (0 * 3 + 1) 1) (0 * 3 + 2) 1) (1 * 3) 1) (1 * 3 + 1) 1) (1 * 3 + 2) 1) ∧ h'.1 (k + 3 + 2) = xa_a 2 (xa_upf (fun _ => 0) 0 10) ∧ h'.1 (k + 6) = xa_o 0 [xa_r (k + 6 + 1), xa_r (k + 6 + 2), xa_i 0, xa_i 0, xa_i (-4), xa_i 0, xa_i 0, xa_i 10] ∧ h'.1 (k + 6 + 1) = xa_a 9 (fun _ => 0) ∧ h'.1 (k + 6 + 2) = xa_a 2 (fun _ => 0) ∧ h'.1 (k + 9) = xa_o 2 [xa_r (k + 1), xa_r (k + 6), xa_r (k + 9 + 1), xa_i 0] ∧ h'.1 (k + 9 + 1) = xa_a 3 (fun _ => 0) ∧ h'.1 (k + 11) = xa_o 5 [xa_r (k + 11 + 1), xa_r (k + 11 + 2), xa_r (k + 11 + 3), xa_i 0] ∧ h'.1 (k + 11 + 1) = xa_a 240 (fun _ => 0) ∧ h'.1 (k + 11 + 2) = xa_a 4 (fun _ => 0) ∧ h'.1 (k + 11 + 3) = xa_a 120 (fun _ => 0) ∧ h'.1 (k + 15) = xa_q 2 (fun j => if j = 1 then some (k + 20) else (fun j => if j = 0 then some (k + 16) else (fun _ => none) j) j) ∧ h'.1 (k + 16) = xa_o 5 [xa_r (k + 16 + 1), xa_r (k + 16 + 2), xa_r (k + 16 + 3), xa_i 0] ∧ h'.1 (k + 16 + 1) = xa_a 240 (fun _ => 0) ∧ h'.1 (k + 16 + 2) = xa_a 4 (fun _ => 0) ∧ h'.1 (k + 16 + 3) = xa_a 120 (fun _ => 0) ∧ h'.1 (k + 20) = xa_o 5 [xa_r (k + 20 + 1), xa_r (k + 20 + 2), xa_r (k + 20 + 3), xa_i 0] ∧ h'.1 (k + 20 + 1) = xa_a 240 (fun _ => 0) ∧ h'.1 (k + 20 + 2) = xa_a 4 (fun _ => 0) ∧ h'.1 (k + 20 + 3) = xa_a 120 (fun _ => 0) ∧ h'.1 (k + 24) = xa_o 8 [xa_r (k + 24 + 4), xa_r (k + 3), xa_r (k + 24 + 1), xa_r (k + 24 + 2), xa_r (k + 24 + 3), xa_i 0, xa_i 0] ∧ h'.1 (k + 24 + 1) = xa_a 183 (fun _ => 0) ∧ h'.1 (k + 24 + 2) = xa_a 61 (fun _ => 0) ∧ h'.1 (k + 24 + 3) = xa_a 61 (fun _ => 0) ∧ h'.1 (k + 24 + 4) = xa_o 4 [xa_r (k + 3), xa_r (k + 24 + 4 + 1), xa_r (k + 24 + 4 + 2), xa_i 0, xa_i 0] ∧ h'.1 (k + 24 + 4 + 1) = xa_a 3 (fun _ => 0) ∧ h'.1 (k + 24 + 4 + 2) = xa_a 2 (fun _ => 0) ∧ h'.1 (k + 31) = xa_a 4 (fun _ => 0) ∧ h'.1 (k + 32) = xa_o 1 [xa_r (k + 3), xa_r (k + 32 + 1)] ∧ h'.1 (k + 32 + 1) = xa_o 4 [xa_r (k + 3), xa_r (k + 32 + 1 + 1), xa_r (k + 32 + 1 + 2), xa_i 0, xa_i 0] ∧ h'.1 (k + 32 + 1 + 1) = xa_a 3 (fun _ => 0) ∧ h'.1 (k + 32 + 1 + 2) = xa_a 2 (fun _ => 0) ∧ h'.1 (k + 36) = xa_o 3 [xa_r (k + 3), xa_r (k + 36 + 4), xa_r (k + 36 + 1), xa_r (k + 36 + 2), xa_r (k + 36 + 3), xa_i 0, xa_i 0, xa_i 0, xa_i 0, xa_i 0, xa_i 0, xa_i 0] ∧ h'.1 (k + 36 + 1) = xa_a 360 (fun _ => 0) ∧ h'.1 (k + 36 + 2) = xa_a 360 (fun _ => 0) ∧ h'.1 (k + 36 + 3) = xa_a 0 (fun _ => 0) ∧ h'.1 (k + 36 + 4) = xa_o 6 [xa_r (k + 3), xa_r (k + 36 + 4 + 5), xa_i (-1), xa_r (k + 36 + 4 + 1), xa_r (k + 36 + 4 + 2), xa_i 0, xa_i 0, xa_i 0, xa_r (k + 36 + 4 + 3), xa_r (k + 36 + 4 + 4)] ∧ h'.1 (k + 36 + 4 + 1) = xa_a 2 (fun _ => 0) ∧ h'.1 (k + 36 + 4 + 2) = xa_a 2 (fun _ => 0) ∧ h'.1 (k + 36 + 4 + 3) = xa_a 0 (fun _ => 0) ∧ h'.1 (k + 36 + 4 + 4) = xa_a 0 (fun _ => 0) ∧ h'.1 (k + 36 + 4 + 5) = xa_o 4 [xa_r (k + 3), xa_r (k + 36 + 4 + 5 + 1), xa_r (k + 36 + 4 + 5 + 2), xa_i 0, xa_i 0] ∧ h'.1 (k + 36 + 4 + 5 + 1) = xa_a 3 (fun _ => 0) ∧ h'.1 (k + 36 + 4 + 5 + 2) = xa_a 2 (fun _ => 0) ∧ h'.1 (k + 48) = xa_o 3 [xa_r (k + 3), xa_r (k + 48 + 4), xa_r (k + 48 + 1), xa_r (k + 48 + 2), xa_r (k + 48 + 3), xa_i 0, xa_i 0, xa_i 0, xa_i 0, xa_i 0, xa_i 0, xa_i 0] ∧ h'.1 (k + 48 + 1) = xa_a 360 (fun _ => 0) ∧ h'.1 (k + 48 + 2) = xa_a 360 (fun _ => 0) ∧ h'.1 (k + 48 + 3) = xa_a 0 (fun _ => 0) ∧ h'.1 (k + 48 + 4) = xa_o 6 [xa_r (k + 3), xa_r (k + 48 + 4 + 5), xa_i 0, xa_r (k + 48 + 4 + 1), xa_r (k + 48 + 4 + 2), xa_i 0, xa_i 0, xa_i 0, xa_r (k + 48 + 4 + 3), xa_r (k + 48 + 4 + 4)] ∧ h'.1 (k + 48 + 4 + 1) = xa_a 2 (fun _ => 0) ∧ h'.1 (k + 48 + 4 + 2) = xa_a 2 (fun _ => 0) ∧ h'.1 (k + 48 + 4 + 3) = xa_a 0 (fun _ => 0) ∧ h'.1 (k + 48 + 4 + 4) = xa_a 0 (fun _ => 0) ∧ h'.1 (k + 48 + 4 + 5) = xa_o 4 [xa_r (k + 3), xa_r (k + 48 + 4 + 5 + 1), xa_r (k + 48 + 4 + 5 + 2), xa_i 0, xa_i 0] ∧ h'.1 (k + 48 + 4 + 5 + 1) = xa_a 3 (fun _ => 0) ∧ h'.1 (k + 48 + 4 + 5 + 2) = xa_a 2 (fun _ => 0) ∧ h'.1 (k + 60) = xa_o 3 [xa_r (k + 3), xa_r (k + 60 + 4), xa_r (k + 60 + 1), xa_r (k + 60 + 2), xa_r (k + 60 + 3), xa_i 0, xa_i 0, xa_i 0, xa_i 0, xa_i 0, xa_i 0, xa_i 0] ∧ h'.1 (k + 60 + 1) = xa_a 360 (fun _ => 0) ∧ h'.1 (k + 60 + 2) = xa_a 360 (fun _ => 0) ∧ h'.1 (k + 60 + 3) = xa_a 0 (fun _ => 0) ∧ h'.1 (k + 60 + 4) = xa_o 6 [xa_r (k + 3), xa_r (k + 60 + 4 + 5), xa_i 1, xa_r (k + 60 + 4 + 1), xa_r (k + 60 + 4 + 2), xa_i 0, xa_i 0, xa_i 0, xa_r (k + 60 + 4 + 3), xa_r (k + 60 + 4 + 4)] ∧ h'.1 (k + 60 + 4 + 1) = xa_a 2 (fun _ => 0) ∧ h'.1 (k + 60 + 4 + 2) = xa_a 2 (fun _ => 0) ∧ h'.1 (k + 60 + 4 + 3) = xa_a 0 (fun _ => 0) ∧ h'.1 (k + 60 + 4 + 4) = xa_a 0 (fun _ => 0) ∧ h'.1 (k + 60 + 4 + 5) = xa_o 4 [xa_r (k + 3), xa_r (k + 60 + 4 + 5 + 1), xa_r (k + 60 + 4 + 5 + 2), xa_i 0, xa_i 0] ∧ h'.1 (k + 60 + 4 + 5 + 1) = xa_a 3 (fun _ => 0) ∧ h'.1 (k + 60 + 4 + 5 + 2) = xa_a 2 (fun _ => 0) ∧ h'.2 = k + 72 ∧ ∀ i, i < k → h'.1 i = h0.1 i)) 37 [some (xa_r k), none] [] h 63 3719 := by
  refine xa_aload_n (pc := 37) dX9_init_37 rfl ?_
  refine xa_newo (pc := 38) (ci := 2) (C := RX2) (T := TX2) (N := 4) (fs := [xa_n, xa_n, xa_n, xa_i 0]) (mc0 := 62) (ms0 := 3715) (k + 9) hcn dX9_init_38 rfl wcX2 tyX2_ok clRX9_26 inRX2 ziRX2 (fun j hj => by rcases (show j = 0 ∨ j = 1 ∨ j = 2 ∨ j = 3 by omega) with rfl | rfl | rfl | rfl <;> rfl) rfl rfl rfl (fun h1 nh1 ch1 oh1 => ?_)
  have hX0 : h1.1 k = xa_o 9 [xa_r (k + 1), xa_r (k + 3), xa_r (k + 6), xa_n, xa_n, xa_n, xa_i 0, xa_n, xa_n, xa_n, xa_n, xa_n, xa_n] := (oh1 _ (by omega)).trans hX0
  have g1 : h1.1 (k + 1) = xa_o 7 [xa_r (k + 1 + 1), xa_i 0] := (oh1 _ (by omega)).trans g1
  have g1_1 : h1.1 (k + 1 + 1) = xa_a 120 (fun _ => 0) := (oh1 _ (by omega)).trans g1_1
  have g3 : h1.1 (k + 3) = xa_o 0 [xa_r (k + 3 + 1), xa_r (k + 3 + 2), xa_i 0, xa_i 0, xa_i (-4), xa_i 0, xa_i 0, xa_i 10] := (oh1 _ (by omega)).trans g3
  have g3_1 : h1.1 (k + 3 + 1) = xa_a 9 (fun _ => 0) := (oh1 _ (by omega)).trans g3_1
  have g3_2 : h1.1 (k + 3 + 2) = xa_a 2 (fun _ => 0) := (oh1 _ (by omega)).trans g3_2
  have g6 : h1.1 (k + 6) = xa_o 0 [xa_r (k + 6 + 1), xa_r (k + 6 + 2), xa_i 0, xa_i 0, xa_i (-4), xa_i 0, xa_i 0, xa_i 10] := (oh1 _ (by omega)).trans g6
  have g6_1 : h1.1 (k + 6 + 1) = xa_a 9 (fun _ => 0) := (oh1 _ (by omega)).trans g6_1
  have g6_2 : h1.1 (k + 6 + 2) = xa_a 2 (fun _ => 0) := (oh1 _ (by omega)).trans g6_2
  have gO9 : h1.1 (k + 9) = xa_o 2 [xa_n, xa_n, xa_n, xa_i 0] := ch1
  have hcn : h1.2 = k + 10 := nh1
  have fr : ∀ i, i < k → h1.1 i = h0.1 i := fun i hi => (oh1 i (by omega)).trans (fr i hi)
  refine xa_dup (pc := 41) dX9_init_41 rfl ?_
  refine xa_aload_n (pc := 42) dX9_init_42 rfl ?_
  refine xa_getfield (pc := 43) dX9_init_43 flRX9_12 (by omega) (by omega) hX0 rfl ?_
  refine xa_aload_n (pc := 46) dX9_init_46 rfl ?_
  refine xa_getfield (pc := 47) dX9_init_47 flRX9_23 (by omega) (by omega) hX0 rfl ?_
  refine xa_callI (pc := 50) (as := [xa_r (k + 1), xa_r (k + 6)]) (rest := [xa_r (k + 9), xa_r k]) (k := (k + 9)) dX9_init_50 ⟨qX2_init.1, qX2_init.2.1, qX2_init.2.2, by decide, by decide⟩ rfl rfl lkRX9_28 imX2_init rfl rfl (Nat.le_of_ble_eq_true rfl) (Nat.le_of_ble_eq_true rfl) (Nat.le_of_ble_eq_true rfl) (c_Reader_init _ _ _ (by omega) (by omega) gO9) (fun r h' hq => ?_)
  obtain ⟨rfl, ⟨g9, g9_1, -, -⟩, hqn, hqf⟩ := hq
  have hX0 : h'.1 k = xa_o 9 [xa_r (k + 1), xa_r (k + 3), xa_r (k + 6), xa_n, xa_n, xa_n, xa_i 0, xa_n, xa_n, xa_n, xa_n, xa_n, xa_n] := (hqf _ (by omega)).trans hX0
  have g1 : h'.1 (k + 1) = xa_o 7 [xa_r (k + 1 + 1), xa_i 0] := (hqf _ (by omega)).trans g1
  have g1_1 : h'.1 (k + 1 + 1) = xa_a 120 (fun _ => 0) := (hqf _ (by omega)).trans g1_1
  have g3 : h'.1 (k + 3) = xa_o 0 [xa_r (k + 3 + 1), xa_r (k + 3 + 2), xa_i 0, xa_i 0, xa_i (-4), xa_i 0, xa_i 0, xa_i 10] := (hqf _ (by omega)).trans g3
  have g3_1 : h'.1 (k + 3 + 1) = xa_a 9 (fun _ => 0) := (hqf _ (by omega)).trans g3_1
  have g3_2 : h'.1 (k + 3 + 2) = xa_a 2 (fun _ => 0) := (hqf _ (by omega)).trans g3_2
  have g6 : h'.1 (k + 6) = xa_o 0 [xa_r (k + 6 + 1), xa_r (k + 6 + 2), xa_i 0, xa_i 0, xa_i (-4), xa_i 0, xa_i 0, xa_i 10] := (hqf _ (by omega)).trans g6
  have g6_1 : h'.1 (k + 6 + 1) = xa_a 9 (fun _ => 0) := (hqf _ (by omega)).trans g6_1
  have g6_2 : h'.1 (k + 6 + 2) = xa_a 2 (fun _ => 0) := (hqf _ (by omega)).trans g6_2
  have g9 : h'.1 (k + 9) = xa_o 2 [xa_r (k + 1), xa_r (k + 6), xa_r (k + 9 + 1), xa_i 0] := g9
  have g9_1 : h'.1 (k + 9 + 1) = xa_a 3 (fun _ => 0) := g9_1
  have hcn : h'.2 = k + 11 := by omega
  have fr : ∀ i, i < k → h'.1 i = h0.1 i := fun i hi => (hqf i (by omega)).trans (fr i hi)
  refine xa_putwF (pc := 53) [xa_r (k + 1), xa_r (k + 3), xa_r (k + 6), xa_r (k + 9), xa_n, xa_n, xa_i 0, xa_n, xa_n, xa_n, xa_n, xa_n, xa_n] dX9_init_53 rfl flRX9_31 plX9_3 (by omega) (by omega) hX0 trivial rfl rfl (fun h2 nh2 ch2 oh2 => ?_)
  have hX0 : h2.1 k = xa_o 9 [xa_r (k + 1), xa_r (k + 3), xa_r (k + 6), xa_r (k + 9), xa_n, xa_n, xa_i 0, xa_n, xa_n, xa_n, xa_n, xa_n, xa_n] := ch2
  have g1 : h2.1 (k + 1) = xa_o 7 [xa_r (k + 1 + 1), xa_i 0] := (oh2 _ (by omega)).trans g1
  have g1_1 : h2.1 (k + 1 + 1) = xa_a 120 (fun _ => 0) := (oh2 _ (by omega)).trans g1_1
  have g3 : h2.1 (k + 3) = xa_o 0 [xa_r (k + 3 + 1), xa_r (k + 3 + 2), xa_i 0, xa_i 0, xa_i (-4), xa_i 0, xa_i 0, xa_i 10] := (oh2 _ (by omega)).trans g3
  have g3_1 : h2.1 (k + 3 + 1) = xa_a 9 (fun _ => 0) := (oh2 _ (by omega)).trans g3_1
  have g3_2 : h2.1 (k + 3 + 2) = xa_a 2 (fun _ => 0) := (oh2 _ (by omega)).trans g3_2
  have g6 : h2.1 (k + 6) = xa_o 0 [xa_r (k + 6 + 1), xa_r (k + 6 + 2), xa_i 0, xa_i 0, xa_i (-4), xa_i 0, xa_i 0, xa_i 10] := (oh2 _ (by omega)).trans g6
  have g6_1 : h2.1 (k + 6 + 1) = xa_a 9 (fun _ => 0) := (oh2 _ (by omega)).trans g6_1
  have g6_2 : h2.1 (k + 6 + 2) = xa_a 2 (fun _ => 0) := (oh2 _ (by omega)).trans g6_2
  have g9 : h2.1 (k + 9) = xa_o 2 [xa_r (k + 1), xa_r (k + 6), xa_r (k + 9 + 1), xa_i 0] := (oh2 _ (by omega)).trans g9
  have g9_1 : h2.1 (k + 9 + 1) = xa_a 3 (fun _ => 0) := (oh2 _ (by omega)).trans g9_1
  have hcn : h2.2 = k + 11 := nh2.trans hcn
  have fr : ∀ i, i < k → h2.1 i = h0.1 i := fun i hi => (oh2 i (by omega)).trans (fr i hi)
  exact c_Cat_cells_4 k hk hcn fr hX0 g1 g1_1 g3 g3_1 g3_2 g6 g6_1 g6_2 g9 g9_1
theorem c_Cat_cells_2 {G : xa_G} {h0 h : xa_H} (k : Nat) (hk : 2 ≤ k) (hcn : h.2 = k + 6) (fr : ∀ i, i < k → h.1 i = h0.1 i) (hX0 : h.1 k = xa_o 9 [xa_r (k + 1), xa_r (k + 3), xa_n, xa_n, xa_n, xa_n, xa_i 0, xa_n, xa_n, xa_n, xa_n, xa_n, xa_n]) (g1 : h.1 (k + 1) = xa_o 7 [xa_r (k + 1 + 1), xa_i 0]) (g1_1 : h.1 (k + 1 + 1) = xa_a 120 (fun _ => 0)) (g3 : h.1 (k + 3) = xa_o 0 [xa_r (k + 3 + 1), xa_r (k + 3 + 2), xa_i 0, xa_i 0, xa_i (-4), xa_i 0, xa_i 0, xa_i 10]) (g3_1 : h.1 (k + 3 + 1) = xa_a 9 (fun _ => 0)) (g3_2 : h.1 (k + 3 + 2) = xa_a 2 (fun _ => 0))  : xa_W G mX9_init (xa_Z G (fun r h' => r = none ∧ h'.1 k = xa_o 9 [xa_r (k + 1), xa_r (k + 3), xa_r (k + 6), xa_r (k + 9), xa_r (k + 11), xa_r (k + 15), xa_i 0, xa_r (k + 24), xa_r (k + 31), xa_r (k + 32), xa_r (k + 36), xa_r (k + 48), xa_r (k + 60)] ∧ h'.1 (k + 1) = xa_o 7 [xa_r (k + 1 + 1), xa_i 0] ∧ h'.1 (k + 1 + 1) = xa_a 120 (fun _ => 0) ∧ h'.1 (k + 3) = xa_o 0 [xa_r (k + 3 + 1), xa_r (k + 3 + 2), xa_i 2, xa_i 1, xa_i (-4), xa_i 0, xa_i 0, xa_i 10] ∧ h'.1 (k + 3 + 1) = xa_a 9 (xa_upf (xa_upf (xa_upf (xa_upf (xa_upf (xa_upf (fun _ => 0) (0 * 3) 1) (0 * 3 + 1) 1) (0 * 3 + 2) 1) (1 * 3) 1) (1 * 3 + 1) 1) (1 * 3 + 2) 1) ∧ h'.1 (k + 3 + 2) = xa_a 2 (xa_upf (fun _ => 0) 0 10) ∧ h'.1 (k + 6) = xa_o 0 [xa_r (k + 6 + 1), xa_r (k + 6 + 2), xa_i 0, xa_i 0, xa_i (-4), xa_i 0, xa_i 0, xa_i 10] ∧ h'.1 (k + 6 + 1) = xa_a 9 (fun _ => 0) ∧ h'.1 (k + 6 + 2) = xa_a 2 (fun _ => 0) ∧ h'.1 (k + 9) = xa_o 2 [xa_r (k + 1), xa_r (k + 6), xa_r (k + 9 + 1), xa_i 0] ∧ h'.1 (k + 9 + 1) = xa_a 3 (fun _ => 0) ∧ h'.1 (k + 11) = xa_o 5 [xa_r (k + 11 + 1), xa_r (k + 11 + 2), xa_r (k + 11 + 3), xa_i 0] ∧ h'.1 (k + 11 + 1) = xa_a 240 (fun _ => 0) ∧ h'.1 (k + 11 + 2) = xa_a 4 (fun _ => 0) ∧ h'.1 (k + 11 + 3) = xa_a 120 (fun _ => 0) ∧ h'.1 (k + 15) = xa_q 2 (fun j => if j = 1 then some (k + 20) else (fun j => if j = 0 then some (k + 16) else (fun _ => none) j) j) ∧ h'.1 (k + 16) = xa_o 5 [xa_r (k + 16 + 1), xa_r (k + 16 + 2), xa_r (k + 16 + 3), xa_i 0] ∧ h'.1 (k + 16 + 1) = xa_a 240 (fun _ => 0) ∧ h'.1 (k + 16 + 2) = xa_a 4 (fun _ => 0) ∧ h'.1 (k + 16 + 3) = xa_a 120 (fun _ => 0) ∧ h'.1 (k + 20) = xa_o 5 [xa_r (k + 20 + 1), xa_r (k + 20 + 2), xa_r (k + 20 + 3), xa_i 0] ∧ h'.1 (k + 20 + 1) = xa_a 240 (fun _ => 0) ∧ h'.1 (k + 20 + 2) = xa_a 4 (fun _ => 0) ∧ h'.1 (k + 20 + 3) = xa_a 120 (fun _ => 0) ∧ h'.1 (k + 24) = xa_o 8 [xa_r (k + 24 + 4), xa_r (k + 3), xa_r (k + 24 + 1), xa_r (k + 24 + 2), xa_r (k + 24 + 3), xa_i 0, xa_i 0] ∧ h'.1 (k + 24 + 1) = xa_a 183 (fun _ => 0) ∧ h'.1 (k + 24 + 2) = xa_a 61 (fun _ => 0) ∧ h'.1 (k + 24 + 3) = xa_a 61 (fun _ => 0) ∧ h'.1 (k + 24 + 4) = xa_o 4 [xa_r (k + 3), xa_r (k + 24 + 4 + 1), xa_r (k + 24 + 4 + 2), xa_i 0, xa_i 0] ∧ h'.1 (k + 24 + 4 + 1) = xa_a 3 (fun _ => 0) ∧ h'.1 (k + 24 + 4 + 2) = xa_a 2 (fun _ => 0) ∧ h'.1 (k + 31) = xa_a 4 (fun _ => 0) ∧ h'.1 (k + 32) = xa_o 1 [xa_r (k + 3), xa_r (k + 32 + 1)] ∧ h'.1 (k + 32 + 1) = xa_o 4 [xa_r (k + 3), xa_r (k + 32 + 1 + 1), xa_r (k + 32 + 1 + 2), xa_i 0, xa_i 0] ∧ h'.1 (k + 32 + 1 + 1) = xa_a 3 (fun _ => 0) ∧ h'.1 (k + 32 + 1 + 2) = xa_a 2 (fun _ => 0) ∧ h'.1 (k + 36) = xa_o 3 [xa_r (k + 3), xa_r (k + 36 + 4), xa_r (k + 36 + 1), xa_r (k + 36 + 2), xa_r (k + 36 + 3), xa_i 0, xa_i 0, xa_i 0, xa_i 0, xa_i 0, xa_i 0, xa_i 0] ∧ h'.1 (k + 36 + 1) = xa_a 360 (fun _ => 0) ∧ h'.1 (k + 36 + 2) = xa_a 360 (fun _ => 0) ∧ h'.1 (k + 36 + 3) = xa_a 0 (fun _ => 0) ∧ h'.1 (k + 36 + 4) = xa_o 6 [xa_r (k + 3), xa_r (k + 36 + 4 + 5), xa_i (-1), xa_r (k + 36 + 4 + 1), xa_r (k + 36 + 4 + 2), xa_i 0, xa_i 0, xa_i 0, xa_r (k + 36 + 4 + 3), xa_r (k + 36 + 4 + 4)] ∧ h'.1 (k + 36 + 4 + 1) = xa_a 2 (fun _ => 0) ∧ h'.1 (k + 36 + 4 + 2) = xa_a 2 (fun _ => 0) ∧ h'.1 (k + 36 + 4 + 3) = xa_a 0 (fun _ => 0) ∧ h'.1 (k + 36 + 4 + 4) = xa_a 0 (fun _ => 0) ∧ h'.1 (k + 36 + 4 + 5) = xa_o 4 [xa_r (k + 3), xa_r (k + 36 + 4 + 5 + 1), xa_r (k + 36 + 4 + 5 + 2), xa_i 0, xa_i 0] ∧ h'.1 (k + 36 + 4 + 5 + 1) = xa_a 3 (fun _ => 0) ∧ h'.1 (k + 36 + 4 + 5 + 2) = xa_a 2 (fun _ => 0) ∧ h'.1 (k + 48) = xa_o 3 [xa_r (k + 3), xa_r (k + 48 + 4), xa_r (k + 48 + 1), xa_r (k + 48 + 2), xa_r (k + 48 + 3), xa_i 0, xa_i 0, xa_i 0, xa_i 0, xa_i 0, xa_i 0, xa_i 0] ∧ h'.1 (k + 48 + 1) = xa_a 360 (fun _ => 0) ∧ h'.1 (k + 48 + 2) = xa_a 360 (fun _ => 0) ∧ h'.1 (k + 48 + 3) = xa_a 0 (fun _ => 0) ∧ h'.1 (k + 48 + 4) = xa_o 6 [xa_r (k + 3), xa_r (k + 48 + 4 + 5), xa_i 0, xa_r (k + 48 + 4 + 1), xa_r (k + 48 + 4 + 2), xa_i 0, xa_i 0, xa_i 0, xa_r (k + 48 + 4 + 3), xa_r (k + 48 + 4 + 4)] ∧ h'.1 (k + 48 + 4 + 1) = xa_a 2 (fun _ => 0) ∧ h'.1 (k + 48 + 4 + 2) = xa_a 2 (fun _ => 0) ∧ h'.1 (k + 48 + 4 + 3) = xa_a 0 (fun _ => 0) ∧ h'.1 (k + 48 + 4 + 4) = xa_a 0 (fun _ => 0) ∧ h'.1 (k + 48 + 4 + 5) = xa_o 4 [xa_r (k + 3), xa_r (k + 48 + 4 + 5 + 1), xa_r (k + 48 + 4 + 5 + 2), xa_i 0, xa_i 0] ∧ h'.1 (k + 48 + 4 + 5 + 1) = xa_a 3 (fun _ => 0) ∧ h'.1 (k + 48 + 4 + 5 + 2) = xa_a 2 (fun _ => 0) ∧ h'.1 (k + 60) = xa_o 3 [xa_r (k + 3), xa_r (k + 60 + 4), xa_r (k + 60 + 1), xa_r (k + 60 + 2), xa_r (k + 60 + 3), xa_i 0, xa_i 0, xa_i 0, xa_i 0, xa_i 0, xa_i 0, xa_i 0] ∧ h'.1 (k + 60 + 1) = xa_a 360 (fun _ => 0) ∧ h'.1 (k + 60 + 2) = xa_a 360 (fun _ => 0) ∧ h'.1 (k + 60 + 3) = xa_a 0 (fun _ => 0) ∧ h'.1 (k + 60 + 4) = xa_o 6 [xa_r (k + 3), xa_r (k + 60 + 4 + 5), xa_i 1, xa_r (k + 60 + 4 + 1), xa_r (k + 60 + 4 + 2), xa_i 0, xa_i 0, xa_i 0, xa_r (k + 60 + 4 + 3), xa_r (k + 60 + 4 + 4)] ∧ h'.1 (k + 60 + 4 + 1) = xa_a 2 (fun _ => 0) ∧ h'.1 (k + 60 + 4 + 2) = xa_a 2 (fun _ => 0) ∧ h'.1 (k + 60 + 4 + 3) = xa_a 0 (fun _ => 0) ∧ h'.1 (k + 60 + 4 + 4) = xa_a 0 (fun _ => 0) ∧ h'.1 (k + 60 + 4 + 5) = xa_o 4 [xa_r (k + 3), xa_r (k + 60 + 4 + 5 + 1), xa_r (k + 60 + 4 + 5 + 2), xa_i 0, xa_i 0] ∧ h'.1 (k + 60 + 4 + 5 + 1) = xa_a 3 (fun _ => 0) ∧ h'.1 (k + 60 + 4 + 5 + 2) = xa_a 2 (fun _ => 0) ∧ h'.2 = k + 72 ∧ ∀ i, i < k → h'.1 i = h0.1 i)) 26 [some (xa_r k), none] [] h 66 3738 := by
  refine xa_aload_n (pc := 26) dX9_init_26 rfl ?_
  refine xa_newo (pc := 27) (ci := 0) (C := RX0) (T := TX0) (N := 8) (fs := [xa_n, xa_n, xa_i 0, xa_i 0, xa_i 0, xa_i 0, xa_i 0, xa_i 0]) (mc0 := 65) (ms0 := 3730) (k + 6) hcn dX9_init_27 rfl wcX0 tyX0_ok clRX9_16 inRX0 ziRX0 (fun j hj => by rcases (show j = 0 ∨ j = 1 ∨ j = 2 ∨ j = 3 ∨ j = 4 ∨ j = 5 ∨ j = 6 ∨ j = 7 by omega) with rfl | rfl | rfl | rfl | rfl | rfl | rfl | rfl <;> rfl) rfl rfl rfl (fun h1 nh1 ch1 oh1 => ?_)
  have hX0 : h1.1 k = xa_o 9 [xa_r (k + 1), xa_r (k + 3), xa_n, xa_n, xa_n, xa_n, xa_i 0, xa_n, xa_n, xa_n, xa_n, xa_n, xa_n] := (oh1 _ (by omega)).trans hX0
  have g1 : h1.1 (k + 1) = xa_o 7 [xa_r (k + 1 + 1), xa_i 0] := (oh1 _ (by omega)).trans g1
  have g1_1 : h1.1 (k + 1 + 1) = xa_a 120 (fun _ => 0) := (oh1 _ (by omega)).trans g1_1
  have g3 : h1.1 (k + 3) = xa_o 0 [xa_r (k + 3 + 1), xa_r (k + 3 + 2), xa_i 0, xa_i 0, xa_i (-4), xa_i 0, xa_i 0, xa_i 10] := (oh1 _ (by omega)).trans g3
  have g3_1 : h1.1 (k + 3 + 1) = xa_a 9 (fun _ => 0) := (oh1 _ (by omega)).trans g3_1
  have g3_2 : h1.1 (k + 3 + 2) = xa_a 2 (fun _ => 0) := (oh1 _ (by omega)).trans g3_2
  have gO6 : h1.1 (k + 6) = xa_o 0 [xa_n, xa_n, xa_i 0, xa_i 0, xa_i 0, xa_i 0, xa_i 0, xa_i 0] := ch1
  have hcn : h1.2 = k + 7 := nh1
  have fr : ∀ i, i < k → h1.1 i = h0.1 i := fun i hi => (oh1 i (by omega)).trans (fr i hi)
  refine xa_dup (pc := 30) dX9_init_30 rfl ?_
  refine xa_callI (pc := 31) (as := []) (rest := [xa_r (k + 6), xa_r k]) (k := (k + 6)) dX9_init_31 ⟨qX0_init.1, qX0_init.2.1, qX0_init.2.2, by decide, by decide⟩ rfl rfl lkRX9_18 imX0_init rfl rfl (Nat.le_of_ble_eq_true rfl) (Nat.le_of_ble_eq_true rfl) (Nat.le_of_ble_eq_true rfl) (c_Body_init _ (by omega) (by omega) gO6) (fun r h' hq => ?_)
  obtain ⟨rfl, ⟨g6, g6_1, g6_2, -, -⟩, hqn, hqf⟩ := hq
  have hX0 : h'.1 k = xa_o 9 [xa_r (k + 1), xa_r (k + 3), xa_n, xa_n, xa_n, xa_n, xa_i 0, xa_n, xa_n, xa_n, xa_n, xa_n, xa_n] := (hqf _ (by omega)).trans hX0
  have g1 : h'.1 (k + 1) = xa_o 7 [xa_r (k + 1 + 1), xa_i 0] := (hqf _ (by omega)).trans g1
  have g1_1 : h'.1 (k + 1 + 1) = xa_a 120 (fun _ => 0) := (hqf _ (by omega)).trans g1_1
  have g3 : h'.1 (k + 3) = xa_o 0 [xa_r (k + 3 + 1), xa_r (k + 3 + 2), xa_i 0, xa_i 0, xa_i (-4), xa_i 0, xa_i 0, xa_i 10] := (hqf _ (by omega)).trans g3
  have g3_1 : h'.1 (k + 3 + 1) = xa_a 9 (fun _ => 0) := (hqf _ (by omega)).trans g3_1
  have g3_2 : h'.1 (k + 3 + 2) = xa_a 2 (fun _ => 0) := (hqf _ (by omega)).trans g3_2
  have g6 : h'.1 (k + 6) = xa_o 0 [xa_r (k + 6 + 1), xa_r (k + 6 + 2), xa_i 0, xa_i 0, xa_i (-4), xa_i 0, xa_i 0, xa_i 10] := g6
  have g6_1 : h'.1 (k + 6 + 1) = xa_a 9 (fun _ => 0) := g6_1
  have g6_2 : h'.1 (k + 6 + 2) = xa_a 2 (fun _ => 0) := g6_2
  have hcn : h'.2 = k + 9 := by omega
  have fr : ∀ i, i < k → h'.1 i = h0.1 i := fun i hi => (hqf i (by omega)).trans (fr i hi)
  refine xa_putwF (pc := 34) [xa_r (k + 1), xa_r (k + 3), xa_r (k + 6), xa_n, xa_n, xa_n, xa_i 0, xa_n, xa_n, xa_n, xa_n, xa_n, xa_n] dX9_init_34 rfl flRX9_23 plX9_2 (by omega) (by omega) hX0 trivial rfl rfl (fun h2 nh2 ch2 oh2 => ?_)
  have hX0 : h2.1 k = xa_o 9 [xa_r (k + 1), xa_r (k + 3), xa_r (k + 6), xa_n, xa_n, xa_n, xa_i 0, xa_n, xa_n, xa_n, xa_n, xa_n, xa_n] := ch2
  have g1 : h2.1 (k + 1) = xa_o 7 [xa_r (k + 1 + 1), xa_i 0] := (oh2 _ (by omega)).trans g1
  have g1_1 : h2.1 (k + 1 + 1) = xa_a 120 (fun _ => 0) := (oh2 _ (by omega)).trans g1_1
  have g3 : h2.1 (k + 3) = xa_o 0 [xa_r (k + 3 + 1), xa_r (k + 3 + 2), xa_i 0, xa_i 0, xa_i (-4), xa_i 0, xa_i 0, xa_i 10] := (oh2 _ (by omega)).trans g3
  have g3_1 : h2.1 (k + 3 + 1) = xa_a 9 (fun _ => 0) := (oh2 _ (by omega)).trans g3_1
  have g3_2 : h2.1 (k + 3 + 2) = xa_a 2 (fun _ => 0) := (oh2 _ (by omega)).trans g3_2
  have g6 : h2.1 (k + 6) = xa_o 0 [xa_r (k + 6 + 1), xa_r (k + 6 + 2), xa_i 0, xa_i 0, xa_i (-4), xa_i 0, xa_i 0, xa_i 10] := (oh2 _ (by omega)).trans g6
  have g6_1 : h2.1 (k + 6 + 1) = xa_a 9 (fun _ => 0) := (oh2 _ (by omega)).trans g6_1
  have g6_2 : h2.1 (k + 6 + 2) = xa_a 2 (fun _ => 0) := (oh2 _ (by omega)).trans g6_2
  have hcn : h2.2 = k + 9 := nh2.trans hcn
  have fr : ∀ i, i < k → h2.1 i = h0.1 i := fun i hi => (oh2 i (by omega)).trans (fr i hi)
  exact c_Cat_cells_3 k hk hcn fr hX0 g1 g1_1 g3 g3_1 g3_2 g6 g6_1 g6_2
theorem c_Cat_cells_1 {G : xa_G} {h0 h : xa_H} (k : Nat) (hk : 2 ≤ k) (hcn : h.2 = k + 3) (fr : ∀ i, i < k → h.1 i = h0.1 i) (hX0 : h.1 k = xa_o 9 [xa_r (k + 1), xa_n, xa_n, xa_n, xa_n, xa_n, xa_i 0, xa_n, xa_n, xa_n, xa_n, xa_n, xa_n]) (g1 : h.1 (k + 1) = xa_o 7 [xa_r (k + 1 + 1), xa_i 0]) (g1_1 : h.1 (k + 1 + 1) = xa_a 120 (fun _ => 0))  : xa_W G mX9_init (xa_Z G (fun r h' => r = none ∧ h'.1 k = xa_o 9 [xa_r (k + 1), xa_r (k + 3), xa_r (k + 6), xa_r (k + 9), xa_r (k + 11), xa_r (k + 15), xa_i 0, xa_r (k + 24), xa_r (k + 31), xa_r (k + 32), xa_r (k + 36), xa_r (k + 48), xa_r (k + 60)] ∧ h'.1 (k + 1) = xa_o 7 [xa_r (k + 1 + 1), xa_i 0] ∧ h'.1 (k + 1 + 1) = xa_a 120 (fun _ => 0) ∧ h'.1 (k + 3) = xa_o 0 [xa_r (k + 3 + 1), xa_r (k + 3 + 2), xa_i 2, xa_i 1, xa_i (-4), xa_i 0, xa_i 0, xa_i 10] ∧ h'.1 (k + 3 + 1) = xa_a 9 (xa_upf (xa_upf (xa_upf (xa_upf (xa_upf (xa_upf (fun _ => 0) (0 * 3) 1) (0 * 3 + 1) 1) (0 * 3 + 2) 1) (1 * 3) 1) (1 * 3 + 1) 1) (1 * 3 + 2) 1) ∧ h'.1 (k + 3 + 2) = xa_a 2 (xa_upf (fun _ => 0) 0 10) ∧ h'.1 (k + 6) = xa_o 0 [xa_r (k + 6 + 1), xa_r (k + 6 + 2), xa_i 0, xa_i 0, xa_i (-4), xa_i 0, xa_i 0, xa_i 10] ∧ h'.1 (k + 6 + 1) = xa_a 9 (fun _ => 0) ∧ h'.1 (k + 6 + 2) = xa_a 2 (fun _ => 0) ∧ h'.1 (k + 9) = xa_o 2 [xa_r (k + 1), xa_r (k + 6), xa_r (k + 9 + 1), xa_i 0] ∧ h'.1 (k + 9 + 1) = xa_a 3 (fun _ => 0) ∧ h'.1 (k + 11) = xa_o 5 [xa_r (k + 11 + 1), xa_r (k + 11 + 2), xa_r (k + 11 + 3), xa_i 0] ∧ h'.1 (k + 11 + 1) = xa_a 240 (fun _ => 0) ∧ h'.1 (k + 11 + 2) = xa_a 4 (fun _ => 0) ∧ h'.1 (k + 11 + 3) = xa_a 120 (fun _ => 0) ∧ h'.1 (k + 15) = xa_q 2 (fun j => if j = 1 then some (k + 20) else (fun j => if j = 0 then some (k + 16) else (fun _ => none) j) j) ∧ h'.1 (k + 16) = xa_o 5 [xa_r (k + 16 + 1), xa_r (k + 16 + 2), xa_r (k + 16 + 3), xa_i 0] ∧ h'.1 (k + 16 + 1) = xa_a 240 (fun _ => 0) ∧ h'.1 (k + 16 + 2) = xa_a 4 (fun _ => 0) ∧ h'.1 (k + 16 + 3) = xa_a 120 (fun _ => 0) ∧ h'.1 (k + 20) = xa_o 5 [xa_r (k + 20 + 1), xa_r (k + 20 + 2), xa_r (k + 20 + 3), xa_i 0] ∧ h'.1 (k + 20 + 1) = xa_a 240 (fun _ => 0) ∧ h'.1 (k + 20 + 2) = xa_a 4 (fun _ => 0) ∧ h'.1 (k + 20 + 3) = xa_a 120 (fun _ => 0) ∧ h'.1 (k + 24) = xa_o 8 [xa_r (k + 24 + 4), xa_r (k + 3), xa_r (k + 24 + 1), xa_r (k + 24 + 2), xa_r (k + 24 + 3), xa_i 0, xa_i 0] ∧ h'.1 (k + 24 + 1) = xa_a 183 (fun _ => 0) ∧ h'.1 (k + 24 + 2) = xa_a 61 (fun _ => 0) ∧ h'.1 (k + 24 + 3) = xa_a 61 (fun _ => 0) ∧ h'.1 (k + 24 + 4) = xa_o 4 [xa_r (k + 3), xa_r (k + 24 + 4 + 1), xa_r (k + 24 + 4 + 2), xa_i 0, xa_i 0] ∧ h'.1 (k + 24 + 4 + 1) = xa_a 3 (fun _ => 0) ∧ h'.1 (k + 24 + 4 + 2) = xa_a 2 (fun _ => 0) ∧ h'.1 (k + 31) = xa_a 4 (fun _ => 0) ∧ h'.1 (k + 32) = xa_o 1 [xa_r (k + 3), xa_r (k + 32 + 1)] ∧ h'.1 (k + 32 + 1) = xa_o 4 [xa_r (k + 3), xa_r (k + 32 + 1 + 1), xa_r (k + 32 + 1 + 2), xa_i 0, xa_i 0] ∧ h'.1 (k + 32 + 1 + 1) = xa_a 3 (fun _ => 0) ∧ h'.1 (k + 32 + 1 + 2) = xa_a 2 (fun _ => 0) ∧ h'.1 (k + 36) = xa_o 3 [xa_r (k + 3), xa_r (k + 36 + 4), xa_r (k + 36 + 1), xa_r (k + 36 + 2), xa_r (k + 36 + 3), xa_i 0, xa_i 0, xa_i 0, xa_i 0, xa_i 0, xa_i 0, xa_i 0] ∧ h'.1 (k + 36 + 1) = xa_a 360 (fun _ => 0) ∧ h'.1 (k + 36 + 2) = xa_a 360 (fun _ => 0) ∧ h'.1 (k + 36 + 3) = xa_a 0 (fun _ => 0) ∧ h'.1 (k + 36 + 4) = xa_o 6 [xa_r (k + 3), xa_r (k + 36 + 4 + 5), xa_i (-1), xa_r (k + 36 + 4 + 1), xa_r (k + 36 + 4 + 2), xa_i 0, xa_i 0, xa_i 0, xa_r (k + 36 + 4 + 3), xa_r (k + 36 + 4 + 4)] ∧ h'.1 (k + 36 + 4 + 1) = xa_a 2 (fun _ => 0) ∧ h'.1 (k + 36 + 4 + 2) = xa_a 2 (fun _ => 0) ∧ h'.1 (k + 36 + 4 + 3) = xa_a 0 (fun _ => 0) ∧ h'.1 (k + 36 + 4 + 4) = xa_a 0 (fun _ => 0) ∧ h'.1 (k + 36 + 4 + 5) = xa_o 4 [xa_r (k + 3), xa_r (k + 36 + 4 + 5 + 1), xa_r (k + 36 + 4 + 5 + 2), xa_i 0, xa_i 0] ∧ h'.1 (k + 36 + 4 + 5 + 1) = xa_a 3 (fun _ => 0) ∧ h'.1 (k + 36 + 4 + 5 + 2) = xa_a 2 (fun _ => 0) ∧ h'.1 (k + 48) = xa_o 3 [xa_r (k + 3), xa_r (k + 48 + 4), xa_r (k + 48 + 1), xa_r (k + 48 + 2), xa_r (k + 48 + 3), xa_i 0, xa_i 0, xa_i 0, xa_i 0, xa_i 0, xa_i 0, xa_i 0] ∧ h'.1 (k + 48 + 1) = xa_a 360 (fun _ => 0) ∧ h'.1 (k + 48 + 2) = xa_a 360 (fun _ => 0) ∧ h'.1 (k + 48 + 3) = xa_a 0 (fun _ => 0) ∧ h'.1 (k + 48 + 4) = xa_o 6 [xa_r (k + 3), xa_r (k + 48 + 4 + 5), xa_i 0, xa_r (k + 48 + 4 + 1), xa_r (k + 48 + 4 + 2), xa_i 0, xa_i 0, xa_i 0, xa_r (k + 48 + 4 + 3), xa_r (k + 48 + 4 + 4)] ∧ h'.1 (k + 48 + 4 + 1) = xa_a 2 (fun _ => 0) ∧ h'.1 (k + 48 + 4 + 2) = xa_a 2 (fun _ => 0) ∧ h'.1 (k + 48 + 4 + 3) = xa_a 0 (fun _ => 0) ∧ h'.1 (k + 48 + 4 + 4) = xa_a 0 (fun _ => 0) ∧ h'.1 (k + 48 + 4 + 5) = xa_o 4 [xa_r (k + 3), xa_r (k + 48 + 4 + 5 + 1), xa_r (k + 48 + 4 + 5 + 2), xa_i 0, xa_i 0] ∧ h'.1 (k + 48 + 4 + 5 + 1) = xa_a 3 (fun _ => 0) ∧ h'.1 (k + 48 + 4 + 5 + 2) = xa_a 2 (fun _ => 0) ∧ h'.1 (k + 60) = xa_o 3 [xa_r (k + 3), xa_r (k + 60 + 4), xa_r (k + 60 + 1), xa_r (k + 60 + 2), xa_r (k + 60 + 3), xa_i 0, xa_i 0, xa_i 0, xa_i 0, xa_i 0, xa_i 0, xa_i 0] ∧ h'.1 (k + 60 + 1) = xa_a 360 (fun _ => 0) ∧ h'.1 (k + 60 + 2) = xa_a 360 (fun _ => 0) ∧ h'.1 (k + 60 + 3) = xa_a 0 (fun _ => 0) ∧ h'.1 (k + 60 + 4) = xa_o 6 [xa_r (k + 3), xa_r (k + 60 + 4 + 5), xa_i 1, xa_r (k + 60 + 4 + 1), xa_r (k + 60 + 4 + 2), xa_i 0, xa_i 0, xa_i 0, xa_r (k + 60 + 4 + 3), xa_r (k + 60 + 4 + 4)] ∧ h'.1 (k + 60 + 4 + 1) = xa_a 2 (fun _ => 0) ∧ h'.1 (k + 60 + 4 + 2) = xa_a 2 (fun _ => 0) ∧ h'.1 (k + 60 + 4 + 3) = xa_a 0 (fun _ => 0) ∧ h'.1 (k + 60 + 4 + 4) = xa_a 0 (fun _ => 0) ∧ h'.1 (k + 60 + 4 + 5) = xa_o 4 [xa_r (k + 3), xa_r (k + 60 + 4 + 5 + 1), xa_r (k + 60 + 4 + 5 + 2), xa_i 0, xa_i 0] ∧ h'.1 (k + 60 + 4 + 5 + 1) = xa_a 3 (fun _ => 0) ∧ h'.1 (k + 60 + 4 + 5 + 2) = xa_a 2 (fun _ => 0) ∧ h'.2 = k + 72 ∧ ∀ i, i < k → h'.1 i = h0.1 i)) 15 [some (xa_r k), none] [] h 69 3757 := by
  refine xa_aload_n (pc := 15) dX9_init_15 rfl ?_
  refine xa_newo (pc := 16) (ci := 0) (C := RX0) (T := TX0) (N := 8) (fs := [xa_n, xa_n, xa_i 0, xa_i 0, xa_i 0, xa_i 0, xa_i 0, xa_i 0]) (mc0 := 68) (ms0 := 3749) (k + 3) hcn dX9_init_16 rfl wcX0 tyX0_ok clRX9_16 inRX0 ziRX0 (fun j hj => by rcases (show j = 0 ∨ j = 1 ∨ j = 2 ∨ j = 3 ∨ j = 4 ∨ j = 5 ∨ j = 6 ∨ j = 7 by omega) with rfl | rfl | rfl | rfl | rfl | rfl | rfl | rfl <;> rfl) rfl rfl rfl (fun h1 nh1 ch1 oh1 => ?_)
  have hX0 : h1.1 k = xa_o 9 [xa_r (k + 1), xa_n, xa_n, xa_n, xa_n, xa_n, xa_i 0, xa_n, xa_n, xa_n, xa_n, xa_n, xa_n] := (oh1 _ (by omega)).trans hX0
  have g1 : h1.1 (k + 1) = xa_o 7 [xa_r (k + 1 + 1), xa_i 0] := (oh1 _ (by omega)).trans g1
  have g1_1 : h1.1 (k + 1 + 1) = xa_a 120 (fun _ => 0) := (oh1 _ (by omega)).trans g1_1
  have gO3 : h1.1 (k + 3) = xa_o 0 [xa_n, xa_n, xa_i 0, xa_i 0, xa_i 0, xa_i 0, xa_i 0, xa_i 0] := ch1
  have hcn : h1.2 = k + 4 := nh1
  have fr : ∀ i, i < k → h1.1 i = h0.1 i := fun i hi => (oh1 i (by omega)).trans (fr i hi)
  refine xa_dup (pc := 19) dX9_init_19 rfl ?_
  refine xa_callI (pc := 20) (as := []) (rest := [xa_r (k + 3), xa_r k]) (k := (k + 3)) dX9_init_20 ⟨qX0_init.1, qX0_init.2.1, qX0_init.2.2, by decide, by decide⟩ rfl rfl lkRX9_18 imX0_init rfl rfl (Nat.le_of_ble_eq_true rfl) (Nat.le_of_ble_eq_true rfl) (Nat.le_of_ble_eq_true rfl) (c_Body_init _ (by omega) (by omega) gO3) (fun r h' hq => ?_)
  obtain ⟨rfl, ⟨g3, g3_1, g3_2, -, -⟩, hqn, hqf⟩ := hq
  have hX0 : h'.1 k = xa_o 9 [xa_r (k + 1), xa_n, xa_n, xa_n, xa_n, xa_n, xa_i 0, xa_n, xa_n, xa_n, xa_n, xa_n, xa_n] := (hqf _ (by omega)).trans hX0
  have g1 : h'.1 (k + 1) = xa_o 7 [xa_r (k + 1 + 1), xa_i 0] := (hqf _ (by omega)).trans g1
  have g1_1 : h'.1 (k + 1 + 1) = xa_a 120 (fun _ => 0) := (hqf _ (by omega)).trans g1_1
  have g3 : h'.1 (k + 3) = xa_o 0 [xa_r (k + 3 + 1), xa_r (k + 3 + 2), xa_i 0, xa_i 0, xa_i (-4), xa_i 0, xa_i 0, xa_i 10] := g3
  have g3_1 : h'.1 (k + 3 + 1) = xa_a 9 (fun _ => 0) := g3_1
  have g3_2 : h'.1 (k + 3 + 2) = xa_a 2 (fun _ => 0) := g3_2
  have hcn : h'.2 = k + 6 := by omega
  have fr : ∀ i, i < k → h'.1 i = h0.1 i := fun i hi => (hqf i (by omega)).trans (fr i hi)
  refine xa_putwF (pc := 23) [xa_r (k + 1), xa_r (k + 3), xa_n, xa_n, xa_n, xa_n, xa_i 0, xa_n, xa_n, xa_n, xa_n, xa_n, xa_n] dX9_init_23 rfl flRX9_19 plX9_1 (by omega) (by omega) hX0 trivial rfl rfl (fun h2 nh2 ch2 oh2 => ?_)
  have hX0 : h2.1 k = xa_o 9 [xa_r (k + 1), xa_r (k + 3), xa_n, xa_n, xa_n, xa_n, xa_i 0, xa_n, xa_n, xa_n, xa_n, xa_n, xa_n] := ch2
  have g1 : h2.1 (k + 1) = xa_o 7 [xa_r (k + 1 + 1), xa_i 0] := (oh2 _ (by omega)).trans g1
  have g1_1 : h2.1 (k + 1 + 1) = xa_a 120 (fun _ => 0) := (oh2 _ (by omega)).trans g1_1
  have g3 : h2.1 (k + 3) = xa_o 0 [xa_r (k + 3 + 1), xa_r (k + 3 + 2), xa_i 0, xa_i 0, xa_i (-4), xa_i 0, xa_i 0, xa_i 10] := (oh2 _ (by omega)).trans g3
  have g3_1 : h2.1 (k + 3 + 1) = xa_a 9 (fun _ => 0) := (oh2 _ (by omega)).trans g3_1
  have g3_2 : h2.1 (k + 3 + 2) = xa_a 2 (fun _ => 0) := (oh2 _ (by omega)).trans g3_2
  have hcn : h2.2 = k + 6 := nh2.trans hcn
  have fr : ∀ i, i < k → h2.1 i = h0.1 i := fun i hi => (oh2 i (by omega)).trans (fr i hi)
  exact c_Cat_cells_2 k hk hcn fr hX0 g1 g1_1 g3 g3_1 g3_2
theorem c_Cat_cells {G : xa_G} {h : xa_H} (k : Nat) (hk : 2 ≤ k) (hcn : h.2 = k + 1) (hX0 : h.1 k = xa_o 9 [xa_n, xa_n, xa_n, xa_n, xa_n, xa_n, xa_i 0, xa_n, xa_n, xa_n, xa_n, xa_n, xa_n])  : xa_M G mX9_init [xa_r k] h 71 3879 (fun r h' => r = none ∧ h'.1 k = xa_o 9 [xa_r (k + 1), xa_r (k + 3), xa_r (k + 6), xa_r (k + 9), xa_r (k + 11), xa_r (k + 15), xa_i 0, xa_r (k + 24), xa_r (k + 31), xa_r (k + 32), xa_r (k + 36), xa_r (k + 48), xa_r (k + 60)] ∧ h'.1 (k + 1) = xa_o 7 [xa_r (k + 1 + 1), xa_i 0] ∧ h'.1 (k + 1 + 1) = xa_a 120 (fun _ => 0) ∧ h'.1 (k + 3) = xa_o 0 [xa_r (k + 3 + 1), xa_r (k + 3 + 2), xa_i 2, xa_i 1, xa_i (-4), xa_i 0, xa_i 0, xa_i 10] ∧ h'.1 (k + 3 + 1) = xa_a 9 (xa_upf (xa_upf (xa_upf (xa_upf (xa_upf (xa_upf (fun _ => 0) (0 * 3) 1) (0 * 3 + 1) 1) (0 * 3 + 2) 1) (1 * 3) 1) (1 * 3 + 1) 1) (1 * 3 + 2) 1) ∧ h'.1 (k + 3 + 2) = xa_a 2 (xa_upf (fun _ => 0) 0 10) ∧ h'.1 (k + 6) = xa_o 0 [xa_r (k + 6 + 1), xa_r (k + 6 + 2), xa_i 0, xa_i 0, xa_i (-4), xa_i 0, xa_i 0, xa_i 10] ∧ h'.1 (k + 6 + 1) = xa_a 9 (fun _ => 0) ∧ h'.1 (k + 6 + 2) = xa_a 2 (fun _ => 0) ∧ h'.1 (k + 9) = xa_o 2 [xa_r (k + 1), xa_r (k + 6), xa_r (k + 9 + 1), xa_i 0] ∧ h'.1 (k + 9 + 1) = xa_a 3 (fun _ => 0) ∧ h'.1 (k + 11) = xa_o 5 [xa_r (k + 11 + 1), xa_r (k + 11 + 2), xa_r (k + 11 + 3), xa_i 0] ∧ h'.1 (k + 11 + 1) = xa_a 240 (fun _ => 0) ∧ h'.1 (k + 11 + 2) = xa_a 4 (fun _ => 0) ∧ h'.1 (k + 11 + 3) = xa_a 120 (fun _ => 0) ∧ h'.1 (k + 15) = xa_q 2 (fun j => if j = 1 then some (k + 20) else (fun j => if j = 0 then some (k + 16) else (fun _ => none) j) j) ∧ h'.1 (k + 16) = xa_o 5 [xa_r (k + 16 + 1), xa_r (k + 16 + 2), xa_r (k + 16 + 3), xa_i 0] ∧ h'.1 (k + 16 + 1) = xa_a 240 (fun _ => 0) ∧ h'.1 (k + 16 + 2) = xa_a 4 (fun _ => 0) ∧ h'.1 (k + 16 + 3) = xa_a 120 (fun _ => 0) ∧ h'.1 (k + 20) = xa_o 5 [xa_r (k + 20 + 1), xa_r (k + 20 + 2), xa_r (k + 20 + 3), xa_i 0] ∧ h'.1 (k + 20 + 1) = xa_a 240 (fun _ => 0) ∧ h'.1 (k + 20 + 2) = xa_a 4 (fun _ => 0) ∧ h'.1 (k + 20 + 3) = xa_a 120 (fun _ => 0) ∧ h'.1 (k + 24) = xa_o 8 [xa_r (k + 24 + 4), xa_r (k + 3), xa_r (k + 24 + 1), xa_r (k + 24 + 2), xa_r (k + 24 + 3), xa_i 0, xa_i 0] ∧ h'.1 (k + 24 + 1) = xa_a 183 (fun _ => 0) ∧ h'.1 (k + 24 + 2) = xa_a 61 (fun _ => 0) ∧ h'.1 (k + 24 + 3) = xa_a 61 (fun _ => 0) ∧ h'.1 (k + 24 + 4) = xa_o 4 [xa_r (k + 3), xa_r (k + 24 + 4 + 1), xa_r (k + 24 + 4 + 2), xa_i 0, xa_i 0] ∧ h'.1 (k + 24 + 4 + 1) = xa_a 3 (fun _ => 0) ∧ h'.1 (k + 24 + 4 + 2) = xa_a 2 (fun _ => 0) ∧ h'.1 (k + 31) = xa_a 4 (fun _ => 0) ∧ h'.1 (k + 32) = xa_o 1 [xa_r (k + 3), xa_r (k + 32 + 1)] ∧ h'.1 (k + 32 + 1) = xa_o 4 [xa_r (k + 3), xa_r (k + 32 + 1 + 1), xa_r (k + 32 + 1 + 2), xa_i 0, xa_i 0] ∧ h'.1 (k + 32 + 1 + 1) = xa_a 3 (fun _ => 0) ∧ h'.1 (k + 32 + 1 + 2) = xa_a 2 (fun _ => 0) ∧ h'.1 (k + 36) = xa_o 3 [xa_r (k + 3), xa_r (k + 36 + 4), xa_r (k + 36 + 1), xa_r (k + 36 + 2), xa_r (k + 36 + 3), xa_i 0, xa_i 0, xa_i 0, xa_i 0, xa_i 0, xa_i 0, xa_i 0] ∧ h'.1 (k + 36 + 1) = xa_a 360 (fun _ => 0) ∧ h'.1 (k + 36 + 2) = xa_a 360 (fun _ => 0) ∧ h'.1 (k + 36 + 3) = xa_a 0 (fun _ => 0) ∧ h'.1 (k + 36 + 4) = xa_o 6 [xa_r (k + 3), xa_r (k + 36 + 4 + 5), xa_i (-1), xa_r (k + 36 + 4 + 1), xa_r (k + 36 + 4 + 2), xa_i 0, xa_i 0, xa_i 0, xa_r (k + 36 + 4 + 3), xa_r (k + 36 + 4 + 4)] ∧ h'.1 (k + 36 + 4 + 1) = xa_a 2 (fun _ => 0) ∧ h'.1 (k + 36 + 4 + 2) = xa_a 2 (fun _ => 0) ∧ h'.1 (k + 36 + 4 + 3) = xa_a 0 (fun _ => 0) ∧ h'.1 (k + 36 + 4 + 4) = xa_a 0 (fun _ => 0) ∧ h'.1 (k + 36 + 4 + 5) = xa_o 4 [xa_r (k + 3), xa_r (k + 36 + 4 + 5 + 1), xa_r (k + 36 + 4 + 5 + 2), xa_i 0, xa_i 0] ∧ h'.1 (k + 36 + 4 + 5 + 1) = xa_a 3 (fun _ => 0) ∧ h'.1 (k + 36 + 4 + 5 + 2) = xa_a 2 (fun _ => 0) ∧ h'.1 (k + 48) = xa_o 3 [xa_r (k + 3), xa_r (k + 48 + 4), xa_r (k + 48 + 1), xa_r (k + 48 + 2), xa_r (k + 48 + 3), xa_i 0, xa_i 0, xa_i 0, xa_i 0, xa_i 0, xa_i 0, xa_i 0] ∧ h'.1 (k + 48 + 1) = xa_a 360 (fun _ => 0) ∧ h'.1 (k + 48 + 2) = xa_a 360 (fun _ => 0) ∧ h'.1 (k + 48 + 3) = xa_a 0 (fun _ => 0) ∧ h'.1 (k + 48 + 4) = xa_o 6 [xa_r (k + 3), xa_r (k + 48 + 4 + 5), xa_i 0, xa_r (k + 48 + 4 + 1), xa_r (k + 48 + 4 + 2), xa_i 0, xa_i 0, xa_i 0, xa_r (k + 48 + 4 + 3), xa_r (k + 48 + 4 + 4)] ∧ h'.1 (k + 48 + 4 + 1) = xa_a 2 (fun _ => 0) ∧ h'.1 (k + 48 + 4 + 2) = xa_a 2 (fun _ => 0) ∧ h'.1 (k + 48 + 4 + 3) = xa_a 0 (fun _ => 0) ∧ h'.1 (k + 48 + 4 + 4) = xa_a 0 (fun _ => 0) ∧ h'.1 (k + 48 + 4 + 5) = xa_o 4 [xa_r (k + 3), xa_r (k + 48 + 4 + 5 + 1), xa_r (k + 48 + 4 + 5 + 2), xa_i 0, xa_i 0] ∧ h'.1 (k + 48 + 4 + 5 + 1) = xa_a 3 (fun _ => 0) ∧ h'.1 (k + 48 + 4 + 5 + 2) = xa_a 2 (fun _ => 0) ∧ h'.1 (k + 60) = xa_o 3 [xa_r (k + 3), xa_r (k + 60 + 4), xa_r (k + 60 + 1), xa_r (k + 60 + 2), xa_r (k + 60 + 3), xa_i 0, xa_i 0, xa_i 0, xa_i 0, xa_i 0, xa_i 0, xa_i 0] ∧ h'.1 (k + 60 + 1) = xa_a 360 (fun _ => 0) ∧ h'.1 (k + 60 + 2) = xa_a 360 (fun _ => 0) ∧ h'.1 (k + 60 + 3) = xa_a 0 (fun _ => 0) ∧ h'.1 (k + 60 + 4) = xa_o 6 [xa_r (k + 3), xa_r (k + 60 + 4 + 5), xa_i 1, xa_r (k + 60 + 4 + 1), xa_r (k + 60 + 4 + 2), xa_i 0, xa_i 0, xa_i 0, xa_r (k + 60 + 4 + 3), xa_r (k + 60 + 4 + 4)] ∧ h'.1 (k + 60 + 4 + 1) = xa_a 2 (fun _ => 0) ∧ h'.1 (k + 60 + 4 + 2) = xa_a 2 (fun _ => 0) ∧ h'.1 (k + 60 + 4 + 3) = xa_a 0 (fun _ => 0) ∧ h'.1 (k + 60 + 4 + 4) = xa_a 0 (fun _ => 0) ∧ h'.1 (k + 60 + 4 + 5) = xa_o 4 [xa_r (k + 3), xa_r (k + 60 + 4 + 5 + 1), xa_r (k + 60 + 4 + 5 + 2), xa_i 0, xa_i 0] ∧ h'.1 (k + 60 + 4 + 5 + 1) = xa_a 3 (fun _ => 0) ∧ h'.1 (k + 60 + 4 + 5 + 2) = xa_a 2 (fun _ => 0) ∧ h'.2 = k + 72 ∧ ∀ i, i < k → h'.1 i = h.1 i) := by
  refine xa_enter (by decide +kernel) (Nat.le_of_ble_eq_true rfl) ?_
  refine xa_locals (ls' := [some (xa_r k), none]) rfl ?_
  have fr : ∀ i, i < k → h.1 i = h.1 i := fun _ _ => rfl
  refine xa_aload_n (pc := 0) dX9_init_0 rfl ?_
  refine xa_objinit (pc := 1) dX9_init_1 lkRX9_3 zo_1 zo_2 (Nat.le_of_ble_eq_true rfl) (by decide) ?_
  refine xa_aload_n (pc := 4) dX9_init_4 rfl ?_
  refine xa_newo (pc := 5) (ci := 7) (C := RX7) (T := TX7) (N := 2) (fs := [xa_n, xa_i 0]) (mc0 := 70) (ms0 := 3877) (k + 1) hcn dX9_init_5 rfl wcX7 tyX7_ok clRX9_9 inRX7 ziRX7 (fun j hj => by rcases (show j = 0 ∨ j = 1 by omega) with rfl | rfl <;> rfl) rfl rfl rfl (fun h1 nh1 ch1 oh1 => ?_)
  have hX0 : h1.1 k = xa_o 9 [xa_n, xa_n, xa_n, xa_n, xa_n, xa_n, xa_i 0, xa_n, xa_n, xa_n, xa_n, xa_n, xa_n] := (oh1 _ (by omega)).trans hX0
  have gO1 : h1.1 (k + 1) = xa_o 7 [xa_n, xa_i 0] := ch1
  have hcn : h1.2 = k + 2 := nh1
  have fr : ∀ i, i < k → h1.1 i = h.1 i := fun i hi => (oh1 i (by omega)).trans (fr i hi)
  refine xa_dup (pc := 8) dX9_init_8 rfl ?_
  refine xa_callI (pc := 9) (as := []) (rest := [xa_r (k + 1), xa_r k]) (k := (k + 1)) dX9_init_9 ⟨qX7_init.1, qX7_init.2.1, qX7_init.2.2, by decide, by decide⟩ rfl rfl lkRX9_11 imX7_init rfl rfl (Nat.le_of_ble_eq_true rfl) (Nat.le_of_ble_eq_true rfl) (Nat.le_of_ble_eq_true rfl) (c_Text_init _ (by omega) (by omega) gO1) (fun r h' hq => ?_)
  obtain ⟨rfl, ⟨g1, g1_1, -, -, -, -⟩, hqn, hqf⟩ := hq
  have hX0 : h'.1 k = xa_o 9 [xa_n, xa_n, xa_n, xa_n, xa_n, xa_n, xa_i 0, xa_n, xa_n, xa_n, xa_n, xa_n, xa_n] := (hqf _ (by omega)).trans hX0
  have g1 : h'.1 (k + 1) = xa_o 7 [xa_r (k + 1 + 1), xa_i 0] := g1
  have g1_1 : h'.1 (k + 1 + 1) = xa_a 120 (fun _ => 0) := g1_1
  have hcn : h'.2 = k + 3 := by omega
  have fr : ∀ i, i < k → h'.1 i = h.1 i := fun i hi => (hqf i (by omega)).trans (fr i hi)
  refine xa_putwF (pc := 12) [xa_r (k + 1), xa_n, xa_n, xa_n, xa_n, xa_n, xa_i 0, xa_n, xa_n, xa_n, xa_n, xa_n, xa_n] dX9_init_12 rfl flRX9_12 plX9_0 (by omega) (by omega) hX0 trivial rfl rfl (fun h2 nh2 ch2 oh2 => ?_)
  have hX0 : h2.1 k = xa_o 9 [xa_r (k + 1), xa_n, xa_n, xa_n, xa_n, xa_n, xa_i 0, xa_n, xa_n, xa_n, xa_n, xa_n, xa_n] := ch2
  have g1 : h2.1 (k + 1) = xa_o 7 [xa_r (k + 1 + 1), xa_i 0] := (oh2 _ (by omega)).trans g1
  have g1_1 : h2.1 (k + 1 + 1) = xa_a 120 (fun _ => 0) := (oh2 _ (by omega)).trans g1_1
  have hcn : h2.2 = k + 3 := nh2.trans hcn
  have fr : ∀ i, i < k → h2.1 i = h.1 i := fun i hi => (oh2 i (by omega)).trans (fr i hi)
  exact c_Cat_cells_1 k hk hcn fr hX0 g1 g1_1
