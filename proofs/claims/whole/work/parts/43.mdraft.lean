/-! the model's draft, and what an item makes of it -/
def mBd (F : Nat → Nat → Int) : Prop := (∀ i, 0 ≤ F 3 i ∧ F 3 i ≤ 99) ∧ (∀ i, 0 ≤ F 5 i ∧ F 5 i ≤ 120) ∧ (∀ i, 0 ≤ F 6 i ∧ F 6 i ≤ 1) ∧ (∀ i, 0 ≤ F 4 i ∧ F 4 i ≤ 2) ∧ (∀ i, 0 ≤ F 2 i ∧ F 2 i ≤ 3) ∧ (∀ i, -9999 ≤ F 7 i ∧ F 7 i ≤ 9999) ∧ (∀ i, 0 ≤ F 8 i ∧ F 8 i ≤ 90)
def mD (F : Nat → Nat → Int) (b : xBt) : Prop := F 2 1 = (b.2.2.1 : Int) ∧ F 4 1 = (b.2.2.2.1 : Int) ∧ (∀ i, i < 3 * b.2.2.1 → F 3 (9 + i) = b.1 i) ∧ (∀ j, j < b.2.2.2.1 → F 5 (2 + j) = b.2.1 j) ∧ (∀ j : Nat, j < b.2.2.2.1 → F 6 (2 + j) = if (j : Int) = b.2.2.2.2.1 then 1 else 0) ∧ F 7 1 = b.2.2.2.2.2.2.1 ∧ F 8 1 = b.2.2.2.2.2.2.2
def mFr (F F' : Nat → Nat → Int) : Prop := (F' 1 = F 1 ∧ F' 9 = F 9 ∧ F' 10 = F 10 ∧ F' 11 = F 11 ∧ F' 12 = F 12 ∧ F' 14 = F 14 ∧ F' 15 = F 15 ∧ F' 16 = F 16) ∧ (F' 2 0 = F 2 0 ∧ F' 4 0 = F 4 0 ∧ (∀ i, i < 9 → F' 3 i = F 3 i) ∧ (∀ i, i < 2 → F' 5 i = F 5 i) ∧ (∀ i, i < 2 → F' 6 i = F 6 i) ∧ F' 7 0 = F 7 0 ∧ F' 8 0 = F 8 0)
theorem mFr.rfl (F : Nat → Nat → Int) : mFr F F := ⟨⟨.refl _, .refl _, .refl _, .refl _, .refl _, .refl _, .refl _, .refl _⟩, .refl _, .refl _, fun _ _ => .refl _, fun _ _ => .refl _, fun _ _ => .refl _, .refl _, .refl _⟩
theorem mFr.trans {F F' F'' : Nat → Nat → Int} (h : mFr F F') (h' : mFr F' F'') : mFr F F'' := by
  obtain ⟨⟨a1, a2, a3, a4, a5, a6, a7, a8⟩, b1, b2, b3, b4, b5, b6, b7⟩ := h
  obtain ⟨⟨c1, c2, c3, c4, c5, c6, c7, c8⟩, d1, d2, d3, d4, d5, d6, d7⟩ := h'
  exact ⟨⟨c1.trans a1, c2.trans a2, c3.trans a3, c4.trans a4, c5.trans a5, c6.trans a6, c7.trans a7, c8.trans a8⟩, d1.trans b1, d2.trans b2, fun i hi => (d3 i hi).trans (b3 i hi), fun i hi => (d4 i hi).trans (b4 i hi), fun i hi => (d5 i hi).trans (b5 i hi), d6.trans b6, d7.trans b7⟩
theorem mFr_num (F : Nat → Nat → Int) (nu : Nat → Int) : mFr F (xa_uF F 13 nu) := ⟨⟨rfl, rfl, rfl, rfl, rfl, rfl, rfl, rfl⟩, rfl, rfl, fun _ _ => rfl, fun _ _ => rfl, fun _ _ => rfl, rfl, rfl⟩
section MD
variable {F : Nat → Nat → Int} {b : xBt} {nu : Nat → Int}
theorem mD_part (hv : vD b) (hD : mD F b) (hB : mBd F) {u : Int × Int × Int × Nat} (hc : F 2 1 ≠ 3 ∧ (1 ≤ u.1 ∧ u.1 ≤ 99) ∧ (1 ≤ u.2.1 ∧ u.2.1 ≤ 99) ∧ (1 ≤ u.2.2.1 ∧ u.2.2.1 ≤ 99)) : ∃ b', rd_bt b 112 3 (rd_nu u.1 u.2.1 u.2.2.1) = some b' ∧ mD (xa_uF (xa_uF (xa_uF F 13 nu) 3 (xa_upf (xa_upf (xa_upf (F 3) (9 + 3 * F 2 1 + 0).toNat u.1) (9 + 3 * F 2 1 + 1).toNat u.2.1) (9 + 3 * F 2 1 + 2).toNat u.2.2.1)) 2 (xa_upf (F 2) 1 (F 2 1 + 1))) b' ∧ mBd (xa_uF (xa_uF (xa_uF F 13 nu) 3 (xa_upf (xa_upf (xa_upf (F 3) (9 + 3 * F 2 1 + 0).toNat u.1) (9 + 3 * F 2 1 + 1).toNat u.2.1) (9 + 3 * F 2 1 + 2).toNat u.2.2.1)) 2 (xa_upf (F 2) 1 (F 2 1 + 1))) ∧ mFr F (xa_uF (xa_uF (xa_uF F 13 nu) 3 (xa_upf (xa_upf (xa_upf (F 3) (9 + 3 * F 2 1 + 0).toNat u.1) (9 + 3 * F 2 1 + 1).toNat u.2.1) (9 + 3 * F 2 1 + 2).toNat u.2.2.1)) 2 (xa_upf (F 2) 1 (F 2 1 + 1))) := by
  obtain ⟨ld, dg, pa, jo, wa, sr, pu, ri⟩ := b
  obtain ⟨d1, d2, d3, d4, d5, d6, d7⟩ := hD
  obtain ⟨b1, b2, b3, b4, b5, b6, b7⟩ := hB
  have hp := hv.1.1
  dsimp only at d1 d2 d3 d4 d5 d6 d7 hp
  have e : rd_bt (ld, dg, pa, jo, wa, sr, pu, ri) 112 3 (rd_nu u.1 u.2.1 u.2.2.1) = some (xa_upf (xa_upf (xa_upf ld (pa * 3) u.1) (pa * 3 + 1) u.2.1) (pa * 3 + 2) u.2.2.1, dg, pa + 1, jo, wa, sr, pu, ri) := by
    unfold rd_bt sp_item
    rw [if_pos rfl, if_pos ⟨rfl, by show pa ≤ 2; omega, hc.2⟩]
    rfl
  refine ⟨_, e, ⟨?_, d2, fun i hi => ?_, d4, d5, d6, d7⟩, ⟨xa_upf_b (xa_upf_b (xa_upf_b b1 (by omega)) (by omega)) (by omega), b2, b3, b4, xa_upf_b b5 (by omega), b6, b7⟩, ⟨rfl, rfl, rfl, rfl, rfl, rfl, rfl, rfl⟩, rfl, rfl, fun i hi => ?_, fun _ _ => rfl, fun _ _ => rfl, rfl, rfl⟩
  · show F 2 1 + 1 = ((pa + 1 : Nat) : Int)
    omega
  · have hi : i < 3 * (pa + 1) := hi
    show xa_upf (xa_upf (xa_upf (F 3) (9 + 3 * F 2 1 + 0).toNat u.1) (9 + 3 * F 2 1 + 1).toNat u.2.1) (9 + 3 * F 2 1 + 2).toNat u.2.2.1 (9 + i) = xa_upf (xa_upf (xa_upf ld (pa * 3) u.1) (pa * 3 + 1) u.2.1) (pa * 3 + 2) u.2.2.1 i
    unfold xa_upf
    repeat' split
    all_goals first | rfl | omega | exact d3 i (by omega)
  · show xa_upf (xa_upf (xa_upf (F 3) (9 + 3 * F 2 1 + 0).toNat u.1) (9 + 3 * F 2 1 + 1).toNat u.2.1) (9 + 3 * F 2 1 + 2).toNat u.2.2.1 i = F 3 i
    rw [xa_upf_ne _ _ (by omega), xa_upf_ne _ _ (by omega), xa_upf_ne _ _ (by omega)]
theorem mD_part_no (hv : vD b) (hD : mD F b) {u : Int × Int × Int × Nat} (hc : ¬ (F 2 1 ≠ 3 ∧ (1 ≤ u.1 ∧ u.1 ≤ 99) ∧ (1 ≤ u.2.1 ∧ u.2.1 ≤ 99) ∧ (1 ≤ u.2.2.1 ∧ u.2.2.1 ≤ 99))) : rd_bt b 112 3 (rd_nu u.1 u.2.1 u.2.2.1) = none := by
  obtain ⟨ld, dg, pa, jo, wa, sr, pu, ri⟩ := b
  have d1 := hD.1
  have hp := hv.1.1
  dsimp only at d1 hp
  unfold rd_bt sp_item
  rw [if_pos rfl, if_neg (fun z => hc ⟨by have : pa ≤ 2 := z.2.1; omega, z.2.2⟩)]
theorem mD_joint0 (hv : vD b) (hD : mD F b) (hB : mBd F) {u : Int × Nat} (hc : F 4 1 ≠ 2 ∧ (1 ≤ u.1 ∧ u.1 ≤ 120) ∧ u.1 ≤ 90) : ∃ b', rd_bt b 106 1 (rd_nu u.1 0 0) = some b' ∧ mD (xa_uF (xa_uF (xa_uF (xa_uF F 13 nu) 5 (xa_upf (F 5) (2 + F 4 1).toNat u.1)) 6 (xa_upf (F 6) (2 + F 4 1).toNat 0)) 4 (xa_upf (F 4) 1 (F 4 1 + 1))) b' ∧ mBd (xa_uF (xa_uF (xa_uF (xa_uF F 13 nu) 5 (xa_upf (F 5) (2 + F 4 1).toNat u.1)) 6 (xa_upf (F 6) (2 + F 4 1).toNat 0)) 4 (xa_upf (F 4) 1 (F 4 1 + 1))) ∧ mFr F (xa_uF (xa_uF (xa_uF (xa_uF F 13 nu) 5 (xa_upf (F 5) (2 + F 4 1).toNat u.1)) 6 (xa_upf (F 6) (2 + F 4 1).toNat 0)) 4 (xa_upf (F 4) 1 (F 4 1 + 1))) := by
  obtain ⟨ld, dg, pa, jo, wa, sr, pu, ri⟩ := b
  obtain ⟨d1, d2, d3, d4, d5, d6, d7⟩ := hD
  obtain ⟨b1, b2, b3, b4, b5, b6, b7⟩ := hB
  have hp := hv.1.2
  have hw := hv.2.2.2.2.2.1
  dsimp only at d1 d2 d3 d4 d5 d6 d7 hp hw
  have e : rd_bt (ld, dg, pa, jo, wa, sr, pu, ri) 106 1 (rd_nu u.1 0 0) = some (ld, xa_upf dg jo u.1, pa, jo + 1, wa, sr, pu, ri) := by
    unfold rd_bt sp_item
    rw [if_neg (by decide), if_neg (by decide), if_pos rfl, if_pos ⟨by show jo < 2; omega, by show 1 ≤ u.1; omega, by show u.1 ≤ 90; omega⟩]
    rfl
  refine ⟨_, e, ⟨d1, ?_, d3, fun j hj => ?_, fun j hj => ?_, d6, d7⟩, ⟨b1, xa_upf_b b2 (by omega), xa_upf_b b3 (by omega), xa_upf_b b4 (by omega), b5, b6, b7⟩, ⟨rfl, rfl, rfl, rfl, rfl, rfl, rfl, rfl⟩, rfl, rfl, fun _ _ => rfl, fun i hi => xa_upf_ne _ _ (by omega), fun i hi => xa_upf_ne _ _ (by omega), rfl, rfl⟩
  · show F 4 1 + 1 = ((jo + 1 : Nat) : Int)
    omega
  · have hj : j < jo + 1 := hj
    show xa_upf (F 5) (2 + F 4 1).toNat u.1 (2 + j) = xa_upf dg jo u.1 j
    by_cases e0 : j = jo
    · subst e0
      rw [xa_upf_at, show 2 + j = (2 + F 4 1).toNat by omega, xa_upf_at]
    · rw [xa_upf_ne _ _ (by omega), xa_upf_ne _ _ e0]
      exact d4 j (by omega)
  · have hj : j < jo + 1 := hj
    show xa_upf (F 6) (2 + F 4 1).toNat 0 (2 + j) = if (j : Int) = wa then 1 else 0
    by_cases e0 : j = jo
    · subst e0
      rw [show 2 + j = (2 + F 4 1).toNat by omega, xa_upf_at, if_neg]
      rcases hw with hw | ⟨w, w1, w2, -⟩ <;> omega
    · rw [xa_upf_ne _ _ (by omega)]
      exact d5 j (by omega)
theorem mD_joint0_no (hv : vD b) (hD : mD F b) {u : Int × Nat} (hc : ¬ (F 4 1 ≠ 2 ∧ (1 ≤ u.1 ∧ u.1 ≤ 120) ∧ u.1 ≤ 90)) : rd_bt b 106 1 (rd_nu u.1 0 0) = none := by
  obtain ⟨ld, dg, pa, jo, wa, sr, pu, ri⟩ := b
  have d2 := hD.2.1
  dsimp only at d2
  unfold rd_bt sp_item
  rw [if_neg (by decide), if_neg (by decide), if_pos rfl, if_neg (fun z => hc ?_)]
  have z1 : jo < 2 := z.1
  have z2 : 1 ≤ u.1 := z.2.1
  have z3 : u.1 ≤ 90 := z.2.2
  omega
theorem mD_joint1 (hv : vD b) (hD : mD F b) (hB : mBd F) {u : Int × Nat} (hc : F 4 1 ≠ 2 ∧ (1 ≤ u.1 ∧ u.1 ≤ 120) ∧ sp_wagL u.1 ∧ (F 4 1 = 0 ∨ F 6 2 = 0)) : ∃ b', rd_bt b 119 1 (rd_nu u.1 0 0) = some b' ∧ mD (xa_uF (xa_uF (xa_uF (xa_uF F 13 nu) 5 (xa_upf (F 5) (2 + F 4 1).toNat u.1)) 6 (xa_upf (F 6) (2 + F 4 1).toNat 1)) 4 (xa_upf (F 4) 1 (F 4 1 + 1))) b' ∧ mBd (xa_uF (xa_uF (xa_uF (xa_uF F 13 nu) 5 (xa_upf (F 5) (2 + F 4 1).toNat u.1)) 6 (xa_upf (F 6) (2 + F 4 1).toNat 1)) 4 (xa_upf (F 4) 1 (F 4 1 + 1))) ∧ mFr F (xa_uF (xa_uF (xa_uF (xa_uF F 13 nu) 5 (xa_upf (F 5) (2 + F 4 1).toNat u.1)) 6 (xa_upf (F 6) (2 + F 4 1).toNat 1)) 4 (xa_upf (F 4) 1 (F 4 1 + 1))) := by
  obtain ⟨ld, dg, pa, jo, wa, sr, pu, ri⟩ := b
  obtain ⟨d1, d2, d3, d4, d5, d6, d7⟩ := hD
  obtain ⟨b1, b2, b3, b4, b5, b6, b7⟩ := hB
  have hp := hv.1.2
  have hw := hv.2.2.2.2.2.1
  dsimp only at d1 d2 d3 d4 d5 d6 d7 hp hw
  have hwa : wa = -4 := by
    rcases hw with hw | ⟨w, w1, w2, -⟩
    · exact hw.1
    · exfalso
      have hj1 : jo = 1 ∧ w = 0 := by omega
      have := d5 0 (by omega)
      rw [if_pos (by omega)] at this
      have : F 6 2 = 1 := this
      omega
  have e : rd_bt (ld, dg, pa, jo, wa, sr, pu, ri) 119 1 (rd_nu u.1 0 0) = some (ld, xa_upf dg jo u.1, pa, jo + 1, ((jo : Nat) : Int), (360 : Int).tdiv u.1, pu, ri) := by
    unfold rd_bt sp_item
    rw [if_neg (by decide), if_neg (by decide), if_neg (by decide), if_pos rfl, if_pos ⟨(sp_told_8 _).mpr hc.2.2.1, hwa, by show jo < 2; omega⟩]
    rfl
  refine ⟨_, e, ⟨d1, ?_, d3, fun j hj => ?_, fun j hj => ?_, d6, d7⟩, ⟨b1, xa_upf_b b2 (by omega), xa_upf_b b3 (by omega), xa_upf_b b4 (by omega), b5, b6, b7⟩, ⟨rfl, rfl, rfl, rfl, rfl, rfl, rfl, rfl⟩, rfl, rfl, fun _ _ => rfl, fun i hi => xa_upf_ne _ _ (by omega), fun i hi => xa_upf_ne _ _ (by omega), rfl, rfl⟩
  · show F 4 1 + 1 = ((jo + 1 : Nat) : Int)
    omega
  · have hj : j < jo + 1 := hj
    show xa_upf (F 5) (2 + F 4 1).toNat u.1 (2 + j) = xa_upf dg jo u.1 j
    by_cases e0 : j = jo
    · subst e0
      rw [xa_upf_at, show 2 + j = (2 + F 4 1).toNat by omega, xa_upf_at]
    · rw [xa_upf_ne _ _ (by omega), xa_upf_ne _ _ e0]
      exact d4 j (by omega)
  · have hj : j < jo + 1 := hj
    show xa_upf (F 6) (2 + F 4 1).toNat 1 (2 + j) = if (j : Int) = ((jo : Nat) : Int) then 1 else 0
    by_cases e0 : j = jo
    · subst e0
      rw [show 2 + j = (2 + F 4 1).toNat by omega, xa_upf_at, if_pos rfl]
    · rw [xa_upf_ne _ _ (by omega), if_neg (by omega)]
      have := d5 j (by omega)
      rw [if_neg (by omega)] at this
      exact this
theorem mD_joint1_no (hv : vD b) (hD : mD F b) {u : Int × Nat} (hc : ¬ (F 4 1 ≠ 2 ∧ (1 ≤ u.1 ∧ u.1 ≤ 120) ∧ sp_wagL u.1 ∧ (F 4 1 = 0 ∨ F 6 2 = 0))) : rd_bt b 119 1 (rd_nu u.1 0 0) = none := by
  obtain ⟨ld, dg, pa, jo, wa, sr, pu, ri⟩ := b
  have d2 := hD.2.1
  have d5 := hD.2.2.2.2.1
  dsimp only at d2 d5
  unfold rd_bt sp_item
  rw [if_neg (by decide), if_neg (by decide), if_neg (by decide), if_pos rfl, if_neg (fun z => hc ?_)]
  have z1 : sp_wagL u.1 := (sp_told_8 _).mp z.1
  have z2 : wa = -4 := z.2.1
  have z3 : jo < 2 := z.2.2
  refine ⟨by omega, by unfold sp_wagL at z1; omega, z1, ?_⟩
  by_cases e : jo = 0
  · left; omega
  · right
    have := d5 0 (by omega)
    rw [if_neg (by omega)] at this
    exact this
theorem mD_l (hD : mD F b) (hB : mBd F) {v : Int} (hc : -9999 ≤ v ∧ v ≤ 9999) : ∃ b', rd_bt b 108 1 (rd_nu v 0 0) = some b' ∧ mD (xa_uF (xa_uF F 13 nu) 7 (xa_upf (F 7) 1 v)) b' ∧ mBd (xa_uF (xa_uF F 13 nu) 7 (xa_upf (F 7) 1 v)) ∧ mFr F (xa_uF (xa_uF F 13 nu) 7 (xa_upf (F 7) 1 v)) := by
  obtain ⟨ld, dg, pa, jo, wa, sr, pu, ri⟩ := b
  obtain ⟨d1, d2, d3, d4, d5, d6, d7⟩ := hD
  obtain ⟨b1, b2, b3, b4, b5, b6, b7⟩ := hB
  have e : rd_bt (ld, dg, pa, jo, wa, sr, pu, ri) 108 1 (rd_nu v 0 0) = some (ld, dg, pa, jo, wa, sr, v, ri) := rfl
  exact ⟨_, e, ⟨d1, d2, d3, d4, d5, rfl, d7⟩, ⟨b1, b2, b3, b4, b5, xa_upf_b b6 hc, b7⟩, ⟨rfl, rfl, rfl, rfl, rfl, rfl, rfl, rfl⟩, rfl, rfl, fun _ _ => rfl, fun _ _ => rfl, fun _ _ => rfl, rfl, rfl⟩
theorem mD_e (hD : mD F b) (hB : mBd F) {v : Int} (hc : 0 ≤ v ∧ v ≤ 90) : ∃ b', rd_bt b 101 1 (rd_nu v 0 0) = some b' ∧ mD (xa_uF (xa_uF F 13 nu) 8 (xa_upf (F 8) 1 v)) b' ∧ mBd (xa_uF (xa_uF F 13 nu) 8 (xa_upf (F 8) 1 v)) ∧ mFr F (xa_uF (xa_uF F 13 nu) 8 (xa_upf (F 8) 1 v)) := by
  obtain ⟨ld, dg, pa, jo, wa, sr, pu, ri⟩ := b
  obtain ⟨d1, d2, d3, d4, d5, d6, d7⟩ := hD
  obtain ⟨b1, b2, b3, b4, b5, b6, b7⟩ := hB
  have e : rd_bt (ld, dg, pa, jo, wa, sr, pu, ri) 101 1 (rd_nu v 0 0) = some (ld, dg, pa, jo, wa, sr, pu, v) := by
    unfold rd_bt sp_item
    rw [if_neg (by decide), if_neg (by decide), if_neg (by decide), if_neg (by decide), if_neg (by decide), if_pos rfl]
    exact if_pos hc
  exact ⟨_, e, ⟨d1, d2, d3, d4, d5, d6, rfl⟩, ⟨b1, b2, b3, b4, b5, b6, xa_upf_b b7 hc⟩, ⟨rfl, rfl, rfl, rfl, rfl, rfl, rfl, rfl⟩, rfl, rfl, fun _ _ => rfl, fun _ _ => rfl, fun _ _ => rfl, rfl, rfl⟩
theorem mD_e_no {v : Int} (hc : ¬ (0 ≤ v ∧ v ≤ 90)) : rd_bt b 101 1 (rd_nu v 0 0) = none := by
  unfold rd_bt sp_item
  rw [if_neg (by decide), if_neg (by decide), if_neg (by decide), if_neg (by decide), if_neg (by decide), if_pos rfl]
  exact if_neg hc
theorem mD_other {q : Int} (h1 : q ≠ 112) (h2 : q ≠ 106) (h3 : q ≠ 119) (h4 : q ≠ 108) (h5 : q ≠ 101) (nu : Nat → Int) : rd_bt b q 1 nu = none := by
  unfold rd_bt sp_item
  rw [if_neg h1, if_neg (by decide), if_neg h2, if_neg h3, if_neg h4, if_neg h5]
theorem rd_item1 {n : Nat} {f : Nat → Int} {p : Nat} {q : Int} (hq : sp_at n f ((p : Nat) : Int) = q) (hq2 : q ≠ 112) : rd_item n f p b = (fg1 n f (p + 1)).bind (fun u => (rd_bt b q 1 (rd_nu u.1 0 0)).map (fun b' => (u.2 + 1, b'))) := by
  rw [rd_item_fg, if_neg (by rw [hq]; exact hq2), hq]
theorem rd_item3 {n : Nat} {f : Nat → Int} {p : Nat} (hq : sp_at n f ((p : Nat) : Int) = 112) : rd_item n f p b = (fg3 n f (p + 1)).bind (fun u => (rd_bt b 112 3 (rd_nu u.1 u.2.1 u.2.2.1)).map (fun b' => (u.2.2.2 + 1, b'))) := by
  rw [rd_item_fg, if_pos hq]
end MD
