/-! reading: what both sides read -/
def rd_dig (n : Nat) (f : Nat → Int) (a : Nat) : Bool := decide (48 ≤ sp_at n f ((a : Nat) : Int) ∧ sp_at n f ((a : Nat) : Int) ≤ 57)
theorem rd_dig_iff {n : Nat} {f : Nat → Int} {a : Nat} : rd_dig n f a = true ↔ sp_isd n f a := by
  unfold rd_dig sp_isd
  rw [decide_eq_true_iff]
def rd_cnt (n : Nat) (f : Nat → Int) : Nat → Nat → Nat
  | 0, _ => 0
  | j + 1, a => if rd_dig n f a = true then rd_cnt n f j (a + 1) + 1 else 0
theorem rd_cnt_eq {n : Nat} {f : Nat → Int} : ∀ (j a m : Nat), m ≤ j → (∀ i, i < m → sp_isd n f (a + i)) → (m = j ∨ ¬ sp_isd n f (a + m)) → rd_cnt n f j a = m
  | 0, a, m, h, _, _ => by
    show 0 = m
    omega
  | j + 1, a, m, h, h1, h2 => by
    show (if rd_dig n f a = true then rd_cnt n f j (a + 1) + 1 else 0) = m
    cases m with
    | zero =>
      rw [if_neg (fun z => ?_)]
      rcases h2 with h2 | h2
      · omega
      · exact h2 (rd_dig_iff.mp z)
    | succ m =>
      rw [if_pos (rd_dig_iff.mpr (show sp_isd n f a from h1 0 (by omega))), rd_cnt_eq j (a + 1) m (by omega) (fun i hi => by have := h1 (i + 1) (by omega); rw [show a + 1 + i = a + (i + 1) by omega]; exact this) (h2.imp (fun q => by omega) (fun q => by rw [show a + 1 + m = a + (m + 1) by omega]; exact q))]
/-- a number at p, and the place behind it -/
def rd_num (n : Nat) (f : Nat → Int) (p : Nat) : Option (Int × Nat) :=
  if (1 ≤ rd_cnt n f 5 (p + sp_neg n f p) ∧ rd_cnt n f 5 (p + sp_neg n f p) ≤ 4) ∧ ¬ (sp_neg n f p = 1 ∧ sp_val n f (p + sp_neg n f p) (rd_cnt n f 5 (p + sp_neg n f p)) = 0) then some (if sp_neg n f p = 1 then -sp_val n f (p + sp_neg n f p) (rd_cnt n f 5 (p + sp_neg n f p)) else sp_val n f (p + sp_neg n f p) (rd_cnt n f 5 (p + sp_neg n f p)), p + sp_neg n f p + rd_cnt n f 5 (p + sp_neg n f p)) else none
def rd_nu (a b c : Int) : Nat → Int := fun i => if i = 0 then a else if i = 1 then b else c
def rd_bt (b : xBt) (q c : Int) (nu : Nat → Int) : Option xBt := sp_item b.1 b.2.1 b.2.2.1 b.2.2.2.1 b.2.2.2.2.1 b.2.2.2.2.2.1 b.2.2.2.2.2.2.1 b.2.2.2.2.2.2.2 q c nu
/-- an item at p: the place behind it, what it makes of a body -/
def rd_item (n : Nat) (f : Nat → Int) (p : Nat) (b : xBt) : Option (Nat × xBt) :=
  if sp_at n f ((p : Nat) : Int) = 112 then
    (rd_num n f (p + 1)).bind fun u0 => if sp_at n f ((u0.2 : Nat) : Int) = 44 then (rd_num n f (u0.2 + 1)).bind fun u1 => if sp_at n f ((u1.2 : Nat) : Int) = 44 then (rd_num n f (u1.2 + 1)).bind fun u2 => if sp_at n f ((u2.2 : Nat) : Int) = 59 then (rd_bt b 112 3 (rd_nu u0.1 u1.1 u2.1)).map (fun b' => (u2.2 + 1, b')) else none else none else none
  else (rd_num n f (p + 1)).bind fun u0 => if sp_at n f ((u0.2 : Nat) : Int) = 59 then (rd_bt b (sp_at n f ((p : Nat) : Int)) 1 (rd_nu u0.1 0 0)).map (fun b' => (u0.2 + 1, b')) else none
def rd_go (n : Nat) (f : Nat → Int) : Nat → Nat → xBt → Option Nat × xBt
  | 0, _, b => (none, b)
  | l + 1, p, b => if p < n then (match rd_item n f p b with | some (p', b') => rd_go n f l p' b' | none => (some p, b)) else (none, b)
def rd_b0 (ld dg : Nat → Int) : xBt := (ld, dg, 0, 0, -4, 0, 0, 10)
theorem rd_bt_3 (b : xBt) (q : Int) {nu nu' : Nat → Int} (h0 : nu 0 = nu' 0) (h1 : nu 1 = nu' 1) (h2 : nu 2 = nu' 2) (c : Int) : rd_bt b q c nu = rd_bt b q c nu' := by
  unfold rd_bt sp_item
  rw [h0, h1, h2]
theorem rd_bt_1 (b : xBt) (q : Int) {nu nu' : Nat → Int} (h0 : nu 0 = nu' 0) (hq : q ≠ 112) : rd_bt b q 1 nu = rd_bt b q 1 nu' := by
  unfold rd_bt sp_item
  rw [h0, if_neg hq, if_neg hq]
theorem rd_bt_p1 (b : xBt) (nu : Nat → Int) {c : Int} (hc : c ≠ 3) : rd_bt b 112 c nu = none := by
  unfold rd_bt sp_item
  rw [if_pos rfl, if_neg (fun z => hc z.1)]
theorem rd_bt_n (b : xBt) (nu : Nat → Int) {q c : Int} (hq : q ≠ 112) (hc : c ≠ 1) : rd_bt b q c nu = none := by
  unfold rd_bt sp_item
  rw [if_neg hq, if_pos hc]
section RD
variable {n : Nat} {f : Nat → Int} {p m : Nat}
/-- four figures at most were read: a sign behind them says that there are no more -/
theorem rd_num_any (h4 : m ≤ 4) (hd : ∀ j, j < m → sp_isd n f (p + sp_neg n f p + j)) (hs : m = 4 ∨ ¬ sp_isd n f (p + sp_neg n f p + m)) (hok : m ≠ 0 ∧ ¬ (((sp_neg n f p : Nat) : Int) = 1 ∧ sp_val n f (p + sp_neg n f p) m = 0)) : rd_num n f p = none ∧ sp_isd n f (p + sp_neg n f p + m) ∨ rd_num n f p = some (if ((sp_neg n f p : Nat) : Int) = 1 then -sp_val n f (p + sp_neg n f p) m else sp_val n f (p + sp_neg n f p) m, p + sp_neg n f p + m) := by
  by_cases hx : sp_isd n f (p + sp_neg n f p + m)
  · have e : rd_cnt n f 5 (p + sp_neg n f p) = 5 := rd_cnt_eq 5 _ 5 (Nat.le_refl _) (fun i hi => by
      by_cases e : i < m
      · exact hd i e
      · rcases hs with hs | hs
        · have : i = m := by omega
          subst this; exact hx
        · exact absurd hx hs) (Or.inl rfl)
    refine Or.inl ⟨?_, hx⟩
    unfold rd_num
    rw [e, if_neg (by omega)]
  · have e : rd_cnt n f 5 (p + sp_neg n f p) = m := rd_cnt_eq 5 _ m (by omega) hd (Or.inr hx)
    right
    unfold rd_num
    rw [e, if_pos ⟨by omega, fun z => hok.2 ⟨by omega, z.2⟩⟩]
    by_cases e1 : sp_neg n f p = 1
    · rw [if_pos e1, if_pos (by omega)]
    · rw [if_neg e1, if_neg (by omega)]
theorem rd_num_no (h4 : m ≤ 4) (hd : ∀ j, j < m → sp_isd n f (p + sp_neg n f p + j)) (hs : m = 4 ∨ ¬ sp_isd n f (p + sp_neg n f p + m)) (hok : ¬ (m ≠ 0 ∧ ¬ (((sp_neg n f p : Nat) : Int) = 1 ∧ sp_val n f (p + sp_neg n f p) m = 0))) : rd_num n f p = none := by
  by_cases hx : sp_isd n f (p + sp_neg n f p + m)
  · have e : rd_cnt n f 5 (p + sp_neg n f p) = 5 := rd_cnt_eq 5 _ 5 (Nat.le_refl _) (fun i hi => by
      by_cases e : i < m
      · exact hd i e
      · rcases hs with hs | hs
        · have : i = m := by omega
          subst this; exact hx
        · exact absurd hx hs) (Or.inl rfl)
    unfold rd_num
    rw [e, if_neg (by omega)]
  · have e : rd_cnt n f 5 (p + sp_neg n f p) = m := rd_cnt_eq 5 _ m (by omega) hd (Or.inr hx)
    unfold rd_num
    rw [e, if_neg (fun z => hok ⟨by omega, fun y => z.2 ⟨by omega, y.2⟩⟩)]
theorem rd_num_sg (h4 : m ≤ 4) (hd : ∀ j, j < m → sp_isd n f (p + sp_neg n f p + j)) (hs : m = 4 ∨ ¬ sp_isd n f (p + sp_neg n f p + m)) (hok : m ≠ 0 ∧ ¬ (((sp_neg n f p : Nat) : Int) = 1 ∧ sp_val n f (p + sp_neg n f p) m = 0)) (hg : sp_at n f ((p + sp_neg n f p + m : Nat) : Int) = 44 ∨ sp_at n f ((p + sp_neg n f p + m : Nat) : Int) = 59) : rd_num n f p = some (if ((sp_neg n f p : Nat) : Int) = 1 then -sp_val n f (p + sp_neg n f p) m else sp_val n f (p + sp_neg n f p) m, p + sp_neg n f p + m) := by
  rcases rd_num_any h4 hd hs hok with ⟨-, h⟩ | h
  · unfold sp_isd at h
    omega
  · exact h
theorem rd_num_b {v : Int} {p' : Nat} (h : rd_num n f p = some (v, p')) : (-9999 ≤ v ∧ v ≤ 9999) ∧ p + 1 ≤ p' ∧ p' ≤ p + 5 := by
  unfold rd_num at h
  have hneg : sp_neg n f p ≤ 1 := by unfold sp_neg; split <;> omega
  split at h
  · rename_i hc
    obtain ⟨⟨c1, c2⟩, c3⟩ := hc
    have hall : ∀ (j a : Nat) i, i < rd_cnt n f j a → sp_isd n f (a + i) := by
      intro j
      induction j with
      | zero => intro a i hi; exact absurd hi (Nat.not_lt_zero _)
      | succ j ih =>
        intro a i hi
        have hi : i < (if rd_dig n f a = true then rd_cnt n f j (a + 1) + 1 else 0) := hi
        split at hi
        · rename_i hdg
          cases i with
          | zero => exact rd_dig_iff.mp hdg
          | succ i =>
            have := ih (a + 1) i (by omega)
            rw [show a + (i + 1) = a + 1 + i by omega]
            exact this
        · omega
    have hv := sp_val_b (n := n) (f := f) (a := p + sp_neg n f p) c2 (fun i hi => hall 5 _ i hi)
    cases h
    refine ⟨?_, by omega, by omega⟩
    split <;> omega
  · cases h
end RD
/-- a draft: what stands ahead of a fault -/
def vD (b : xBt) : Prop := (b.2.2.1 ≤ 3 ∧ b.2.2.2.1 ≤ 2) ∧ (∀ i, 0 ≤ b.1 i ∧ b.1 i ≤ 99) ∧ (∀ i, i < 3 * b.2.2.1 → 1 ≤ b.1 i) ∧ (∀ i, 0 ≤ b.2.1 i ∧ b.2.1 i ≤ 120) ∧ (∀ j, j < b.2.2.2.1 → 1 ≤ b.2.1 j) ∧ ((b.2.2.2.2.1 = -4 ∧ b.2.2.2.2.2.1 = 0) ∨ (∃ w : Nat, b.2.2.2.2.1 = (w : Int) ∧ w < b.2.2.2.1 ∧ 3 ≤ b.2.2.2.2.2.1 ∧ b.2.2.2.2.2.1 ≤ 12 ∧ b.2.2.2.2.2.1 * b.2.1 w = 360)) ∧ (-9999 ≤ b.2.2.2.2.2.2.1 ∧ b.2.2.2.2.2.2.1 ≤ 9999) ∧ (0 ≤ b.2.2.2.2.2.2.2 ∧ b.2.2.2.2.2.2.2 ≤ 90)
theorem vD_vB {ld dg : Nat → Int} {pa jo : Nat} {wa sr pu ri : Int} (h : vD (ld, dg, pa, jo, wa, sr, pu, ri)) (h2 : 2 ≤ pa ∧ pa = jo + 1) : vB ld dg pa jo wa sr pu ri := by
  obtain ⟨⟨a, b⟩, h'⟩ := h
  exact ⟨⟨h2.1, a, h2.2⟩, h'⟩
theorem vB_vD {ld dg : Nat → Int} {pa jo : Nat} {wa sr pu ri : Int} (h : vB ld dg pa jo wa sr pu ri) : vD (ld, dg, pa, jo, wa, sr, pu, ri) := by
  obtain ⟨⟨a, b, c⟩, h'⟩ := h
  exact ⟨⟨b, by show jo ≤ 2; omega⟩, h'⟩
theorem vD_b0 {ld dg : Nat → Int} (h1 : ∀ i, 0 ≤ ld i ∧ ld i ≤ 99) (h2 : ∀ i, 0 ≤ dg i ∧ dg i ≤ 120) : vD (rd_b0 ld dg) :=
  ⟨⟨Nat.zero_le _, Nat.zero_le _⟩, h1, fun i hi => absurd hi (Nat.not_lt_zero _), h2, fun i hi => absurd hi (Nat.not_lt_zero _), Or.inl ⟨rfl, rfl⟩, ⟨(by decide : (-9999 : Int) ≤ 0), (by decide : (0 : Int) ≤ 9999)⟩, ⟨(by decide : (0 : Int) ≤ 10), (by decide : (10 : Int) ≤ 90)⟩⟩
theorem vD_item {b b' : xBt} (h : vD b) {q c : Int} {nu : Nat → Int} (hn : ∀ i, -9999 ≤ nu i ∧ nu i ≤ 9999) (hm : rd_bt b q c nu = some b') : vD b' := by
  obtain ⟨ld, dg, pa, jo, wa, sr, pu, ri⟩ := b
  obtain ⟨⟨h1, h2⟩, h3, h4, h5, h6, h7, h8, h9⟩ := h
  dsimp only at h1 h2 h3 h4 h5 h6 h7 h8 h9
  unfold rd_bt at hm
  dsimp only at hm
  unfold sp_item at hm
  split at hm
  · split at hm
    · rename_i hc
      obtain ⟨-, c1, c2, c3, c4⟩ := hc
      cases hm
      refine ⟨⟨by show pa + 1 ≤ 3; omega, h2⟩, xa_upf_b (xa_upf_b (xa_upf_b h3 (by omega)) (by omega)) (by omega), fun i hi => ?_, h5, h6, h7, h8, h9⟩
      have hi : i < 3 * (pa + 1) := hi
      show 1 ≤ xa_upf (xa_upf (xa_upf ld (pa * 3) (nu 0)) (pa * 3 + 1) (nu 1)) (pa * 3 + 2) (nu 2) i
      unfold xa_upf
      repeat' split
      all_goals first | omega | exact h4 i (by omega)
    · cases hm
  split at hm
  · cases hm
  split at hm
  · split at hm
    · rename_i hc
      cases hm
      refine ⟨⟨h1, by show jo + 1 ≤ 2; omega⟩, h3, h4, xa_upf_b h5 (by omega), fun j hj => ?_, ?_, h8, h9⟩
      · have hj : j < jo + 1 := hj
        show 1 ≤ xa_upf dg jo (nu 0) j
        unfold xa_upf
        split
        · omega
        · exact h6 j (by omega)
      · rcases h7 with h7 | ⟨w, w1, w2, w3, w4, w5⟩
        · exact Or.inl h7
        · exact Or.inr ⟨w, w1, by show w < jo + 1; omega, w3, w4, by show sr * xa_upf dg jo (nu 0) w = 360; rw [xa_upf_ne _ _ (by omega)]; exact w5⟩
    · cases hm
  split at hm
  · split at hm
    · rename_i hc
      obtain ⟨c1, c2, c3⟩ := hc
      have hw := (sp_told_8 _).mp c1
      cases hm
      unfold sp_wagL at hw
      refine ⟨⟨h1, by show jo + 1 ≤ 2; omega⟩, h3, h4, xa_upf_b h5 (by omega), fun j hj => ?_, ?_, h8, h9⟩
      · have hj : j < jo + 1 := hj
        show 1 ≤ xa_upf dg jo (nu 0) j
        unfold xa_upf
        split
        · omega
        · exact h6 j (by omega)
      · refine Or.inr ⟨jo, rfl, by show jo < jo + 1; omega, ?_⟩
        show 3 ≤ (360 : Int).tdiv (nu 0) ∧ (360 : Int).tdiv (nu 0) ≤ 12 ∧ (360 : Int).tdiv (nu 0) * xa_upf dg jo (nu 0) jo = 360
        rw [xa_upf_at]
        rcases hw with hw | hw | hw | hw | hw | hw | hw | hw <;> rw [hw] <;> decide
    · cases hm
  split at hm
  · cases hm
    exact ⟨⟨h1, h2⟩, h3, h4, h5, h6, h7, hn 0, h9⟩
  split at hm
  · split at hm
    · rename_i hc
      cases hm
      exact ⟨⟨h1, h2⟩, h3, h4, h5, h6, h7, h8, hc⟩
    · cases hm
  · cases hm
theorem rd_item_b {n : Nat} {f : Nat → Int} {p p' : Nat} {b b' : xBt} (h : vD b) (hm : rd_item n f p b = some (p', b')) : vD b' ∧ p + 3 ≤ p' ∧ p' ≤ p + 20 := by
  unfold rd_item at hm
  have nb : ∀ a b c : Int, (-9999 ≤ a ∧ a ≤ 9999) → (-9999 ≤ b ∧ b ≤ 9999) → (-9999 ≤ c ∧ c ≤ 9999) → ∀ i, -9999 ≤ rd_nu a b c i ∧ rd_nu a b c i ≤ 9999 := by
    intro a b c ha hb hc i
    unfold rd_nu
    split
    · exact ha
    · split
      · exact hb
      · exact hc
  split at hm
  · cases e0 : rd_num n f (p + 1) with
    | none => rw [e0] at hm; cases hm
    | some u0 =>
      rw [e0] at hm
      obtain ⟨v0, p0⟩ := u0
      have g0 := rd_num_b e0
      have hm : (if sp_at n f ((p0 : Nat) : Int) = 44 then (rd_num n f (p0 + 1)).bind fun u1 => if sp_at n f ((u1.2 : Nat) : Int) = 44 then (rd_num n f (u1.2 + 1)).bind fun u2 => if sp_at n f ((u2.2 : Nat) : Int) = 59 then (rd_bt b 112 3 (rd_nu v0 u1.1 u2.1)).map (fun b' => (u2.2 + 1, b')) else none else none else none) = some (p', b') := hm
      split at hm
      · cases e1 : rd_num n f (p0 + 1) with
        | none => rw [e1] at hm; cases hm
        | some u1 =>
          rw [e1] at hm
          obtain ⟨v1, p1⟩ := u1
          have g1 := rd_num_b e1
          have hm : (if sp_at n f ((p1 : Nat) : Int) = 44 then (rd_num n f (p1 + 1)).bind fun u2 => if sp_at n f ((u2.2 : Nat) : Int) = 59 then (rd_bt b 112 3 (rd_nu v0 v1 u2.1)).map (fun b' => (u2.2 + 1, b')) else none else none) = some (p', b') := hm
          split at hm
          · cases e2 : rd_num n f (p1 + 1) with
            | none => rw [e2] at hm; cases hm
            | some u2 =>
              rw [e2] at hm
              obtain ⟨v2, p2⟩ := u2
              have g2 := rd_num_b e2
              have hm : (if sp_at n f ((p2 : Nat) : Int) = 59 then (rd_bt b 112 3 (rd_nu v0 v1 v2)).map (fun b' => (p2 + 1, b')) else none) = some (p', b') := hm
              split at hm
              · rw [Option.map_eq_some_iff] at hm
                obtain ⟨b1, hb1, hb2⟩ := hm
                cases hb2
                exact ⟨vD_item h (nb _ _ _ g0.1 g1.1 g2.1) hb1, by omega, by omega⟩
              · cases hm
          · cases hm
      · cases hm
  · cases e0 : rd_num n f (p + 1) with
    | none => rw [e0] at hm; cases hm
    | some u0 =>
      rw [e0] at hm
      obtain ⟨v0, p0⟩ := u0
      have g0 := rd_num_b e0
      have hm : (if sp_at n f ((p0 : Nat) : Int) = 59 then (rd_bt b (sp_at n f ((p : Nat) : Int)) 1 (rd_nu v0 0 0)).map (fun b' => (p0 + 1, b')) else none) = some (p', b') := hm
      split at hm
      · rw [Option.map_eq_some_iff] at hm
        obtain ⟨b1, hb1, hb2⟩ := hm
        cases hb2
        exact ⟨vD_item h (nb _ _ _ g0.1 ⟨by decide, by decide⟩ ⟨by decide, by decide⟩) hb1, by omega, by omega⟩
      · cases hm
