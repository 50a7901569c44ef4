/-! the search's steps: what is answered, what is linked -/
theorem nat_high {n : Nat} (h : n < 2 ^ 32) : n &&& 4293918720 = n / 1048576 * 1048576 := by
  apply Nat.eq_of_testBit_eq
  intro i
  rw [Nat.testBit_and, show (4293918720 : Nat) = (2 ^ 12 - 1) * 2 ^ 20 from rfl, show (1048576 : Nat) = 2 ^ 20 from rfl, Nat.testBit_mul_two_pow, Nat.testBit_mul_two_pow, Nat.testBit_two_pow_sub_one, Nat.testBit_div_two_pow]
  by_cases h20 : 20 ≤ i
  · rw [decide_eq_true h20, Bool.true_and, Bool.true_and, show i - 20 + 20 = i by omega]
    by_cases h32 : i - 20 < 12
    · rw [decide_eq_true h32, Bool.and_true]
    · have hn : n < 2 ^ i := Nat.lt_of_lt_of_le h (Nat.pow_le_pow_right (by decide) (by omega))
      rw [Nat.testBit_lt_two_pow hn, Bool.false_and]
  · rw [decide_eq_false h20, Bool.false_and, Bool.false_and, Bool.and_false]
theorem xa_and_high {n : Nat} (h : n < 2 ^ 31) : xa_and ((n : Nat) : Int) (-1048576) = ((n / 1048576 * 1048576 : Nat) : Int) := by
  have hl : n / 1048576 * 1048576 < 2 ^ 31 := Nat.lt_of_le_of_lt (Nat.div_mul_le_self _ _) h
  unfold xa_and
  rw [xa_nI h]
  have e : nI n &&& Int32.ofInt (-1048576) = nI (n / 1048576 * 1048576) := by
    rw [← Int32.toBitVec_inj]
    apply BitVec.eq_of_toNat_eq
    rw [Int32.toBitVec_and, BitVec.toNat_and, pk_tn (by omega), pk_tn (by omega)]
    exact nat_high (by omega)
  rw [e, nI_toInt hl]
/-- a link's low bits are written anew -/
theorem lk_word {a y : Nat} (ha : a < 2048) (hy : y < 1048576) : xa_or (xa_and (((a : Nat) : Int) * 1048576 + 1048575) (-1048576)) ((y : Nat) : Int) = ((a : Nat) : Int) * 1048576 + ((y : Nat) : Int) := by
  have e : ((a : Nat) : Int) * 1048576 + 1048575 = ((a * 1048576 + 1048575 : Nat) : Int) := by omega
  rw [e, xa_and_high (by omega), show (a * 1048576 + 1048575) / 1048576 * 1048576 = a * 2 ^ 20 by omega, (xa_or_add (a := a) (b := y) (k := 20) (by omega) (by omega) (by omega)).2]
  omega
theorem lk_first {a : Nat} (ha : a < 2048) : xa_or (xa_shl ((a : Nat) : Int) 20) 1048575 = ((a : Nat) : Int) * 1048576 + 1048575 := by
  rw [xa_shl_mul 20 20 (by decide) (by omega) (by omega)]
  have k := (xa_or_add (a := a) (b := 1048575) (k := 20) (by omega) (by omega) (by omega)).2
  have e : ((1048575 : Nat) : Int) = 1048575 := rfl
  rw [e] at k
  rw [k]
  omega
theorem lk_low {a y : Nat} (ha : a < 2048) (hy : y < 1048576) : xa_and (((a : Nat) : Int) * 1048576 + ((y : Nat) : Int)) 1048575 = ((y : Nat) : Int) := by
  have e : ((a : Nat) : Int) * 1048576 + ((y : Nat) : Int) = ((a * 1048576 + y : Nat) : Int) := by omega
  rw [e, xa_and_mod (by omega) 20 (by decide)]
  omega
theorem lk_top {a y : Nat} (ha : a < 2048) (hy : y < 1048576) : xa_shr (((a : Nat) : Int) * 1048576 + ((y : Nat) : Int)) 20 = ((a : Nat) : Int) := by
  have e : ((a : Nat) : Int) * 1048576 + ((y : Nat) : Int) = ((a * 1048576 + y : Nat) : Int) := by omega
  rw [e, xa_shr_div (by omega) 20 20 (by decide)]
  omega
/-- the turns that are answered by a state, as far as off o -/
def aP (ri tu o : Int) (t : Nat) : Prop := ∃ o' : Int, -ri ≤ o' ∧ o' < o ∧ (t : Int) = (o' - tu) % 360
def aR (ri tu bh st : Int) (tk en tk' en' : Nat → Int) (o : Int) : Prop := ∀ t : Nat, t < 360 → ((tk t = -1 ∧ aP ri tu o t) → tk' t = bh ∧ en' t = st) ∧ (¬ (tk t = -1 ∧ aP ri tu o t) → tk' t = tk t ∧ en' t = en t)
theorem aR_0 (ri tu bh st : Int) (tk en : Nat → Int) : aR ri tu bh st tk en tk en (-ri) := fun t _ => ⟨fun ⟨_, o', h1, h2, _⟩ => by omega, fun _ => ⟨rfl, rfl⟩⟩
theorem aP_s {ri tu o : Int} (ho : -ri ≤ o) (t : Nat) : aP ri tu (o + 1) t ↔ aP ri tu o t ∨ (t : Int) = (o - tu) % 360 := by
  constructor
  · rintro ⟨o', h1, h2, h3⟩
    by_cases e : o' = o
    · subst e; exact Or.inr h3
    · exact Or.inl ⟨o', h1, by omega, h3⟩
  · rintro (⟨o', h1, h2, h3⟩ | h)
    · exact ⟨o', h1, by omega, h3⟩
    · exact ⟨o, ho, by omega, h⟩
theorem aR_hit {ri tu bh st : Int} {tk en tk1 en1 : Nat → Int} {o : Int} (h : aR ri tu bh st tk en tk1 en1 o) (ho : -ri ≤ o) (hb : bh ≠ -1) {t0 : Nat} (ht0 : t0 < 360) (e0 : (t0 : Int) = (o - tu) % 360) (h1 : tk1 t0 = -1) : aR ri tu bh st tk en (xa_upf tk1 t0 bh) (xa_upf en1 t0 st) (o + 1) ∧ tk t0 = -1 := by
  have hk : tk t0 = -1 := by
    by_cases q : tk t0 = -1 ∧ aP ri tu o t0
    · exact q.1
    · rw [((h t0 ht0).2 q).1] at h1
      exact h1
  refine ⟨fun t ht => ?_, hk⟩
  by_cases e : t = t0
  · subst e
    rw [xa_upf_at, xa_upf_at]
    exact ⟨fun _ => ⟨rfl, rfl⟩, fun q => absurd ⟨hk, (aP_s ho t).mpr (Or.inr e0)⟩ q⟩
  · rw [xa_upf_ne _ _ e, xa_upf_ne _ _ e]
    have hs : aP ri tu (o + 1) t ↔ aP ri tu o t := (aP_s ho t).trans ⟨fun z => z.elim id (fun z => by omega), Or.inl⟩
    rw [hs]
    exact h t ht
theorem aR_miss {ri tu bh st : Int} {tk en tk1 en1 : Nat → Int} {o : Int} (h : aR ri tu bh st tk en tk1 en1 o) (ho : -ri ≤ o) {t0 : Nat} (ht0 : t0 < 360) (e0 : (t0 : Int) = (o - tu) % 360) (h1 : tk1 t0 ≠ -1) : aR ri tu bh st tk en tk1 en1 (o + 1) := by
  intro t ht
  by_cases e : t = t0
  · subst e
    constructor
    · rintro ⟨q1, q2⟩
      by_cases z : aP ri tu o t
      · exact (h t ht).1 ⟨q1, z⟩
      · rw [((h t ht).2 (fun y => z y.2)).1] at h1
        exact absurd q1 h1
    · intro q
      refine (h t ht).2 (fun y => q ⟨y.1, (aP_s ho t).mpr (Or.inl y.2)⟩)
  · have hs : aP ri tu (o + 1) t ↔ aP ri tu o t := (aP_s ho t).trans ⟨fun z => z.elim id (fun z => by omega), Or.inl⟩
    rw [hs]
    exact h t ht
theorem aP_off {ri tu : Int} (hr : 0 ≤ ri ∧ ri ≤ 90) {t : Nat} (ht : t < 360) : aP ri tu (ri + 1) t ↔ sp_off ((t : Int) + tu) 0 ≤ ri := by
  unfold aP sp_off
  rw [Int.sub_zero]
  constructor
  · rintro ⟨o', h1, h2, h3⟩
    omega
  · intro h
    by_cases e : ((t : Int) + tu) % 360 ≤ ri
    · exact ⟨((t : Int) + tu) % 360, by omega, by omega, by omega⟩
    · exact ⟨((t : Int) + tu) % 360 - 360, by omega, by omega, by omega⟩
theorem ct_upd {P P' : Nat → Bool} {t0 : Nat} (h1 : P t0 = false) (h2 : P' t0 = true) (h3 : ∀ i, i ≠ t0 → P' i = P i) : ∀ n, ct_n P' n = ct_n P n + (if t0 < n then 1 else 0)
  | 0 => rfl
  | n + 1 => by
    have ih := ct_upd h1 h2 h3 n
    show ct_n P' n + (if P' n = true then 1 else 0) = ct_n P n + (if P n = true then 1 else 0) + (if t0 < n + 1 then 1 else 0)
    by_cases e : n = t0
    · subst e
      rw [ih, h1, h2, if_neg (Nat.lt_irrefl n), if_pos (Nat.lt_succ_self n)]
      rfl
    · rw [ih, h3 n e]
      by_cases q : t0 < n
      · rw [if_pos q, if_pos (show t0 < n + 1 by omega)]; omega
      · rw [if_neg q, if_neg (show ¬ t0 < n + 1 by omega)]; omega
theorem sC_upd {tk : Nat → Int} {t0 : Nat} (ht : t0 < 360) (h : tk t0 = -1) {v : Int} (hv : v ≠ -1) : sC (xa_upf tk t0 v) = sC tk + 1 := by
  have k := ct_upd (P := fun t => decide (tk t ≠ -1)) (P' := fun t => decide (xa_upf tk t0 v t ≠ -1)) (t0 := t0) (decide_eq_false (fun z => z h)) (decide_eq_true (by rw [xa_upf_at]; exact hv)) (fun i hi => by rw [xa_upf_ne _ _ hi]) 360
  rw [if_pos ht] at k
  exact k
theorem sC_fl (f : Nat → Int) {n : Nat} (hn : 360 ≤ n) : sC (xa_fl f n (-1)) = 0 := by
  have k : ∀ m, m ≤ 360 → ct_n (fun t => decide (xa_fl f n (-1) t ≠ -1)) m = 0 := by
    intro m
    induction m with
    | zero => intro _; rfl
    | succ m ih =>
      intro hm
      show ct_n (fun t => decide (xa_fl f n (-1) t ≠ -1)) m + (if decide (xa_fl f n (-1) m ≠ -1) = true then 1 else 0) = 0
      rw [ih (by omega), if_neg]
      rw [decide_eq_true_iff]
      intro z
      exact z (xa_fl_lt _ _ (by omega))
  exact k 360 (Nat.le_refl _)
section S2
variable {ld dg : Nat → Int} {pa jo : Nat} {wa sr pu ri sj : Int} {Q P M D : Nat → Nat} {n k : Nat}
/-- a new state answers what it answers -/
theorem sA_new {tk en tk' en' : Nat → Int} (h : sA pa jo wa sr ri sj tk en Q D n) {y d : Nat} (hy : ∀ t : Nat, t < 360 → ((tk t = -1 ∧ kans pa jo wa sr ri sj (t : Int) y) → tk' t = (d : Int) ∧ en' t = (y : Int)) ∧ (¬ (tk t = -1 ∧ kans pa jo wa sr ri sj (t : Int) y) → tk' t = tk t ∧ en' t = en t)) : sA pa jo wa sr ri sj tk' en' (qup Q n y) (qup D n d) (n + 1) := by
  intro t ht
  obtain ⟨y1, y2⟩ := hy t ht
  have o : ∀ b, b < n → qup Q n y b = Q b ∧ qup D n d b = D b := fun b hb => ⟨qup_ne _ _ (by omega), qup_ne _ _ (by omega)⟩
  rcases h t ht with ⟨h1, h2⟩ | ⟨b, b1, b2, b3, b4, b5⟩
  · by_cases q : kans pa jo wa sr ri sj (t : Int) y
    · obtain ⟨z1, z2⟩ := y1 ⟨h1, q⟩
      refine Or.inr ⟨n, by omega, by rw [qup_at]; exact q, fun b' hb' => by rw [(o b' hb').1]; exact h2 b' hb', by rw [qup_at]; exact z1, by rw [qup_at]; exact z2⟩
    · obtain ⟨z1, z2⟩ := y2 (fun z => q z.2)
      refine Or.inl ⟨z1.trans h1, fun b hb => ?_⟩
      by_cases e : b = n
      · subst e; rw [qup_at]; exact q
      · rw [(o b (by omega)).1]; exact h2 b (by omega)
  · obtain ⟨z1, z2⟩ := y2 (fun z => by have := z.1; omega)
    exact Or.inr ⟨b, by omega, by rw [(o b b1).1]; exact b2, fun b' hb' => by rw [(o b' (by omega)).1]; exact b3 b' hb', by rw [(o b b1).2]; exact z1.trans b4, by rw [(o b b1).1]; exact z2.trans b5⟩
theorem sL_new {N : Nat} {lk : Nat → Int} (h : sL N lk Q P n) (h1 : 1 ≤ n) {y S : Nat} (hyn : ∀ b, b < n → Q b ≠ y) (hk : k < n) (hS : S = Q k / 360) (hd : ∀ i j, i < j → j < n → Q i ≠ Q j) (hPb : ∀ i, i < n → P i < n) : lk (Q (n - 1)) = ((Q (P (n - 1)) / 360 : Nat) : Int) * 1048576 + 1048575 ∧ sL N (xa_upf (xa_upf lk y (((S : Nat) : Int) * 1048576 + 1048575)) (Q (n - 1)) (((Q (P (n - 1)) / 360 : Nat) : Int) * 1048576 + ((y : Nat) : Int))) (qup Q n y) (qup P n k) (n + 1) := by
  obtain ⟨g1, g2⟩ := h
  have el := g1 (n - 1) (by omega)
  rw [if_neg (by omega)] at el
  refine ⟨el, fun i hi => ?_, fun x hx hn => ?_⟩
  · by_cases e : i = n
    · subst e
      rw [qup_at, qup_at, xa_upf_ne _ _ (fun z => hyn (i - 1) (by omega) z.symm), xa_upf_at, if_neg (by omega), qup_ne _ _ (by omega), hS]
    · rw [qup_ne Q _ e, qup_ne P _ e, if_pos (by omega), qup_ne Q _ (show P i ≠ n by have := hPb i (by omega); omega)]
      by_cases e2 : i = n - 1
      · subst e2
        rw [xa_upf_at, show n - 1 + 1 = n by omega, qup_at]
      · have hne : Q i ≠ Q (n - 1) := hd i (n - 1) (by omega) (by omega)
        rw [xa_upf_ne _ _ hne, xa_upf_ne _ _ (hyn i (by omega)), g1 i (by omega), if_pos (by omega), qup_ne Q _ (by omega)]
  · have hy : x ≠ y := fun z => hn n (by omega) (by rw [qup_at]; exact z.symm)
    have hq : ∀ i, i < n → Q i ≠ x := fun i hi => by
      have := hn i (by omega)
      rw [qup_ne Q _ (by omega)] at this
      exact this
    rw [xa_upf_ne _ _ (fun z => hq (n - 1) (by omega) z.symm), xa_upf_ne _ _ hy]
    exact g2 x hx hq
end S2
