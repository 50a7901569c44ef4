/-! rows of ticks, filled by meetings -/
abbrev xTQ : Type := (Nat → Int) × (Nat → Int) × Nat
def mq_meet (v : Int) (q : xTQ) (i : Nat) : xTQ := if q.1 i < 0 then (xa_upf q.1 i v, xa_upf q.2.1 q.2.2 (i : Int), q.2.2 + 1) else q
def mq_ok (N : Nat) (q : xTQ) : Prop := (∀ i, i < q.2.2 → 0 ≤ q.2.1 i ∧ q.2.1 i < N ∧ 0 ≤ q.1 (q.2.1 i).toNat ∧ q.1 (q.2.1 i).toNat ≤ i) ∧ (∀ i j, i < j → j < q.2.2 → q.2.1 i ≠ q.2.1 j) ∧ (∀ x : Nat, x < N → 0 ≤ q.1 x → ∃ i, i < q.2.2 ∧ q.2.1 i = x) ∧ (∀ x : Nat, x < N → -1 ≤ q.1 x)
theorem mq_le {N : Nat} {q : xTQ} (h : mq_ok N q) : q.2.2 ≤ N := by
  refine pg_le (fun i => (q.2.1 i).toNat) (fun i hi => ?_) (fun i j h1 h2 => ?_)
  · have := h.1 i hi
    show (q.2.1 i).toNat < N
    omega
  · have a := h.1 i (by omega)
    have b := h.1 j h2
    have c := h.2.1 i j h1 h2
    show (q.2.1 i).toNat ≠ (q.2.1 j).toNat
    omega
theorem mq_ok_meet {N : Nat} {q : xTQ} (h : mq_ok N q) {i : Nat} (hi : i < N) {v : Int} (hv : 0 ≤ v ∧ v ≤ q.2.2) : mq_ok N (mq_meet v q i) := by
  unfold mq_meet
  by_cases hn : q.1 i < 0
  · rw [if_pos hn]
    obtain ⟨h1, h2, h3, h4⟩ := h
    obtain ⟨T, Q, n⟩ := q
    dsimp only at *
    refine ⟨fun j hj => ?_, fun a b a1 a2 => ?_, fun x x1 x2 => ?_, fun x x1 => ?_⟩
    · dsimp only at hj ⊢
      by_cases e : j = n
      · subst e
        rw [xa_upf_at, Int.toNat_natCast, xa_upf_at]
        omega
      · rw [xa_upf_ne _ _ e]
        obtain ⟨g1, g2, g3, g4⟩ := h1 j (by omega)
        rw [xa_upf_ne _ _ (fun z => by rw [z] at g3; omega)]
        exact ⟨g1, g2, g3, g4⟩
    · dsimp only at a2 ⊢
      by_cases e : b = n
      · subst e
        rw [xa_upf_at, xa_upf_ne _ _ (by omega)]
        obtain ⟨g1, g2, g3, g4⟩ := h1 a (by omega)
        intro z
        rw [z, Int.toNat_natCast] at g3
        omega
      · rw [xa_upf_ne _ _ e, xa_upf_ne _ _ (by omega)]
        exact h2 a b a1 (by omega)
    · dsimp only at x2 ⊢
      by_cases e : x = i
      · subst e
        exact ⟨n, by omega, xa_upf_at _ _ _⟩
      · rw [xa_upf_ne _ _ e] at x2
        obtain ⟨j, j1, j2⟩ := h3 x x1 x2
        exact ⟨j, by omega, (xa_upf_ne _ _ (by omega)).trans j2⟩
    · dsimp only
      by_cases e : x = i
      · subst e
        rw [xa_upf_at]; omega
      · rw [xa_upf_ne _ _ e]; exact h4 x x1
  · rw [if_neg hn]
    exact h
theorem mq_lt {N : Nat} {q : xTQ} (h : mq_ok N q) {i : Nat} (hi : i < N) (hn : q.1 i < 0) : q.2.2 < N := by
  have h2 := mq_le (mq_ok_meet h hi (v := 0) ⟨by omega, by omega⟩)
  unfold mq_meet at h2
  rw [if_pos hn] at h2
  dsimp only at h2
  omega
def mq_meets (v : Int) (q : xTQ) (l : List Nat) : xTQ := l.foldl (mq_meet v) q
theorem mq_meet_n (v : Int) (q : xTQ) (i : Nat) : q.2.2 ≤ (mq_meet v q i).2.2 := by
  unfold mq_meet
  split
  · show q.2.2 ≤ q.2.2 + 1; omega
  · exact Nat.le_refl _
/-- what a row of meetings changes -/
theorem mq_meets_spec {N : Nat} {v : Int} : ∀ (l : List Nat) (q : xTQ), mq_ok N q → (0 ≤ v ∧ v ≤ q.2.2) → (∀ i ∈ l, i < N) →
    mq_ok N (mq_meets v q l) ∧ q.2.2 ≤ (mq_meets v q l).2.2 ∧ (∀ i, i < q.2.2 → (mq_meets v q l).2.1 i = q.2.1 i) ∧ (∀ i, q.2.2 ≤ i → i < (mq_meets v q l).2.2 → (mq_meets v q l).1 ((mq_meets v q l).2.1 i).toNat = v) ∧
    (∀ x : Nat, x < N → 0 ≤ q.1 x → (mq_meets v q l).1 x = q.1 x) ∧ (∀ x : Nat, x < N → q.1 x < 0 → (mq_meets v q l).1 x = (if x ∈ l then v else q.1 x))
  | [], q, h, hv, hl => ⟨h, Nat.le_refl _, fun _ _ => rfl, fun i i1 i2 => absurd i2 (Nat.not_lt.mpr i1), fun _ _ _ => rfl, fun x _ _ => by rw [if_neg (by simp)]; rfl⟩
  | a :: l, q, h, hv, hl => by
    have ha := hl a List.mem_cons_self
    have hn := mq_meet_n v q a
    obtain ⟨g1, g2, g3, g4, g5, g6⟩ := mq_meets_spec l (mq_meet v q a) (mq_ok_meet h ha hv) ⟨hv.1, by omega⟩ (fun i hi => hl i (List.mem_cons_of_mem _ hi))
    have e : mq_meets v q (a :: l) = mq_meets v (mq_meet v q a) l := rfl
    rw [e]
    refine ⟨g1, by omega, fun i hi => ?_, fun i i1 i2 => ?_, fun x x1 x2 => ?_, fun x x1 x2 => ?_⟩
    · rw [g3 i (by omega)]
      unfold mq_meet
      split
      · exact xa_upf_ne _ _ (by omega)
      · rfl
    · by_cases i3 : (mq_meet v q a).2.2 ≤ i
      · exact g4 i i3 i2
      · have hneg : q.1 a < 0 := by
          unfold mq_meet at i3
          split at i3
          · assumption
          · omega
        have e1 : mq_meet v q a = (xa_upf q.1 a v, xa_upf q.2.1 q.2.2 (a : Int), q.2.2 + 1) := if_pos hneg
        rw [g3 i (by omega)]
        rw [e1] at i3
        dsimp only at i3
        have : i = q.2.2 := by omega
        subst this
        have e2 : (mq_meet v q a).2.1 q.2.2 = (a : Int) := by rw [e1]; exact xa_upf_at _ _ _
        rw [e2, Int.toNat_natCast]
        have e3 : (mq_meet v q a).1 a = v := by rw [e1]; exact xa_upf_at _ _ _
        rw [g5 a ha (by rw [e3]; exact hv.1), e3]
    · have e1 : (mq_meet v q a).1 x = q.1 x := by
        unfold mq_meet
        split
        · exact xa_upf_ne _ _ (by rintro rfl; omega)
        · rfl
      rw [g5 x x1 (by omega), e1]
    · by_cases ex : x = a
      · subst ex
        have e1 : (mq_meet v q x).1 x = v := by unfold mq_meet; rw [if_pos x2]; exact xa_upf_at _ _ _
        rw [if_pos List.mem_cons_self, g5 x x1 (by omega), e1]
      · have e1 : (mq_meet v q a).1 x = q.1 x := by
          unfold mq_meet
          split
          · exact xa_upf_ne _ _ ex
          · rfl
        rw [g6 x x1 (by omega), e1]
        by_cases hx : x ∈ l
        · rw [if_pos hx, if_pos (List.mem_cons_of_mem _ hx)]
        · rw [if_neg hx, if_neg (by simp [ex, hx])]
/-- a search back from the goals, k states through -/
def mb_I (N : Nat) (tg : Nat → Prop) (R : Nat → Nat → Prop) (q : xTQ) (k : Nat) : Prop :=
  mq_ok N q ∧ k ≤ q.2.2 ∧ (∀ x, x < N → (q.1 x = 0 ↔ tg x)) ∧ (∀ x, x < N → 0 < q.1 x → ∃ y, y < N ∧ R x y ∧ q.1 y = q.1 x - 1) ∧
  (∀ i j, i ≤ j → j < q.2.2 → q.1 (q.2.1 i).toNat ≤ q.1 (q.2.1 j).toNat) ∧ (k < q.2.2 → ∀ j, j < q.2.2 → q.1 (q.2.1 j).toNat ≤ q.1 (q.2.1 k).toNat + 1) ∧
  (∀ j, j < k → ∀ x, x < N → R x (q.2.1 j).toNat → 0 ≤ q.1 x ∧ q.1 x ≤ q.1 (q.2.1 j).toNat + 1)
theorem mb_next {N : Nat} {tg : Nat → Prop} {R : Nat → Nat → Prop} {q : xTQ} {k : Nat} (h : mb_I N tg R q k) (hk : k < q.2.2) {l : List Nat} (hl : ∀ x ∈ l, x < N ∧ R x (q.2.1 k).toNat) (hl2 : ∀ x, x < N → R x (q.2.1 k).toNat → x ∈ l) : mb_I N tg R (mq_meets (q.1 (q.2.1 k).toNat + 1) q l) (k + 1) := by
  obtain ⟨h1, h2, h3, h4, h5, h6, h7⟩ := h
  obtain ⟨k1, k2, k3, k4⟩ := h1.1 k hk
  have hv : 0 ≤ q.1 (q.2.1 k).toNat + 1 ∧ q.1 (q.2.1 k).toNat + 1 ≤ q.2.2 := by omega
  obtain ⟨g1, g2, g3, g4, g5, g6⟩ := mq_meets_spec l q h1 hv (fun x hx => (hl x hx).1)
  generalize hv' : q.1 (q.2.1 k).toNat + 1 = v at *
  generalize hq' : mq_meets v q l = q' at *
  have old : ∀ i, i < q.2.2 → q'.1 (q'.2.1 i).toNat = q.1 (q.2.1 i).toNat := fun i hi => by
    obtain ⟨a1, a2, a3, a4⟩ := h1.1 i hi
    rw [g3 i hi]
    exact g5 _ (by omega) a3
  have all : ∀ j, j < q'.2.2 → q'.1 (q'.2.1 j).toNat ≤ v := fun j hj => by
    by_cases j1 : j < q.2.2
    · rw [old j j1]; have := h6 hk j j1; omega
    · rw [g4 j (by omega) hj]; omega
  have mono : ∀ i j, i ≤ j → j < q'.2.2 → q'.1 (q'.2.1 i).toNat ≤ q'.1 (q'.2.1 j).toNat := fun i j i1 j1 => by
    by_cases j2 : j < q.2.2
    · rw [old j j2, old i (by omega)]; exact h5 i j i1 j2
    · rw [g4 j (by omega) j1]; exact all i (by omega)
  refine ⟨g1, by omega, fun x hx => ?_, fun x hx x0 => ?_, mono, fun hk' j hj => ?_, fun j hj x hx hR => ?_⟩
  · by_cases e : 0 ≤ q.1 x
    · rw [g5 x hx e]; exact h3 x hx
    · rw [g6 x hx (by omega)]
      have e2 := h3 x hx
      constructor
      · intro z
        exfalso
        split at z <;> omega
      · intro z
        have := e2.mpr z
        omega
  · by_cases e : 0 ≤ q.1 x
    · rw [g5 x hx e] at x0 ⊢
      obtain ⟨y, y1, y2, y3⟩ := h4 x hx x0
      exact ⟨y, y1, y2, by rw [g5 y y1 (by omega)]; exact y3⟩
    · rw [g6 x hx (by omega)] at x0 ⊢
      by_cases xl : x ∈ l
      · rw [if_pos xl] at x0 ⊢
        exact ⟨(q.2.1 k).toNat, by omega, (hl x xl).2, by rw [g5 _ (by omega) k3]; omega⟩
      · rw [if_neg xl] at x0
        omega
  · have a := all j hj
    have b := mono k (k + 1) (by omega) hk'
    rw [old k hk] at b
    omega
  · by_cases e : j < k
    · rw [g3 j (by omega)] at hR
      obtain ⟨a1, a2⟩ := h7 j e x hx hR
      rw [g5 x hx a1, old j (by omega)]
      exact ⟨a1, a2⟩
    · have : j = k := by omega
      subst this
      rw [g3 j hk] at hR
      have xl := hl2 x hx hR
      have x0 : 0 ≤ q'.1 x := by
        by_cases e : 0 ≤ q.1 x
        · rw [g5 x hx e]; exact e
        · rw [g6 x hx (by omega), if_pos xl]; omega
      obtain ⟨i, i1, i2⟩ := g1.2.2.1 x hx x0
      have := all i i1
      rw [i2, Int.toNat_natCast] at this
      rw [old j hk]
      omega
/-- the ticks that stand at the end -/
def mT (N : Nat) (tg : Nat → Prop) (R : Nat → Nat → Prop) (T : Nat → Int) : Prop :=
  (∀ x, x < N → (T x = 0 ↔ tg x)) ∧ (∀ x, x < N → 0 < T x → ∃ y, y < N ∧ R x y ∧ T y = T x - 1) ∧ (∀ y, y < N → 0 ≤ T y → ∀ x, x < N → R x y → 0 ≤ T x ∧ T x ≤ T y + 1) ∧ (∀ x, x < N → -1 ≤ T x ∧ T x < N)
theorem mb_end {N : Nat} {tg : Nat → Prop} {R : Nat → Nat → Prop} {q : xTQ} (h : mb_I N tg R q q.2.2) : mT N tg R q.1 := by
  obtain ⟨h1, h2, h3, h4, h5, h6, h7⟩ := h
  refine ⟨h3, h4, fun y hy y0 x hx hR => ?_, fun x hx => ?_⟩
  · obtain ⟨j, j1, j2⟩ := h1.2.2.1 y hy y0
    have := h7 j j1 x hx (by rw [j2, Int.toNat_natCast]; exact hR)
    rw [j2, Int.toNat_natCast] at this
    exact this
  · have a := h1.2.2.2 x hx
    by_cases e : 0 ≤ q.1 x
    · obtain ⟨j, j1, j2⟩ := h1.2.2.1 x hx e
      have b := (h1.1 j j1).2.2.2
      rw [j2, Int.toNat_natCast] at b
      have := mq_le h1
      omega
    · omega
theorem mb_start {N : Nat} {tg : Nat → Prop} {R : Nat → Nat → Prop} {l : List Nat} (hl : ∀ x ∈ l, x < N ∧ tg x) (hl2 : ∀ x, x < N → tg x → x ∈ l) (T Q : Nat → Int) (hT : ∀ x, x < N → T x = -1) : mb_I N tg R (mq_meets 0 (T, Q, 0) l) 0 := by
  have h0 : mq_ok N (T, Q, 0) := ⟨fun i hi => absurd hi (Nat.not_lt_zero _), fun i j _ hj => absurd hj (Nat.not_lt_zero _), fun x x1 x2 => by
    have e := hT x x1
    have x2 : 0 ≤ T x := x2
    omega, fun x x1 => by
    have e := hT x x1
    show -1 ≤ T x
    omega⟩
  obtain ⟨g1, g2, g3, g4, g5, g6⟩ := mq_meets_spec (v := 0) l (T, Q, 0) h0 ⟨by omega, by omega⟩ (fun x hx => (hl x hx).1)
  generalize mq_meets 0 (T, Q, 0) l = q' at *
  have e6 : ∀ x, x < N → q'.1 x = if x ∈ l then 0 else -1 := fun x hx => by
    rw [g6 x hx (by show T x < 0; rw [hT x hx]; decide)]
    show (if x ∈ l then 0 else T x) = _
    rw [hT x hx]
  refine ⟨g1, Nat.zero_le _, fun x hx => ?_, fun x hx x0 => ?_, fun i j i1 j1 => ?_, fun _ j hj => ?_, fun j hj => absurd hj (Nat.not_lt_zero _)⟩
  · rw [e6 x hx]
    constructor
    · intro z
      by_cases xl : x ∈ l
      · exact (hl x xl).2
      · rw [if_neg xl] at z; omega
    · intro z
      rw [if_pos (hl2 x hx z)]
  · rw [e6 x hx] at x0
    split at x0 <;> omega
  · rw [g4 i (Nat.zero_le _) (by omega), g4 j (Nat.zero_le _) j1]; exact Int.le_refl _
  · rw [g4 j (Nat.zero_le _) hj]
    have := (g1.1 0 (by omega)).2.2.1
    omega
/-- ways: the least ticks are the length of the shortest way to a goal -/
def mP (N : Nat) (R : Nat → Nat → Prop) : Nat → Nat → Nat → Prop
  | 0, x, z => x = z
  | l + 1, x, z => ∃ y, y < N ∧ R x y ∧ mP N R l y z
theorem mT_path {N : Nat} {tg : Nat → Prop} {R : Nat → Nat → Prop} {T : Nat → Int} (h : mT N tg R T) : ∀ (l x : Nat), x < N → T x = l → ∃ z, z < N ∧ tg z ∧ mP N R l x z
  | 0, x, hx, e => ⟨x, hx, (h.1 x hx).mp e, rfl⟩
  | l + 1, x, hx, e => by
    obtain ⟨y, y1, y2, y3⟩ := h.2.1 x hx (by omega)
    obtain ⟨z, z1, z2, z3⟩ := mT_path h l y y1 (by omega)
    exact ⟨z, z1, z2, y, y1, y2, z3⟩
theorem mT_min {N : Nat} {tg : Nat → Prop} {R : Nat → Nat → Prop} {T : Nat → Int} (h : mT N tg R T) : ∀ (l x z : Nat), x < N → z < N → tg z → mP N R l x z → 0 ≤ T x ∧ T x ≤ l
  | 0, x, z, hx, hz, ht, e => by
    have e : x = z := e
    subst e
    have := (h.1 x hx).mpr ht
    omega
  | l + 1, x, z, hx, hz, ht, ⟨y, y1, y2, y3⟩ => by
    have a := mT_min h l y z y1 hz ht y3
    have b := h.2.2.1 y y1 a.1 x hx y2
    omega
/-- the same rows for all that can be come to -/
def mc_I (N root : Nat) (R : Nat → Nat → Prop) (q : xTQ) (k : Nat) : Prop :=
  mq_ok N q ∧ k ≤ q.2.2 ∧ (∀ x, x < N → q.1 x ≤ 0) ∧ q.1 root = 0 ∧ (∀ i, i < q.2.2 → ∃ l, mP N R l root (q.2.1 i).toNat) ∧ (∀ j, j < k → ∀ x, x < N → R (q.2.1 j).toNat x → q.1 x = 0)
theorem mP_app {N : Nat} {R : Nat → Nat → Prop} : ∀ (l x y z : Nat), mP N R l x y → y < N → R y z → z < N → mP N R (l + 1) x z
  | 0, x, y, z, h, hy, hR, hz => by
    have h : x = y := h
    subst h
    exact ⟨z, hz, hR, rfl⟩
  | l + 1, x, y, z, ⟨w, w1, w2, w3⟩, hy, hR, hz => ⟨w, w1, w2, mP_app l w y z w3 hy hR hz⟩
theorem mc_next {N root : Nat} {R : Nat → Nat → Prop} {q : xTQ} {k : Nat} (h : mc_I N root R q k) (hr : root < N) (hk : k < q.2.2) {l : List Nat} (hl : ∀ x ∈ l, x < N ∧ R (q.2.1 k).toNat x) (hl2 : ∀ x, x < N → R (q.2.1 k).toNat x → x ∈ l) : mc_I N root R (mq_meets 0 q l) (k + 1) := by
  obtain ⟨h1, h2, h3, h4, h5, h6⟩ := h
  obtain ⟨k1, k2, k3, k4⟩ := h1.1 k hk
  obtain ⟨g1, g2, g3, g4, g5, g6⟩ := mq_meets_spec (v := 0) l q h1 ⟨by omega, by omega⟩ (fun x hx => (hl x hx).1)
  generalize hq' : mq_meets 0 q l = q' at *
  have e0 : ∀ x, x < N → q.1 x = 0 → q'.1 x = 0 := fun x hx e => by rw [g5 x hx (by omega)]; exact e
  refine ⟨g1, by omega, fun x hx => ?_, e0 root hr h4, fun i hi => ?_, fun j hj x hx hR => ?_⟩
  · by_cases e : 0 ≤ q.1 x
    · rw [g5 x hx e]; exact h3 x hx
    · rw [g6 x hx (by omega)]; split <;> omega
  · by_cases i1 : i < q.2.2
    · rw [g3 i i1]; exact h5 i i1
    · obtain ⟨a1, a2, a3, a4⟩ := g1.1 i hi
      have hxl : (q'.2.1 i).toNat ∈ l := by
        by_cases e : 0 ≤ q.1 (q'.2.1 i).toNat
        · exfalso
          obtain ⟨j, j1, j2⟩ := h1.2.2.1 _ (by omega) e
          have := g1.2.1 j i (by omega) hi
          rw [g3 j j1, j2] at this
          omega
        · have b := g6 (q'.2.1 i).toNat (by omega) (by omega)
          by_cases e2 : (q'.2.1 i).toNat ∈ l
          · exact e2
          · rw [if_neg e2] at b; omega
      obtain ⟨m, hm⟩ := h5 k hk
      exact ⟨m + 1, mP_app m root _ _ hm (by omega) (hl _ hxl).2 (by omega)⟩
  · by_cases e : j < k
    · rw [g3 j (by omega)] at hR
      exact e0 x hx (h6 j e x hx hR)
    · have : j = k := by omega
      subst this
      rw [g3 j hk] at hR
      have xl := hl2 x hx hR
      by_cases e : 0 ≤ q.1 x
      · exact e0 x hx (by have := h3 x hx; omega)
      · rw [g6 x hx (by omega), if_pos xl]
theorem mc_start {N root : Nat} {R : Nat → Nat → Prop} (hr : root < N) (T Q : Nat → Int) (hT : ∀ x, x < N → T x = -1) : mc_I N root R (mq_meet 0 (T, Q, 0) root) 0 := by
  have h0 : mq_ok N (T, Q, 0) := ⟨fun i hi => absurd hi (Nat.not_lt_zero _), fun i j _ hj => absurd hj (Nat.not_lt_zero _), fun x x1 x2 => by
    have e := hT x x1
    have x2 : 0 ≤ T x := x2
    omega, fun x x1 => by
    have e := hT x x1
    show -1 ≤ T x
    omega⟩
  have g := mq_ok_meet h0 hr (v := 0) ⟨by omega, by omega⟩
  have e : mq_meet 0 (T, Q, 0) root = (xa_upf T root 0, xa_upf Q 0 (root : Int), 1) := by
    unfold mq_meet
    rw [if_pos (by show T root < 0; rw [hT root hr]; decide)]
  rw [e] at g ⊢
  refine ⟨g, Nat.zero_le _, fun x hx => ?_, xa_upf_at _ _ _, fun i hi => ?_, fun j hj => absurd hj (Nat.not_lt_zero _)⟩
  · show xa_upf T root 0 x ≤ 0
    by_cases e : x = root
    · rw [e, xa_upf_at]; exact Int.le_refl _
    · rw [xa_upf_ne _ _ e, hT x hx]; decide
  · have hi : i < 1 := hi
    have : i = 0 := by omega
    subst this
    exact ⟨0, by show root = (xa_upf Q 0 (root : Int) 0).toNat; rw [xa_upf_at, Int.toNat_natCast]⟩
/-- all that can be come to, and nothing else -/
theorem mc_end {N root : Nat} {R : Nat → Nat → Prop} {q : xTQ} (h : mc_I N root R q q.2.2) (hr : root < N) : ∀ x, x < N → (q.1 x = 0 ↔ ∃ l, mP N R l root x) := by
  obtain ⟨h1, h2, h3, h4, h5, h6⟩ := h
  intro x hx
  constructor
  · intro e
    obtain ⟨i, i1, i2⟩ := h1.2.2.1 x hx (by omega)
    obtain ⟨l, hl⟩ := h5 i i1
    rw [i2, Int.toNat_natCast] at hl
    exact ⟨l, hl⟩
  · rintro ⟨l, hl⟩
    have key : ∀ (l y : Nat), y < N → q.1 y = 0 → mP N R l y x → q.1 x = 0 := by
      intro l
      induction l with
      | zero =>
        intro y hy e hp
        have hp : y = x := hp
        rw [← hp]; exact e
      | succ l ih =>
        intro y hy e hp
        obtain ⟨w, w1, w2, w3⟩ := hp
        obtain ⟨i, i1, i2⟩ := h1.2.2.1 y hy (by omega)
        refine ih w w1 (h6 i i1 w w1 ?_) w3
        rw [i2, Int.toNat_natCast]
        exact w2
    exact key l root hr h4 hl
