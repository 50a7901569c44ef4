/-! a search in the order of finding: what its row of states, parents and moves says -/
theorem pg_le {n N : Nat} (g : Nat → Nat) (h1 : ∀ i, i < n → g i < N) (h2 : ∀ i j, i < j → j < n → g i ≠ g j) : n ≤ N := by
  have hn : ((List.range n).map g).Nodup := by
    rw [List.Nodup, List.pairwise_map]
    refine List.Pairwise.imp_of_mem ?_ List.pairwise_lt_range
    intro a b ha hb hab
    exact h2 a b hab (List.mem_range.mp hb)
  have := hn.length_le_of_subset (l₂ := List.range N) (fun x hx => by
    obtain ⟨i, hi, rfl⟩ := List.mem_map.mp hx
    exact List.mem_range.mpr (h1 i (List.mem_range.mp hi)))
  simpa using this
def nxs (nx : Nat → Nat → Option Nat) : List Nat → Nat → Option Nat
  | [], x => some x
  | m :: ms, x => (nx x m).bind (nxs nx ms)
theorem nxs_app (nx : Nat → Nat → Option Nat) (m : Nat) : ∀ (ms : List Nat) (x : Nat), nxs nx (ms ++ [m]) x = (nxs nx ms x).bind (fun y => nx y m)
  | [], x => by
    show (nx x m).bind (nxs nx []) = nx x m
    cases nx x m <;> rfl
  | a :: ms, x => by
    show (nx x a).bind (nxs nx (ms ++ [m])) = ((nx x a).bind (nxs nx ms)).bind _
    cases nx x a with
    | none => rfl
    | some y => exact nxs_app nx m ms y
/-- states Q, found from their parents P by the moves M, D moves deep; n of them; all moves of the first k are tried, of the next one those below mb -/
def qI (nx : Nat → Nat → Option Nat) (root N : Nat) (Q P M D : Nat → Nat) (n k mb : Nat) : Prop :=
  (1 ≤ n ∧ Q 0 = root ∧ D 0 = 0 ∧ k ≤ n) ∧ (∀ i, i < n → Q i < N) ∧ (∀ i j, i < j → j < n → Q i ≠ Q j) ∧
  (∀ c, 0 < c → c < n → P c < c ∧ nx (Q (P c)) (M c) = some (Q c) ∧ D c = D (P c) + 1 ∧ (P c < k ∨ P c = k ∧ M c < mb)) ∧
  (∀ b c, 0 < b → b < c → c < n → P b < P c ∨ P b = P c ∧ M b < M c) ∧
  (∀ a m y, a < n → (a < k ∨ a = k ∧ m < mb) → nx (Q a) m = some y → ∃ b, b < n ∧ Q b = y ∧ (b = 0 ∨ P b < a ∨ P b = a ∧ M b ≤ m))
def qup (f : Nat → Nat) (j x : Nat) : Nat → Nat := fun i => if i = j then x else f i
theorem qup_at (f : Nat → Nat) (j x : Nat) : qup f j x j = x := if_pos rfl
theorem qup_ne (f : Nat → Nat) {i j : Nat} (x : Nat) (h : i ≠ j) : qup f j x i = f i := if_neg h
section QI
variable {nx : Nat → Nat → Option Nat} {root N : Nat} {Q P M D : Nat → Nat} {n k mb : Nat}
theorem qI_0 (hr : root < N) : qI nx root N (fun _ => root) (fun _ => 0) (fun _ => 0) (fun _ => 0) 1 0 0 :=
  ⟨⟨Nat.le_refl _, rfl, rfl, Nat.zero_le _⟩, fun _ _ => hr, fun i j h1 h2 => by omega, fun c h1 h2 => by omega, fun b c h1 h2 h3 => by omega, fun a m y h1 h2 => by omega⟩
theorem qI_old (h : qI nx root N Q P M D n k mb) (ho : ∀ y, nx (Q k) mb = some y → ∃ b, b < n ∧ Q b = y) : qI nx root N Q P M D n k (mb + 1) := by
  obtain ⟨h1, h2, h3, h4, h5, h6⟩ := h
  refine ⟨h1, h2, h3, fun c c1 c2 => ?_, h5, fun a m y a1 a2 a3 => ?_⟩
  · obtain ⟨q1, q2, q3, q4⟩ := h4 c c1 c2
    exact ⟨q1, q2, q3, by omega⟩
  · by_cases e : a = k ∧ m = mb
    · obtain ⟨rfl, rfl⟩ := e
      obtain ⟨b, b1, b2⟩ := ho y a3
      refine ⟨b, b1, b2, ?_⟩
      by_cases b0 : b = 0
      · exact Or.inl b0
      · obtain ⟨-, -, -, q4⟩ := h4 b (by omega) b1
        omega
    · exact h6 a m y a1 (by omega) a3
theorem qI_nones (h : qI nx root N Q P M D n k mb) : ∀ (d : Nat), (∀ m, mb ≤ m → m < mb + d → nx (Q k) m = none) → qI nx root N Q P M D n k (mb + d)
  | 0, _ => h
  | d + 1, hn => qI_old (qI_nones h d (fun m m1 m2 => hn m m1 (by omega))) (fun y hy => by have e := hn (mb + d) (by omega) (by omega); cases e.symm.trans hy)
theorem qI_new (h : qI nx root N Q P M D n k mb) (hk : k < n) {y : Nat} (hy : nx (Q k) mb = some y) (hyN : y < N) (hnew : ∀ b, b < n → Q b ≠ y) : qI nx root N (qup Q n y) (qup P n k) (qup M n mb) (qup D n (D k + 1)) (n + 1) k (mb + 1) := by
  obtain ⟨⟨h1, h1b, h1c, h1d⟩, h2, h3, h4, h5, h6⟩ := h
  have o : ∀ (f : Nat → Nat) (x i : Nat), i < n → qup f n x i = f i := fun f x i hi => qup_ne f x (by omega)
  refine ⟨⟨by omega, by rw [o _ _ 0 (by omega)]; exact h1b, by rw [o _ _ 0 (by omega)]; exact h1c, by omega⟩, fun i hi => ?_, fun i j i1 i2 => ?_, fun c c1 c2 => ?_, fun b c b1 b2 b3 => ?_, fun a m z a1 a2 a3 => ?_⟩
  · by_cases e : i = n
    · subst e; rw [qup_at]; exact hyN
    · rw [o _ _ i (by omega)]; exact h2 i (by omega)
  · by_cases e : j = n
    · subst e; rw [qup_at, o _ _ i (by omega)]; exact hnew i (by omega)
    · rw [o _ _ i (by omega), o _ _ j (by omega)]; exact h3 i j i1 (by omega)
  · by_cases e : c = n
    · subst e
      rw [qup_at, qup_at, qup_at, qup_at, o _ _ k (by omega), o _ _ k (by omega)]
      exact ⟨hk, hy, rfl, Or.inr ⟨rfl, by omega⟩⟩
    · obtain ⟨q1, q2, q3, q4⟩ := h4 c c1 (by omega)
      rw [o P _ c (by omega), o M _ c (by omega), o Q _ c (by omega), o D _ c (by omega), o Q _ _ (by omega), o D _ _ (by omega)]
      exact ⟨q1, q2, q3, by omega⟩
  · by_cases e : c = n
    · subst e
      rw [qup_at, qup_at, o P _ b (by omega), o M _ b (by omega)]
      obtain ⟨-, -, -, q4⟩ := h4 b b1 (by omega)
      omega
    · rw [o P _ b (by omega), o M _ b (by omega), o P _ c (by omega), o M _ c (by omega)]
      exact h5 b c b1 b2 (by omega)
  · by_cases e : a = n
    · omega
    · rw [o Q _ a (by omega)] at a3
      by_cases e2 : a = k ∧ m = mb
      · obtain ⟨rfl, rfl⟩ := e2
        rw [hy] at a3
        cases a3
        exact ⟨n, by omega, qup_at _ _ _, Or.inr (Or.inr ⟨qup_at _ _ _, by rw [qup_at]; exact Nat.le_refl _⟩)⟩
      · obtain ⟨b, b1, b2, b3⟩ := h6 a m z (by omega) (by omega) a3
        exact ⟨b, by omega, by rw [o Q _ b b1]; exact b2, by rw [o P _ b b1, o M _ b b1]; exact b3⟩
theorem qI_next (h : qI nx root N Q P M D n k mb) (hk : k < n) (hn : ∀ m, mb ≤ m → nx (Q k) m = none) : qI nx root N Q P M D n (k + 1) 0 := by
  obtain ⟨⟨h1, h1b, h1c, h1d⟩, h2, h3, h4, h5, h6⟩ := h
  refine ⟨⟨h1, h1b, h1c, by omega⟩, h2, h3, fun c c1 c2 => ?_, h5, fun a m y a1 a2 a3 => ?_⟩
  · obtain ⟨q1, q2, q3, q4⟩ := h4 c c1 c2
    exact ⟨q1, q2, q3, by omega⟩
  · by_cases e : a < k
    · exact h6 a m y a1 (Or.inl e) a3
    · have e : a = k := by omega
      subst e
      by_cases e2 : m < mb
      · exact h6 a m y a1 (Or.inr ⟨rfl, e2⟩) a3
      · rw [hn m (by omega)] at a3
        cases a3
theorem qI_le (h : qI nx root N Q P M D n k mb) : n ≤ N := pg_le Q h.2.1 h.2.2.1
theorem qI_mono (h : qI nx root N Q P M D n k mb) : ∀ c b : Nat, b ≤ c → c < n → D b ≤ D c := by
  obtain ⟨⟨h1, h1b, h1c, h1d⟩, h2, h3, h4, h5, h6⟩ := h
  intro c
  induction c using Nat.strongRecOn with
  | _ c ih =>
    intro b hb hc
    by_cases b0 : b = 0
    · subst b0; omega
    by_cases e : b = c
    · subst e; exact Nat.le_refl _
    obtain ⟨p1, -, p3, -⟩ := h4 b (by omega) (by omega)
    obtain ⟨c1, -, c3, -⟩ := h4 c (by omega) hc
    have h7 := h5 b c (by omega) (by omega) hc
    have := ih (P c) c1 (P b) (by omega) (by omega)
    omega
theorem qI_D0 (h : qI nx root N Q P M D n k mb) {c : Nat} (hc : c < n) (h0 : 0 < D c) : 0 < c := by
  by_cases e : c = 0
  · subst e
    have := h.1.2.2.1
    omega
  · omega
theorem qI_path (h : qI nx root N Q P M D n k mb) : ∀ c : Nat, c < n → ∃ ms : List Nat, ms.length = D c ∧ nxs nx ms root = some (Q c) := by
  obtain ⟨⟨h1, h1b, h1c, h1d⟩, h2, h3, h4, h5, h6⟩ := h
  intro c
  induction c using Nat.strongRecOn with
  | _ c ih =>
    intro hc
    by_cases c0 : c = 0
    · subst c0
      exact ⟨[], h1c.symm, by rw [h1b]; rfl⟩
    · obtain ⟨p1, p2, p3, -⟩ := h4 c (by omega) hc
      obtain ⟨ms, m1, m2⟩ := ih (P c) p1 (by omega)
      refine ⟨ms ++ [M c], by rw [List.length_append, m1]; exact p3.symm, ?_⟩
      rw [nxs_app, m2]
      exact p2
/-- no shorter way than the one by which a state was found -/
theorem qI_short (h : qI nx root N Q P M D n k mb) : ∀ (ms : List Nat) (a y : Nat), a < n → nxs nx ms (Q a) = some y → (∀ c, c < n → D c < D a + ms.length → c < k) → ∃ b, b < n ∧ Q b = y ∧ D b ≤ D a + ms.length
  | [], a, y, ha, hy, _ => ⟨a, ha, Option.some.inj hy, Nat.le_refl _⟩
  | m :: ms, a, y, ha, hy, hx => by
    have h' := h
    obtain ⟨⟨h1, h1b, h1c, h1d⟩, h2, h3, h4, h5, h6⟩ := h'
    have hy : (nx (Q a) m).bind (nxs nx ms) = some y := hy
    cases hz : nx (Q a) m with
    | none => rw [hz] at hy; cases hy
    | some z =>
      rw [hz] at hy
      have hl : (m :: ms).length = ms.length + 1 := rfl
      rw [hl] at hx ⊢
      obtain ⟨b, b1, b2, b3⟩ := h6 a m z ha (Or.inl (hx a ha (by omega))) hz
      have hD : D b ≤ D a + 1 := by
        by_cases b0 : b = 0
        · subst b0; omega
        · obtain ⟨p1, -, p3, -⟩ := h4 b (by omega) b1
          have := qI_mono h a (P b) (by omega) ha
          omega
      obtain ⟨e, e1, e2, e3⟩ := qI_short h ms b y b1 (by rw [b2]; exact hy) (fun c c1 c2 => hx c c1 (by omega))
      exact ⟨e, e1, e2, by omega⟩
def anc (P : Nat → Nat) : Nat → Nat → Nat
  | 0, c => c
  | i + 1, c => P (anc P i c)
theorem anc_D (h : qI nx root N Q P M D n k mb) {c : Nat} (hc : c < n) : ∀ i, i ≤ D c → anc P i c < n ∧ D (anc P i c) = D c - i
  | 0, _ => ⟨hc, rfl⟩
  | i + 1, hi => by
    obtain ⟨a1, a2⟩ := anc_D h hc i (by omega)
    have a0 := qI_D0 h a1 (by omega)
    obtain ⟨q1, q2, q3, q4⟩ := h.2.2.2.1 _ a0 a1
    show P (anc P i c) < n ∧ D (P (anc P i c)) = _
    omega
theorem anc_le (h : qI nx root N Q P M D n k mb) {c : Nat} (hc : c < n) : ∀ i, i ≤ D c → anc P i c ≤ c
  | 0, _ => Nat.le_refl _
  | i + 1, hi => by
    have a := anc_le h hc i (by omega)
    obtain ⟨a1, a2⟩ := anc_D h hc i (by omega)
    have a0 := qI_D0 h a1 (by omega)
    obtain ⟨q1, q2, q3, q4⟩ := h.2.2.2.1 _ a0 a1
    show P (anc P i c) ≤ c
    omega
/-- what was found earlier leads to what was found earlier -/
theorem qI_less (h : qI nx root N Q P M D n k mb) {c : Nat} (hc : c < n) : ∀ (l : Nat) (b' : Nat) (ms : List Nat) (y : Nat), l ≤ D c → b' < anc P l c → ms.length = l → nxs nx ms (Q b') = some y → ∃ c', c' < c ∧ Q c' = y
  | 0, b', [], y, _, hb, _, hy => ⟨b', hb, Option.some.inj hy⟩
  | 0, _, _ :: _, _, _, _, hl, _ => by cases hl
  | _ + 1, _, [], _, _, _, hl, _ => by cases hl
  | l + 1, b', m :: ms, y, hD, hb, hl, hy => by
    have h' := h
    obtain ⟨⟨h1, h1b, h1c, h1d⟩, h2, h3, h4, h5, h6⟩ := h'
    have hl : ms.length = l := by simpa using hl
    obtain ⟨a1, a2⟩ := anc_D h hc l (by omega)
    have a0 := qI_D0 h a1 (by omega)
    obtain ⟨p1, p2, p3, p4⟩ := h4 _ a0 a1
    have hb : b' < P (anc P l c) := hb
    have hy : (nx (Q b') m).bind (nxs nx ms) = some y := hy
    cases hz : nx (Q b') m with
    | none => rw [hz] at hy; cases hy
    | some z =>
      rw [hz] at hy
      obtain ⟨b, b1, b2, b3⟩ := h6 b' m z (by omega) (Or.inl (by omega)) hz
      have hlt : b < anc P l c := by
        by_cases e : b < anc P l c
        · exact e
        · exfalso
          by_cases e2 : b = anc P l c
          · rw [e2] at b3; omega
          · have := h5 (anc P l c) b a0 (by omega) b1
            omega
      exact qI_less h hc l b ms y (by omega) hlt hl (by rw [b2]; exact hy)
/-- along the way to the first state of a kind no lower move leads as fast to one of that kind -/
theorem qI_greedy (h : qI nx root N Q P M D n k mb) {c : Nat} (hc : c < n) {tg : Nat → Prop} (hf : ∀ b, b < c → ¬ tg (Q b)) {i : Nat} (hi : i < D c) {m y : Nat} (hm : m < M (anc P i c)) (hy : nx (Q (anc P (i + 1) c)) m = some y) (ms : List Nat) (hl : ms.length = i) {z : Nat} (hz : nxs nx ms y = some z) : ¬ tg z := by
  intro ht
  have h' := h
  obtain ⟨⟨h1, h1b, h1c, h1d⟩, h2, h3, h4, h5, h6⟩ := h'
  obtain ⟨a1, a2⟩ := anc_D h hc i (by omega)
  have a0 := qI_D0 h a1 (by omega)
  obtain ⟨p1, p2, p3, p4⟩ := h4 _ a0 a1
  have hy : nx (Q (P (anc P i c))) m = some y := hy
  obtain ⟨b, b1, b2, b3⟩ := h6 (P (anc P i c)) m y (by omega) (by omega) hy
  have hlt : b < anc P i c := by
    by_cases e : b < anc P i c
    · exact e
    · exfalso
      by_cases e2 : b = anc P i c
      · rw [e2] at b3; omega
      · have := h5 (anc P i c) b a0 (by omega) b1
        omega
  obtain ⟨c', c1, c2⟩ := qI_less h hc i b ms z (by omega) hlt hl (by rw [b2]; exact hz)
  exact hf c' c1 (by rw [c2]; exact ht)
theorem qI_step (h : qI nx root N Q P M D n k mb) {c : Nat} (hc : c < n) {i : Nat} (hi : i < D c) : nx (Q (anc P (i + 1) c)) (M (anc P i c)) = some (Q (anc P i c)) := by
  obtain ⟨a1, a2⟩ := anc_D h hc i (by omega)
  have a0 := qI_D0 h a1 (by omega)
  exact (h.2.2.2.1 _ a0 a1).2.1
theorem qI_root (h : qI nx root N Q P M D n k mb) {c : Nat} (hc : c < n) : anc P (D c) c = 0 := by
  obtain ⟨a1, a2⟩ := anc_D h hc (D c) (Nat.le_refl _)
  by_cases e : anc P (D c) c = 0
  · exact e
  · have := (h.2.2.2.1 _ (by omega) a1).2.2.1
    omega
theorem qI_tail (h : qI nx root N Q P M D n k mb) {c : Nat} (hc : c < n) : ∀ i, i ≤ D c → ∃ ms : List Nat, ms.length = i ∧ nxs nx ms (Q (anc P i c)) = some (Q c)
  | 0, _ => ⟨[], rfl, rfl⟩
  | i + 1, hi => by
    obtain ⟨ms, m1, m2⟩ := qI_tail h hc i (by omega)
    refine ⟨M (anc P i c) :: ms, by simp [m1], ?_⟩
    show (nx (Q (anc P (i + 1) c)) (M (anc P i c))).bind (nxs nx ms) = _
    rw [qI_step h hc (by omega)]
    exact m2
end QI
