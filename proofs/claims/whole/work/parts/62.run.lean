/-! the class's rows of a way that is run, as a run of configurations -/
section FW
variable {ld dg : Nat → Int} {pa jo : Nat} {wa sr pu ri : Int}
theorem fw_t0 (h : vB ld dg pa jo wa sr pu ri) (po sp : Nat → Int) : cf_as pa (cf_rest pa) (xa_fl po 3 1) (xa_fl sp 2 0) := by
  refine ⟨xa_fl_lt _ _ (by decide), xa_fl_lt _ _ (by decide), fun h2 => ?_, xa_fl_lt _ _ (by decide), xa_fl_lt _ _ (by decide)⟩
  rw [xa_fl_lt _ _ (by decide)]
  show (1 : Int) = if 2 < pa then 1 else 0
  rw [if_pos h2]
theorem fw_bent (h : vB ld dg pa jo wa sr pu ri) {c : xCf} {po sp : Nat → Int} (ha : cf_as pa c po sp) {p : Nat} (hp : p < pa) : sp_bent dg sp jo (p : Int) = cf_bto dg c (p : Int) := by
  have h0 := h.1
  obtain ⟨a1, a2, a3, a4, a5⟩ := ha
  unfold sp_bent cf_bto
  have e0 : sp_dg dg 0 = dg 0 := by unfold sp_dg; rw [if_pos (by decide)]; rfl
  have e1 : sp_dg dg 1 = dg 1 := by unfold sp_dg; rw [if_pos (by decide)]; rfl
  rw [a4, a5, e0, e1]
  congr 1
  · by_cases q : 0 < (p : Int)
    · rw [if_pos q, if_pos ⟨by omega, q⟩]
    · rw [if_neg q, if_neg (fun z => q z.2)]
  · by_cases q : 1 < (p : Int)
    · rw [if_pos q, if_pos ⟨by omega, q⟩]
    · rw [if_neg q, if_neg (fun z => q z.2)]
theorem fw_run (h : vB ld dg pa jo wa sr pu ri) {ms : Nat → Int} (hms : ∀ i, 0 ≤ ms i ∧ ms i ≤ 18) {po sp : Nat → Int} {tj : Int} {lo : Nat → Int} : ∀ (n : Nat) (t : xSt) (u : Int), sp_tr ld dg pa jo wa sr ms (xa_fl po 3 1, xa_fl sp 2 0, tj, 0) n = some (t, u) → (∀ i, i ≤ n → ∃ (ti : xSt) (ui : Int), sp_tr ld dg pa jo wa sr ms (xa_fl po 3 1, xa_fl sp 2 0, tj, 0) i = some (ti, ui) ∧ lo i = sp_from ld ti.1 pa 0) → ∃ c, cf_ok pa jo wa sr c ∧ cf_as pa c t.1 t.2.1 ∧ lo n = cf_all ld pa c ∧ ∀ push, cr_run ld dg pa jo wa sr push ms n = some (c, u + sp_drs push lo n) := by
  intro n
  induction n with
  | zero =>
    intro t u ht hlo
    have ht2 : some ((xa_fl po 3 1, xa_fl sp 2 0, tj, (0 : Int)), (0 : Int)) = some (t, u) := ht
    cases ht2
    obtain ⟨ti, ui, e1, e2⟩ := hlo 0 (by omega)
    have e3 : some ((xa_fl po 3 1, xa_fl sp 2 0, tj, (0 : Int)), (0 : Int)) = some (ti, ui) := e1
    cases e3
    have hcr := cf_rest_ok h
    have has := fw_t0 h po sp
    exact ⟨cf_rest pa, hcr, has, e2.trans (cf_from h hcr has).1, fun push => rfl⟩
  | succ n ih =>
    intro t u ht hlo
    have ht2 : ((sp_tr ld dg pa jo wa sr ms (xa_fl po 3 1, xa_fl sp 2 0, tj, 0) n).bind fun q => (sp_make dg pa jo wa sr q.1 (ms n)).map fun t => (t, q.2 + sp_last ld t.1 pa t.2.2.1 t.2.2.2)) = some (t, u) := ht
    cases h1 : sp_tr ld dg pa jo wa sr ms (xa_fl po 3 1, xa_fl sp 2 0, tj, 0) n with
    | none => rw [h1] at ht2; cases ht2
    | some q =>
      obtain ⟨tn, un⟩ := q
      obtain ⟨c, hc, has, hln, hrun⟩ := ih tn un h1 (fun i hi => hlo i (by omega))
      rw [h1] at ht2
      cases h2 : sp_make dg pa jo wa sr tn (ms n) with
      | none =>
        have ht3 : (sp_make dg pa jo wa sr tn (ms n)).map (fun t => (t, un + sp_last ld t.1 pa t.2.2.1 t.2.2.2)) = some (t, u) := ht2
        rw [h2] at ht3
        cases ht3
      | some t1 =>
        have ht3 : (sp_make dg pa jo wa sr tn (ms n)).map (fun t => (t, un + sp_last ld t.1 pa t.2.2.1 t.2.2.2)) = some (t, u) := ht2
        rw [h2] at ht3
        cases ht3
        obtain ⟨c', hm, has', hla⟩ := (cf_make h hc (po := tn.1) (sp := tn.2.1) (tj := tn.2.2.1) (tb := tn.2.2.2) has (hms n)).1 t h2
        have hc' := cf_move_ok h hc hm
        obtain ⟨ti, ui, e1, e2⟩ := hlo (n + 1) (by omega)
        rw [ht] at e1
        cases e1
        have hall := e2.trans (cf_from h hc' has').1
        refine ⟨c', hc', has', hall, fun push => ?_⟩
        rw [cr_run_s (hrun push) hm, hla]
        show some (c', un + sp_drs push lo n + cf_turn ld dg pa push c' (ms n)) = some (c', un + -cf_bend ld dg pa c' (ms n) + (sp_drs push lo n + push.tdiv (lo (n + 1))))
        rw [hall]
        unfold cf_turn
        congr 2
        omega
/-- all that the rows of a way tell, behind m moves -/
def fwR (ld dg : Nat → Int) (pa jo : Nat) (wa sr : Int) (ms : Nat → Int) (len m : Nat) (c : xCf) (u : Int) (tu lo : Nat → Int) : Prop :=
  m ≤ len ∧ cf_ok pa jo wa sr c ∧ (∀ push, cr_done ld dg pa jo wa sr push ms len m c (u + sp_drs push lo m)) ∧ ∀ i, i ≤ m → ∃ (ci : xCf) (ui : Int), cf_ok pa jo wa sr ci ∧ lo i = cf_all ld pa ci ∧ (∀ push, cr_run ld dg pa jo wa sr push ms i = some (ci, ui + sp_drs push lo i)) ∧ ∀ p : Nat, p < pa → tu (i * 3 + p) = ui + cf_bto dg ci (p : Int)
theorem fw_all (h : vB ld dg pa jo wa sr pu ri) {ms : Nat → Int} (hms : ∀ i, 0 ≤ ms i ∧ ms i ≤ 18) {po sp : Nat → Int} {tj : Int} {tu lo : Nat → Int} {len m : Nat} {t : xSt} {u : Int} (hm : m ≤ len) (ht : sp_tr ld dg pa jo wa sr ms (xa_fl po 3 1, xa_fl sp 2 0, tj, 0) m = some (t, u)) (hno : m < len → sp_make dg pa jo wa sr t (ms m) = none) (harr : sp_arr (sp_tr ld dg pa jo wa sr ms (xa_fl po 3 1, xa_fl sp 2 0, tj, 0)) ld dg pa jo tu lo m) : ∃ c, cf_as pa c t.1 t.2.1 ∧ fwR ld dg pa jo wa sr ms len m c u tu lo := by
  have hlo : ∀ i, i ≤ m → ∃ (ti : xSt) (ui : Int), sp_tr ld dg pa jo wa sr ms (xa_fl po 3 1, xa_fl sp 2 0, tj, 0) i = some (ti, ui) ∧ lo i = sp_from ld ti.1 pa 0 := fun i hi => by
    obtain ⟨ti, ui, e1, e2, e3⟩ := harr i hi
    exact ⟨ti, ui, e1, e2⟩
  obtain ⟨c, hc, has, hln, hrun⟩ := fw_run h hms m t u ht hlo
  refine ⟨c, has, hm, hc, fun push => ⟨hm, hrun push, fun q => ?_⟩, fun i hi => ?_⟩
  · exact (cf_make h hc (po := t.1) (sp := t.2.1) (tj := t.2.2.1) (tb := t.2.2.2) has (hms m)).2 (hno q)
  · obtain ⟨ti, ui, e1, e2, e3⟩ := harr i hi
    obtain ⟨ci, hci, hasi, hlni, hruni⟩ := fw_run h hms i ti ui e1 (fun j hj => hlo j (by omega))
    exact ⟨ci, ui, hci, hlni, hruni, fun p hp => by rw [e3 p hp, fw_bent h hasi hp]⟩
theorem fwR.ext {ms ms' : Nat → Int} {len m : Nat} {c : xCf} {u : Int} {tu lo : Nat → Int} (h : fwR ld dg pa jo wa sr ms len m c u tu lo) (he : ∀ i, i < len → ms i = ms' i) : fwR ld dg pa jo wa sr ms' len m c u tu lo := by
  obtain ⟨h1, h2, h3, h4⟩ := h
  refine ⟨h1, h2, fun push => ?_, fun i hi => ?_⟩
  · obtain ⟨g1, g2, g3⟩ := h3 push
    exact ⟨g1, by rw [← cr_ext m (fun i hi => he i (by omega))]; exact g2, fun q => by rw [← he m q]; exact g3 q⟩
  · obtain ⟨ci, ui, g1, g2, g3, g4⟩ := h4 i hi
    exact ⟨ci, ui, g1, g2, fun push => by rw [← cr_ext i (fun j hj => he j (by omega))]; exact g3 push, g4⟩
/-- the drifts: sums of what is cut -/
theorem drs_b {lo : Nat → Int} {push : Int} (hp : -9999 ≤ push ∧ push ≤ 9999) : ∀ n : Nat, (∀ i, 1 ≤ i → i ≤ n → 1 ≤ lo i) → -(10000 * (n : Int)) ≤ sp_drs push lo n ∧ sp_drs push lo n ≤ 10000 * (n : Int)
  | 0, _ => by show -(10000 * (0 : Int)) ≤ 0 ∧ (0 : Int) ≤ 10000 * 0; omega
  | n + 1, h => by
    have ih := drs_b hp n (fun i h1 h2 => h i h1 (by omega))
    have t := tdiv_b hp (h (n + 1) (by omega) (by omega))
    show -(10000 * ((n + 1 : Nat) : Int)) ≤ sp_drs push lo n + push.tdiv (lo (n + 1)) ∧ sp_drs push lo n + push.tdiv (lo (n + 1)) ≤ 10000 * ((n + 1 : Nat) : Int)
    omega
theorem cr_b {ms : Nat → Int} {push : Int} (hB : vB ld dg pa jo wa sr pu ri) (hp : -9999 ≤ push ∧ push ≤ 9999) : ∀ (n : Nat) (c : xCf) (u : Int), cr_run ld dg pa jo wa sr push ms n = some (c, u) → -(34000 * (n : Int)) ≤ u ∧ u ≤ 34000 * (n : Int)
  | 0, c, u, h => by
    have h2 : some (cf_rest pa, (0 : Int)) = some (c, u) := h
    cases h2
    omega
  | n + 1, c, u, h => by
    have h2 : ((cr_run ld dg pa jo wa sr push ms n).bind fun q => (cf_move pa jo wa sr q.1 (ms n)).map fun c => (c, q.2 + cf_turn ld dg pa push c (ms n))) = some (c, u) := h
    cases h1 : cr_run ld dg pa jo wa sr push ms n with
    | none => rw [h1] at h2; cases h2
    | some q =>
      have ih := cr_b hB hp n q.1 q.2 h1
      rw [h1] at h2
      have h3 : (cf_move pa jo wa sr q.1 (ms n)).map (fun c => (c, q.2 + cf_turn ld dg pa push c (ms n))) = some (c, u) := h2
      cases hm : cf_move pa jo wa sr q.1 (ms n) with
      | none => rw [hm] at h3; cases h3
      | some c' =>
        rw [hm] at h3
        cases h3
        have ho := cr_ok hB n (c := q.1) (u := q.2) h1
        have hb := cf_turn_b hB (cf_move_ok hB ho hm) hp (ms n)
        omega
theorem fwR.lo_b {ms : Nat → Int} {len m : Nat} {c : xCf} {u : Int} {tu lo : Nat → Int} (h : fwR ld dg pa jo wa sr ms len m c u tu lo) (hB : vB ld dg pa jo wa sr pu ri) {i : Nat} (hi : i ≤ m) : 2 ≤ lo i ∧ lo i ≤ 297 := by
  obtain ⟨ci, ui, g1, g2, g3, g4⟩ := h.2.2.2 i hi
  rw [g2]
  exact cf_all_b hB g1
theorem fwR.tu_b {ms : Nat → Int} {len m : Nat} {c : xCf} {u : Int} {tu lo : Nat → Int} (h : fwR ld dg pa jo wa sr ms len m c u tu lo) (hB : vB ld dg pa jo wa sr pu ri) {i p : Nat} (hi : i ≤ m) (hp : p < pa) : -(34000 * (i : Int)) - 480 ≤ tu (i * 3 + p) ∧ tu (i * 3 + p) ≤ 34000 * (i : Int) + 2880 := by
  obtain ⟨ci, ui, g1, g2, g3, g4⟩ := h.2.2.2 i hi
  have g5 := g3 0
  have g6 := cr_b hB (push := 0) (by omega) i ci _ g5
  have e0 : ∀ n, sp_drs 0 lo n = 0 := fun n => by
    induction n with
    | zero => rfl
    | succ n ih => show sp_drs 0 lo n + (0 : Int).tdiv (lo (n + 1)) = 0; rw [ih, Int.zero_tdiv]; rfl
  rw [e0] at g6
  rw [g4 p hp]
  have := cf_bto_b hB g1 (p : Int)
  omega
end FW
