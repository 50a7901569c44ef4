/-! what the searches may still take over a whole script -/
def tri : Nat → Nat
  | 0 => 0
  | n + 1 => tri n + (n + 1)
theorem tri_le {a q : Nat} (h : a ≤ q) : tri a ≤ tri q := by
  induction q with
  | zero => rw [show a = 0 by omega]; exact Nat.le_refl _
  | succ q ih =>
    by_cases e : a = q + 1
    · rw [e]; exact Nat.le_refl _
    · have := ih (by omega)
      show tri a ≤ tri q + (q + 1)
      omega
theorem tri_lt {a q : Nat} (h : a < q) : tri a + q ≤ tri q := by
  obtain ⟨p, rfl⟩ : ∃ p, q = p + 1 := ⟨q - 1, by omega⟩
  have := tri_le (show a ≤ p by omega)
  show tri a + (p + 1) ≤ tri p + (p + 1)
  omega
def pLs (M nl : Nat) : Nat := (if nl < 38880 then 38880 else 0) + (if nl < 116640 then 116640 else 0) + (if nl < 583200 ∧ 36 < M then 583200 else 0)
def pLc (M nl : Nat) : Nat := (if nl < 38880 then 1 else 0) + (if nl < 116640 then 1 else 0) + (if nl < 583200 ∧ 36 < M then 1 else 0)
/-- cells, slots: a search whose tables hold na shapes and whose links nl states, of at most 9 * M shapes -/
def pSc (M na nl : Nat) : Nat := 2 * (M - na / 9) + pLc M nl
def pSs (M na nl : Nat) : Nat := 108 * (tri M - tri (na / 9)) + pLs M nl
theorem kA_pot {na M : Nat} {K : Int} (h9 : na % 9 = 0) (hna : na ≤ 9 * M) (hK : 9 ≤ K ∧ K % 9 = 0 ∧ K ≤ 9 * M) : ((if (na : Int) < K then K.toNat else na) % 9 = 0 ∧ (if (na : Int) < K then K.toNat else na) ≤ 9 * M) ∧ (kA na K).1 + 2 * (M - (if (na : Int) < K then K.toNat else na) / 9) ≤ 2 * (M - na / 9) ∧ (kA na K).2 + 108 * (tri M - tri ((if (na : Int) < K then K.toNat else na) / 9)) ≤ 108 * (tri M - tri (na / 9)) := by
  unfold kA
  by_cases e : (na : Int) < K
  · rw [if_pos e, if_pos e]
    obtain ⟨q, rfl⟩ : ∃ q : Nat, K = 9 * (q : Int) := ⟨(K / 9).toNat, by omega⟩
    obtain ⟨a, rfl⟩ : ∃ a : Nat, na = 9 * a := ⟨na / 9, by omega⟩
    have e1 : (9 * (q : Int)).toNat = 9 * q := by omega
    have e2 : 9 * q / 9 = q := by omega
    have e3 : 9 * a / 9 = a := by omega
    rw [e1, e2, e3]
    have t1 := tri_lt (show a < q by omega)
    have t2 := tri_le (show q ≤ M by omega)
    refine ⟨⟨by omega, by omega⟩, ?_, ?_⟩
    · show 2 + 2 * (M - q) ≤ 2 * (M - a)
      omega
    · show 9 * q * 12 + 108 * (tri M - tri q) ≤ 108 * (tri M - tri a)
      omega
  · rw [if_neg e, if_neg e]
    refine ⟨⟨h9, hna⟩, ?_, ?_⟩
    · show 0 + _ ≤ _
      omega
    · show 0 + _ ≤ _
      omega
theorem kL_pot {nl M : Nat} {st : Int} (hM : st ≤ 116640 ∨ st ≤ 583200 ∧ 36 < M) : (kL nl st).1 + pLc M (if nl < kRm st then kRm st else nl) ≤ pLc M nl ∧ (kL nl st).2 + pLs M (if nl < kRm st then kRm st else nl) ≤ pLs M nl := by
  have hR : kRm st = 38880 ∨ kRm st = 116640 ∨ kRm st = 583200 ∧ 36 < M := by
    unfold kRm
    split
    · exact Or.inl rfl
    · split
      · exact Or.inr (Or.inl rfl)
      · exact Or.inr (Or.inr ⟨rfl, by omega⟩)
  unfold kL
  generalize kRm st = R at hR
  by_cases e : nl < R
  · rw [if_pos e, if_pos e]
    show 1 + _ ≤ _ ∧ R + _ ≤ _
    unfold pLc pLs
    rcases hR with rfl | rfl | ⟨rfl, hm⟩
    · constructor <;> (repeat' split) <;> omega
    · constructor <;> (repeat' split) <;> omega
    · constructor <;> (repeat' split) <;> omega
  · rw [if_neg e, if_neg e]
    show 0 + _ ≤ _ ∧ 0 + _ ≤ _
    omega
theorem kC_pot {rdy : Int} {na nl M : Nat} {K : Int} (h9 : na % 9 = 0) (hna : na ≤ 9 * M) (hK : 9 ≤ K ∧ K % 9 = 0 ∧ K ≤ 9 * M) (hM : 360 * K ≤ 116640 ∨ 360 * K ≤ 583200 ∧ 36 < M) : (kNa rdy na K % 9 = 0 ∧ kNa rdy na K ≤ 9 * M) ∧ (kC rdy na nl K).1 + pSc M (kNa rdy na K) (kNl rdy nl K) ≤ pSc M na nl ∧ (kC rdy na nl K).2 + pSs M (kNa rdy na K) (kNl rdy nl K) ≤ pSs M na nl := by
  unfold kC kNa kNl
  by_cases e : rdy = 1
  · rw [if_pos e, if_pos e, if_pos e]
    refine ⟨⟨h9, hna⟩, ?_, ?_⟩
    · show 0 + _ ≤ _
      omega
    · show 0 + _ ≤ _
      omega
  · rw [if_neg e, if_neg e, if_neg e]
    obtain ⟨a1, a2, a3⟩ := kA_pot h9 hna hK
    obtain ⟨b1, b2⟩ := kL_pot (nl := nl) hM
    refine ⟨a1, ?_, ?_⟩
    · unfold pSc
      show (kA na K).1 + (kL nl (360 * K)).1 + _ ≤ _
      omega
    · unfold pSs
      show (kA na K).2 + (kL nl (360 * K)).2 + _ ≤ _
      omega
/-- the one that may all, the two that leave one joint as it is -/
theorem kC_m {ld dg : Nat → Int} {pa jo : Nat} {wa sr pu ri rdy : Int} (hB : vB ld dg pa jo wa sr pu ri) {na nl : Nat} (h9 : na % 9 = 0) (hna : na ≤ 9 * 180) : (kNa rdy na (kN pa jo wa sr (-1)) % 9 = 0 ∧ kNa rdy na (kN pa jo wa sr (-1)) ≤ 9 * 180) ∧ (kC rdy na nl (kN pa jo wa sr (-1))).1 + pSc 180 (kNa rdy na (kN pa jo wa sr (-1))) (kNl rdy nl (kN pa jo wa sr (-1))) ≤ pSc 180 na nl ∧ (kC rdy na nl (kN pa jo wa sr (-1))).2 + pSs 180 (kNa rdy na (kN pa jo wa sr (-1))) (kNl rdy nl (kN pa jo wa sr (-1))) ≤ pSs 180 na nl := by
  have h := kN_b (sj := -1) hB
  exact kC_pot h9 hna ⟨by omega, by omega, by omega⟩ (Or.inr ⟨by omega, by omega⟩)
theorem kC_s {ld dg : Nat → Int} {pa jo : Nat} {wa sr pu ri sj rdy : Int} (hB : vB ld dg pa jo wa sr pu ri) (hs : 0 ≤ sj ∧ sj < jo) {na nl : Nat} (h9 : na % 9 = 0) (hna : na ≤ 9 * 36) : (kNa rdy na (kN pa jo wa sr sj) % 9 = 0 ∧ kNa rdy na (kN pa jo wa sr sj) ≤ 9 * 36) ∧ (kC rdy na nl (kN pa jo wa sr sj)).1 + pSc 36 (kNa rdy na (kN pa jo wa sr sj)) (kNl rdy nl (kN pa jo wa sr sj)) ≤ pSc 36 na nl ∧ (kC rdy na nl (kN pa jo wa sr sj)).2 + pSs 36 (kNa rdy na (kN pa jo wa sr sj)) (kNl rdy nl (kN pa jo wa sr sj)) ≤ pSs 36 na nl := by
  have h := kN_b (sj := sj) hB
  have h4 := h.2.2.2 hs.1 hs.2
  exact kC_pot h9 hna ⟨by omega, by omega, by omega⟩ (Or.inl (by omega))
theorem pot_0 : pSc 180 0 0 + pSc 36 0 0 + pSc 36 0 0 ≤ 1000 ∧ pSs 180 0 0 + pSs 36 0 0 + pSs 36 0 0 ≤ 3000000 := by
  have e : tri 180 = 16290 := by decide +kernel
  have e2 : tri 36 = 666 := by decide +kernel
  unfold pSc pSs
  rw [e, e2]
  decide
