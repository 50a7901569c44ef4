/-! The class's world -/
def shOk (pa : Nat) (mv le fi : Nat → Int) (pc : Nat) : Prop := (∀ i, 0 ≤ mv i ∧ mv i ≤ 18) ∧ (∀ i, 0 ≤ le i ∧ le i ≤ 60) ∧ fiOk pa fi pc
def bOk (mv le : Nat → Int) : Prop := (∀ i, 0 ≤ mv i ∧ mv i ≤ 18) ∧ (∀ i, 0 ≤ le i ∧ le i ≤ 60)
def xCd (h : xa_H) (k : Nat) : Prop := ∃ (ld2 dg2 : Nat → Int) (pa2 jo2 : Nat) (wa2 sr2 pu2 ri2 : Int) (nu : Nat → Int) (p : Nat), xB h (k + 6) ld2 dg2 pa2 jo2 wa2 sr2 pu2 ri2 ∧ (∀ i, 0 ≤ ld2 i ∧ ld2 i ≤ 99) ∧ (∀ i, 0 ≤ dg2 i ∧ dg2 i ≤ 120) ∧ xRd h (k + 9) (k + 1) (k + 6) nu p ∧ ∀ i, -9999 ≤ nu i ∧ nu i ≤ 9999
def xCk (h : xa_H) (k kp pa : Nat) (mv1 le1 fi1 : Nat → Int) (pc1 : Nat) (mv2 le2 fi2 : Nat → Int) (pc2 : Nat) : Prop := ∃ kf : Nat → Option Nat, kf 0 = some (k + 16) ∧ kf 1 = some (k + 20) ∧ h.1 (k + 15) = xa_q 2 kf ∧ kp ≤ 2 ∧ xH h (k + 16) mv1 le1 fi1 pc1 ∧ xH h (k + 20) mv2 le2 fi2 pc2 ∧ bOk mv1 le1 ∧ bOk mv2 le2 ∧ (1 ≤ kp → fiOk pa fi1 pc1) ∧ (2 ≤ kp → fiOk pa fi2 pc2)
/-- a place of a search -/
def p9 (k x : Nat) : Prop := (k + 36 ≤ x ∧ x < k + 72) ∨ k + 89 ≤ x
def xCs (h : xa_H) (k : Nat) (ld dg : Nat → Int) (pa jo : Nat) (wa sr pu ri : Int) (bc bs : Nat) : Prop := ∃ (l1 r1 m1 nl1 na1 : Nat) (rd1 : Int) (l2 r2 m2 nl2 na2 : Nat) (rd2 : Int) (l3 r3 m3 nl3 na3 : Nat) (rd3 : Int), xSA h (k + 36) (k + 3) l1 r1 m1 nl1 na1 (-1) rd1 ld dg pa jo wa sr pu ri ∧ xSA h (k + 48) (k + 3) l2 r2 m2 nl2 na2 0 rd2 ld dg pa jo wa sr pu ri ∧ xSA h (k + 60) (k + 3) l3 r3 m3 nl3 na3 1 rd3 ld dg pa jo wa sr pu ri ∧ SP (k + 36) l1 r1 m1 (k + 48) l2 r2 m2 ∧ SP (k + 36) l1 r1 m1 (k + 60) l3 r3 m3 ∧ SP (k + 48) l2 r2 m2 (k + 60) l3 r3 m3 ∧ (p9 k l1 ∧ p9 k r1 ∧ p9 k m1) ∧ (p9 k l2 ∧ p9 k r2 ∧ p9 k m2) ∧ (p9 k l3 ∧ p9 k r3 ∧ p9 k m3) ∧ (na1 % 9 = 0 ∧ na1 ≤ 9 * 180) ∧ (na2 % 9 = 0 ∧ na2 ≤ 9 * 36) ∧ (na3 % 9 = 0 ∧ na3 ≤ 9 * 36) ∧ pSc 180 na1 nl1 + pSc 36 na2 nl2 + pSc 36 na3 nl3 ≤ bc ∧ pSs 180 na1 nl1 + pSs 36 na2 nl2 + pSs 36 na3 nl3 ≤ bs
def xCW (h : xa_H) (k : Nat) (n : Nat) (f ld dg : Nat → Int) (pa jo : Nat) (wa sr pu ri : Int) (mv le fi : Nat → Int) (pc kp : Nat) (mv1 le1 fi1 : Nat → Int) (pc1 : Nat) (mv2 le2 fi2 : Nat → Int) (pc2 : Nat) (bc bs : Nat) : Prop := xX0 h k ((kp : Nat) : Int) ∧ xT h (k + 1) n f ∧ xB h (k + 3) ld dg pa jo wa sr pu ri ∧ xH h (k + 11) mv le fi pc ∧ h.1 1 = xa_a 8 xa_wagf ∧ vB ld dg pa jo wa sr pu ri ∧ shOk pa mv le fi pc ∧ xTS h k ∧ (∃ ln, h.1 (k + 31) = xa_a 4 ln) ∧ xLS h k ∧ xCd h k ∧ xCk h k kp pa mv1 le1 fi1 pc1 mv2 le2 fi2 pc2 ∧ xCs h k ld dg pa jo wa sr pu ri bc bs
section CW
variable {h h1 : xa_H} {k : Nat} {n : Nat} {f ld dg : Nat → Int} {pa jo : Nat} {wa sr pu ri : Int} {mv le fi : Nat → Int} {pc kp : Nat} {mv1 le1 fi1 : Nat → Int} {pc1 : Nat} {mv2 le2 fi2 : Nat → Int} {pc2 : Nat} {bc bs : Nat}
theorem xX0.fr {kpi : Int} (h0 : xX0 h k kpi) (hf : h1.1 k = h.1 k) (hn : h.2 ≤ h1.2) : xX0 h1 k kpi := ⟨hf.trans h0.1, h0.2.1, by have := h0.2.2; omega⟩
theorem xT.fr (h0 : xT h k n f) (hf : ∀ i, k ≤ i → i < k + 2 → h1.1 i = h.1 i) (hn : h.2 ≤ h1.2) : xT h1 k n f := by
  obtain ⟨a1, a2, a3, a4, a5⟩ := h0
  exact ⟨(hf _ (by omega) (by omega)).trans a1, (hf _ (by omega) (by omega)).trans a2, a3, by omega, a5⟩
theorem xB.fr (h0 : xB h k ld dg pa jo wa sr pu ri) (hf : ∀ i, k ≤ i → i < k + 3 → h1.1 i = h.1 i) (hn : h.2 ≤ h1.2) : xB h1 k ld dg pa jo wa sr pu ri := by
  obtain ⟨a1, a2, a3, a4, a5⟩ := h0
  exact ⟨(hf _ (by omega) (by omega)).trans a1, (hf _ (by omega) (by omega)).trans a2, (hf _ (by omega) (by omega)).trans a3, a4, by omega⟩
theorem xH.fr (h0 : xH h k mv le fi pc) (hf : ∀ i, k ≤ i → i < k + 4 → h1.1 i = h.1 i) (hn : h.2 ≤ h1.2) : xH h1 k mv le fi pc := by
  obtain ⟨a1, a2, a3, a4, a5, a6⟩ := h0
  exact ⟨(hf _ (by omega) (by omega)).trans a1, (hf _ (by omega) (by omega)).trans a2, (hf _ (by omega) (by omega)).trans a3, (hf _ (by omega) (by omega)).trans a4, a5, by omega⟩
theorem xS.fr {kb : Nat} {po sp : Nat → Int} {tj tb : Int} (h0 : xS h k kb po sp tj tb) (hf : ∀ i, k ≤ i → i < k + 3 → h1.1 i = h.1 i) (hn : h.2 ≤ h1.2) : xS h1 k kb po sp tj tb := by
  obtain ⟨a1, a2, a3, a4, a5⟩ := h0
  exact ⟨(hf _ (by omega) (by omega)).trans a1, (hf _ (by omega) (by omega)).trans a2, (hf _ (by omega) (by omega)).trans a3, a4, by omega⟩
theorem xRd.fr {kt kb p : Nat} {nu : Nat → Int} (h0 : xRd h k kt kb nu p) (hf : ∀ i, k ≤ i → i < k + 2 → h1.1 i = h.1 i) (hn : h.2 ≤ h1.2) : xRd h1 k kt kb nu p := by
  obtain ⟨a1, a2, a3, a4⟩ := h0
  exact ⟨(hf _ (by omega) (by omega)).trans a1, (hf _ (by omega) (by omega)).trans a2, a3, by omega⟩
theorem xTS.fr (h0 : xTS h k) (hf : ∀ i, k + 24 ≤ i → i < k + 31 → h1.1 i = h.1 i) (hn : h.2 ≤ h1.2) : xTS h1 k := by
  obtain ⟨tu, lo, dr, dn, al, po, sp, tj, tb, ⟨a1, a2, a3, a4, a5, a6⟩, hS, hr⟩ := h0
  exact ⟨tu, lo, dr, dn, al, po, sp, tj, tb, ⟨(hf _ (by omega) (by omega)).trans a1, (hf _ (by omega) (by omega)).trans a2, (hf _ (by omega) (by omega)).trans a3, (hf _ (by omega) (by omega)).trans a4, a5, by omega⟩, hS.fr (fun i hi hj => hf i (by omega) (by omega)) hn, hr⟩
theorem xLS.fr (h0 : xLS h k) (hf : ∀ i, k + 32 ≤ i → i < k + 36 → h1.1 i = h.1 i) (hn : h.2 ≤ h1.2) : xLS h1 k := by
  obtain ⟨a1, po, sp, tj, tb, hS, hr⟩ := h0
  exact ⟨(hf _ (by omega) (by omega)).trans a1, po, sp, tj, tb, hS.fr (fun i hi hj => hf i (by omega) (by omega)) hn, hr⟩
theorem xCd.fr (h0 : xCd h k) (hf : ∀ i, k + 6 ≤ i → i < k + 11 → h1.1 i = h.1 i) (hn : h.2 ≤ h1.2) : xCd h1 k := by
  obtain ⟨ld2, dg2, pa2, jo2, wa2, sr2, pu2, ri2, nu, p, a1, a2, a3, a4, a5⟩ := h0
  exact ⟨ld2, dg2, pa2, jo2, wa2, sr2, pu2, ri2, nu, p, a1.fr (fun i hi hj => hf i (by omega) (by omega)) hn, a2, a3, a4.fr (fun i hi hj => hf i (by omega) (by omega)) hn, a5⟩
theorem xCk.fr (h0 : xCk h k kp pa mv1 le1 fi1 pc1 mv2 le2 fi2 pc2) (hf : ∀ i, k + 15 ≤ i → i < k + 24 → h1.1 i = h.1 i) (hn : h.2 ≤ h1.2) : xCk h1 k kp pa mv1 le1 fi1 pc1 mv2 le2 fi2 pc2 := by
  obtain ⟨kf, a1, a2, a3, a4, a5, a6, a7⟩ := h0
  exact ⟨kf, a1, a2, (hf _ (by omega) (by omega)).trans a3, a4, a5.fr (fun i hi hj => hf i (by omega) (by omega)) hn, a6.fr (fun i hi hj => hf i (by omega) (by omega)) hn, a7⟩
theorem own.at {a l r m i : Nat} (hi : own a l r m i) (ha : k + 36 ≤ a ∧ a ≤ k + 60) (h1 : p9 k l) (h2 : p9 k r) (h3 : p9 k m) : k + 36 ≤ i ∧ (i < k + 72 ∨ k + 89 ≤ i) := by
  rcases hi with hi | rfl | rfl | rfl
  · omega
  · unfold p9 at h1; omega
  · unfold p9 at h2; omega
  · unfold p9 at h3; omega
theorem xCs.fr (h0 : xCs h k ld dg pa jo wa sr pu ri bc bs) (hf : ∀ i, k + 36 ≤ i → (i < k + 72 ∨ k + 89 ≤ i) → h1.1 i = h.1 i) (hn : h.2 ≤ h1.2) : xCs h1 k ld dg pa jo wa sr pu ri bc bs := by
  obtain ⟨l1, r1, m1, nl1, na1, rd1, l2, r2, m2, nl2, na2, rd2, l3, r3, m3, nl3, na3, rd3, a1, a2, a3, s1, s2, s3, ⟨p1, p2, p3⟩, ⟨q1, q2, q3⟩, ⟨t1, t2, t3⟩, hr⟩ := h0
  exact ⟨l1, r1, m1, nl1, na1, rd1, l2, r2, m2, nl2, na2, rd2, l3, r3, m3, nl3, na3, rd3, a1.fr (fun i hi => by have z := hi.at (k := k) (by omega) p1 p2 p3; exact hf i z.1 z.2) hn, a2.fr (fun i hi => by have z := hi.at (k := k) (by omega) q1 q2 q3; exact hf i z.1 z.2) hn, a3.fr (fun i hi => by have z := hi.at (k := k) (by omega) t1 t2 t3; exact hf i z.1 z.2) hn, s1, s2, s3, ⟨p1, p2, p3⟩, ⟨q1, q2, q3⟩, ⟨t1, t2, t3⟩, hr⟩
/-- whatever else is done elsewhere: the model's calls -/
theorem xCW.fr (h0 : xCW h k n f ld dg pa jo wa sr pu ri mv le fi pc kp mv1 le1 fi1 pc1 mv2 le2 fi2 pc2 bc bs) (hf : ∀ i, (i < k + 72 ∨ k + 89 ≤ i) → h1.1 i = h.1 i) (hn : h.2 ≤ h1.2) : xCW h1 k n f ld dg pa jo wa sr pu ri mv le fi pc kp mv1 le1 fi1 pc1 mv2 le2 fi2 pc2 bc bs := by
  obtain ⟨hX, hT, hB, hH, hW, hB9, hok, hTS, hLn, hLS, hCd, hCk, hCs⟩ := h0
  obtain ⟨ln, hln⟩ := hLn
  have hk := hX.2.1
  exact ⟨hX.fr (hf _ (by omega)) hn, hT.fr (fun i _ _ => hf i (by omega)) hn, hB.fr (fun i _ _ => hf i (by omega)) hn, hH.fr (fun i _ _ => hf i (by omega)) hn, (hf _ (by omega)).trans hW, hB9, hok, hTS.fr (fun i _ _ => hf i (by omega)) hn, ⟨ln, (hf _ (by omega)).trans hln⟩, hLS.fr (fun i _ _ => hf i (by omega)) hn, hCd.fr (fun i _ _ => hf i (by omega)) hn, hCk.fr (fun i _ _ => hf i (by omega)) hn, hCs.fr (fun i _ z => hf i z) hn⟩
/-- the trace, the landings, the loops are another's -/
theorem xCW.mid (h0 : xCW h k n f ld dg pa jo wa sr pu ri mv le fi pc kp mv1 le1 fi1 pc1 mv2 le2 fi2 pc2 bc bs) (hf : ∀ i, (i < k + 24 ∨ k + 36 ≤ i) → h1.1 i = h.1 i) (hn : h1.2 = h.2) (hTS1 : xTS h1 k) (hLn1 : ∃ ln, h1.1 (k + 31) = xa_a 4 ln) (hLS1 : xLS h1 k) : xCW h1 k n f ld dg pa jo wa sr pu ri mv le fi pc kp mv1 le1 fi1 pc1 mv2 le2 fi2 pc2 bc bs := by
  obtain ⟨hX, hT, hB, hH, hW, hB9, hok, hTS, hLn, hLS, hCd, hCk, hCs⟩ := h0
  have hk := hX.2.1
  have hn := Nat.le_of_eq hn.symm
  exact ⟨hX.fr (hf _ (by omega)) hn, hT.fr (fun i _ _ => hf i (by omega)) hn, hB.fr (fun i _ _ => hf i (by omega)) hn, hH.fr (fun i _ _ => hf i (by omega)) hn, (hf _ (by omega)).trans hW, hB9, hok, hTS1, hLn1, hLS1, hCd.fr (fun i _ _ => hf i (by omega)) hn, hCk.fr (fun i _ _ => hf i (by omega)) hn, hCs.fr (fun i _ z => hf i (by omega)) hn⟩
theorem xCW.text {n' : Nat} {f' : Nat → Int} (h0 : xCW h k n f ld dg pa jo wa sr pu ri mv le fi pc kp mv1 le1 fi1 pc1 mv2 le2 fi2 pc2 bc bs) (hf : ∀ i, (i < k + 1 ∨ k + 3 ≤ i) → h1.1 i = h.1 i) (hn : h1.2 = h.2) (hT1 : xT h1 (k + 1) n' f') : xCW h1 k n' f' ld dg pa jo wa sr pu ri mv le fi pc kp mv1 le1 fi1 pc1 mv2 le2 fi2 pc2 bc bs := by
  obtain ⟨hX, hT, hB, hH, hW, hB9, hok, hTS, hLn, hLS, hCd, hCk, hCs⟩ := h0
  obtain ⟨ln, hln⟩ := hLn
  have hk := hX.2.1
  have hn := Nat.le_of_eq hn.symm
  exact ⟨hX.fr (hf _ (by omega)) hn, hT1, hB.fr (fun i _ _ => hf i (by omega)) hn, hH.fr (fun i _ _ => hf i (by omega)) hn, (hf _ (by omega)).trans hW, hB9, hok, hTS.fr (fun i _ _ => hf i (by omega)) hn, ⟨ln, (hf _ (by omega)).trans hln⟩, hLS.fr (fun i _ _ => hf i (by omega)) hn, hCd.fr (fun i _ _ => hf i (by omega)) hn, hCk.fr (fun i _ _ => hf i (by omega)) hn, hCs.fr (fun i _ z => hf i (by omega)) hn⟩
theorem xCW.sheet {mv' le' fi' : Nat → Int} {pc' : Nat} (h0 : xCW h k n f ld dg pa jo wa sr pu ri mv le fi pc kp mv1 le1 fi1 pc1 mv2 le2 fi2 pc2 bc bs) (hf : ∀ i, (i < k + 11 ∨ k + 15 ≤ i) → h1.1 i = h.1 i) (hn : h1.2 = h.2) (hH1 : xH h1 (k + 11) mv' le' fi' pc') (hok1 : shOk pa mv' le' fi' pc') : xCW h1 k n f ld dg pa jo wa sr pu ri mv' le' fi' pc' kp mv1 le1 fi1 pc1 mv2 le2 fi2 pc2 bc bs := by
  obtain ⟨hX, hT, hB, hH, hW, hB9, hok, hTS, hLn, hLS, hCd, hCk, hCs⟩ := h0
  obtain ⟨ln, hln⟩ := hLn
  have hk := hX.2.1
  have hn := Nat.le_of_eq hn.symm
  exact ⟨hX.fr (hf _ (by omega)) hn, hT.fr (fun i _ _ => hf i (by omega)) hn, hB.fr (fun i _ _ => hf i (by omega)) hn, hH1, (hf _ (by omega)).trans hW, hB9, hok1, hTS.fr (fun i _ _ => hf i (by omega)) hn, ⟨ln, (hf _ (by omega)).trans hln⟩, hLS.fr (fun i _ _ => hf i (by omega)) hn, hCd.fr (fun i _ _ => hf i (by omega)) hn, hCk.fr (fun i _ _ => hf i (by omega)) hn, hCs.fr (fun i _ z => hf i (by omega)) hn⟩
theorem xCW.draft (h0 : xCW h k n f ld dg pa jo wa sr pu ri mv le fi pc kp mv1 le1 fi1 pc1 mv2 le2 fi2 pc2 bc bs) (hf : ∀ i, (i < k + 6 ∨ k + 11 ≤ i) → h1.1 i = h.1 i) (hn : h1.2 = h.2) (hCd1 : xCd h1 k) : xCW h1 k n f ld dg pa jo wa sr pu ri mv le fi pc kp mv1 le1 fi1 pc1 mv2 le2 fi2 pc2 bc bs := by
  obtain ⟨hX, hT, hB, hH, hW, hB9, hok, hTS, hLn, hLS, hCd, hCk, hCs⟩ := h0
  obtain ⟨ln, hln⟩ := hLn
  have hk := hX.2.1
  have hn := Nat.le_of_eq hn.symm
  exact ⟨hX.fr (hf _ (by omega)) hn, hT.fr (fun i _ _ => hf i (by omega)) hn, hB.fr (fun i _ _ => hf i (by omega)) hn, hH.fr (fun i _ _ => hf i (by omega)) hn, (hf _ (by omega)).trans hW, hB9, hok, hTS.fr (fun i _ _ => hf i (by omega)) hn, ⟨ln, (hf _ (by omega)).trans hln⟩, hLS.fr (fun i _ _ => hf i (by omega)) hn, hCd1, hCk.fr (fun i _ _ => hf i (by omega)) hn, hCs.fr (fun i _ z => hf i (by omega)) hn⟩
end CW
