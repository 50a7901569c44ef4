/-! rules: the heap -/
def xa_up (h : xa_H) (k : Nat) (c : xa_C) : xa_H := (fun j => if j = k then c else h.1 j, h.2)
def xa_push (h : xa_H) (c : xa_C) : xa_H := (fun j => if j = h.2 then c else h.1 j, h.2 + 1)
theorem xa_up_at (h : xa_H) (k : Nat) (c : xa_C) : (xa_up h k c).1 k = c := if_pos rfl
theorem xa_up_ne (h : xa_H) {k j : Nat} (c : xa_C) (hj : j ≠ k) : (xa_up h k c).1 j = h.1 j := if_neg hj
theorem xa_up_n (h : xa_H) (k : Nat) (c : xa_C) : (xa_up h k c).2 = h.2 := rfl
theorem xa_push_at (h : xa_H) (c : xa_C) : (xa_push h c).1 h.2 = c := if_pos rfl
theorem xa_push_ne (h : xa_H) {j : Nat} (c : xa_C) (hj : j ≠ h.2) : (xa_push h c).1 j = h.1 j := if_neg hj
theorem xa_push_n (h : xa_H) (c : xa_C) : (xa_push h c).2 = h.2 + 1 := rfl
theorem xa_ad2 (G : xa_G) {k : Nat} (hk : 2 ≤ k) : xa_ad G k = xa_base G + (k - 2) := by
  unfold xa_ad
  rw [if_neg (by omega), if_neg (by omega)]
theorem xa_R.put {G : xa_G} {h : xa_H} {H H1 : Heap} {k : Nat} {c : xa_C} (hR : xa_R G h H) (hk : 2 ≤ k) (hk2 : k < h.2) (hz : H1.size = H.size) (ho : ∀ q : Nat, q ≠ xa_ad G k → H1[q]? = H[q]?) (hc : xa_at G c (xa_ad G k) H1) : xa_R G (xa_up h k c) H1 := by
  obtain ⟨h1, h2, h3, ⟨h4, h5⟩, h6⟩ := hR
  rw [xa_ad2 G hk] at ho hc
  refine ⟨h1, by rw [hz]; exact h2, fun q hq => ?_, ⟨?_, ?_⟩, fun j hj hj2 => ?_⟩
  · rw [ho q (by omega)]; exact h3 q hq
  · rw [xa_up_ne _ _ (by omega)]; exact h4
  · rw [xa_up_ne _ _ (by omega)]; exact h5
  · by_cases e : j = k
    · subst e; rw [xa_up_at]; exact hc
    · rw [xa_up_ne _ _ e]
      exact (h6 j hj hj2).kept (ho _ (by omega))
theorem xa_R.push {G : xa_G} {h : xa_H} {H H1 : Heap} {c : xa_C} (hR : xa_R G h H) (hz : H1.size = H.size + 1) (ho : ∀ q : Nat, q < H.size → H1[q]? = H[q]?) (hc : xa_at G c H.size H1) : xa_R G (xa_push h c) H1 ∧ xa_ad G h.2 = H.size := by
  obtain ⟨h1, h2, h3, ⟨h4, h5⟩, h6⟩ := hR
  have e0 : H.size = xa_base G + (h.2 - 2) := by omega
  refine ⟨⟨by rw [xa_push_n]; omega, by rw [hz, xa_push_n]; omega, fun q hq => ?_, ⟨?_, ?_⟩, fun j hj hj2 => ?_⟩, by rw [xa_ad2 G h1]; exact e0.symm⟩
  · rw [ho q (by omega)]; exact h3 q hq
  · rw [xa_push_ne _ _ (by omega)]; exact h4
  · rw [xa_push_ne _ _ (by omega)]; exact h5
  · rw [xa_push_n] at hj2
    by_cases e : j = h.2
    · subst e; rw [xa_push_at, ← e0]; exact hc
    · rw [xa_push_ne _ _ e]
      exact (h6 j hj (by omega)).kept (ho _ (by omega))
theorem xa_R.at {G : xa_G} {h : xa_H} {H : Heap} (hR : xa_R G h H) {k : Nat} (hk : 2 ≤ k) (hk2 : k < h.2) {c : xa_C} (hc : h.1 k = c) : xa_at G c (xa_ad G k) H := by
  subst hc
  rw [xa_ad2 G hk]
  exact hR.2.2.2.2 k hk hk2
/-- what a field's instruction needs of the tables: own class, its entry; the class's number, the field's -/
def xa_Fl (own : String) (index ci j : Nat) : Prop := ∃ (C : String) (T : u_T) (N : Nat), vwCl[ci]? = some (C, T, N) ∧ j < N ∧ (∀ w ∈ u_ws C T N, w ∈ xa_gw) ∧ (T j).1 = C ∧
  (Cond.fieldLink own index C (T j).2.1 (T j).2.2.1 ∈ xa_gw ∨ ∃ host, (own, index, C, (T j).2.1, (T j).2.2.1, host) ∈ xa_nF)
/-- what a store needs further -/
def xa_Pl (ci j : Nat) (fin : Bool) (ty : FieldType) : Prop := ∃ (C : String) (T : u_T) (N : Nat) (ty0 : Nat → FieldType), vwCl[ci]? = some (C, T, N) ∧ (∀ k, k < N → parseFieldDescriptor (T k).2.2.1 = some (ty0 k)) ∧ (∀ a, a < N → ∀ b, b < N → a ≠ b → (T a).2.1 ≠ (T b).2.1) ∧ (T j).2.2.2 = fin ∧ parseFieldDescriptor (T j).2.2.1 = some ty
/-- a value that a field or a return of a type takes -/
def xa_tv (ty : FieldType) (v : xa_V) : Prop := match ty, v with
  | .int, .inl _ => True
  | .boolean, .inl x => x = 0 ∨ x = 1
  | .object _, .inr (.inr _) => True
  | .array _, .inr (.inr _) => True
  | _, _ => False
theorem xa_tv.ok {G : xa_G} {ty : FieldType} {v : xa_V} (h : xa_tv ty v) : narrow ty (xa_val G v) = xa_val G v ∧ fits ty (xa_val G v) = true := by
  rcases v with x | x | x
  · cases ty <;> simp only [xa_tv] at h
    · exact ⟨rfl, rfl⟩
    · rcases h with rfl | rfl <;> exact ⟨rfl, rfl⟩
  · cases ty <;> simp only [xa_tv] at h
  · cases ty <;> simp only [xa_tv] at h <;> cases x <;> exact ⟨rfl, rfl⟩
section XH
variable {G : xa_G} {Y : xa_Y} {Z : xa_Zt} {pc : Nat} {ls : xa_Ls} {st : List xa_V} {h : xa_H} {mc ms : Nat}
theorem xa_fsV {G : xa_G} {fs : List xa_V} {j : Nat} {v : xa_V} (hv : fs[j]? = some v) : vp_V (fs.map (xa_val G)) j = xa_val G v := by
  simp [vp_V, hv]
theorem xa_getfield {k ci j index : Nat} {fs : List xa_V} {v : xa_V} (hd : decode (xa_yc Y) pc = .ok (.getfield index, 3)) (hF : xa_Fl (xa_yn Y).cls index ci j) (hk : 2 ≤ k) (hk2 : k < h.2) (hc : h.1 k = xa_o ci fs) (hv : fs[j]? = some v) (K : xa_W G Y Z (pc + 3) ls (v :: st) h mc ms) : xa_W G Y Z pc ls (xa_r k :: st) h mc ms := by
  intro p l e s m args below meth c hB R H locs lsC cells slots r1 r2 r3 r4 hH hL hl
  have kk := K p l e s m args below meth c hB R H locs lsC cells slots r1 r2 r3 r4 hH hL hl
  obtain ⟨hx, hb, hr, hml, hown, hts, hlocks, hin, hKK⟩ := hB
  obtain ⟨C, T, N, f1, f2, f3, f4, f5⟩ := hF
  obtain ⟨r, g1, g2, cell, q1, q2, q3, q4⟩ := hH.at hk hk2 hc
  cases f1.symm.trans g1
  obtain ⟨hS, hfc, kC, hkC, hkind⟩ := hKK.1.1 ci _ f1
  obtain ⟨cf, kf, fi, f, hi, hsl⟩ := hS j f2
  have hst := (u_facts hfc hkC (u_lays hts f3 f2) hi).1
  have hi' := hi
  rw [f4] at hi'
  have hslot : cell.slots[f.slot]? = some (xa_val G v) := by rw [hsl, q4 j f2, xa_fsV hv]
  rcases f5 with f5 | ⟨host, f5⟩
  · exact W.getf hx hb hown (hts _ f5) hi' hst q1 (by rw [q3]; exact fun h => by cases h) hslot rfl rfl hd kk
  · exact va_Wgetf hx hb hown (va_Nw.use rfl (hKK.2.1 _ f5)) hi' hst q1 (by rw [q3]; exact fun h => by cases h) hslot rfl rfl hd kk
theorem xa_setV {G : xa_G} {fs : List xa_V} {j : Nat} (hj : j < fs.length) (v : xa_V) (i : Nat) : updV (vp_V (fs.map (xa_val G))) j (xa_val G v) i = vp_V ((fs.set j v).map (xa_val G)) i := by
  rw [vp_updV_set (by rw [List.length_map]; exact hj), List.map_set]
theorem xa_putfield {k ci j index : Nat} {fs : List xa_V} {v : xa_V} {ty : FieldType} (hd : decode (xa_yc Y) pc = .ok (.putfield index, 3)) (hF : xa_Fl (xa_yn Y).cls index ci j) (hP : xa_Pl ci j false ty) (hk : 2 ≤ k) (hk2 : k < h.2) (hc : h.1 k = xa_o ci fs) (hv : xa_tv ty v) (K : xa_W G Y Z (pc + 3) ls st (xa_up h k (xa_o ci (fs.set j v))) mc ms) : xa_W G Y Z pc ls (v :: xa_r k :: st) h mc ms := by
  intro p l e s m args below meth c hB R H locs lsC cells slots r1 r2 r3 r4 hH hL hl
  have kk := fun H1 locs1 hR1 hl1 => K p l e s m args below meth c hB R H1 locs1 lsC cells slots r1 r2 r3 r4 hR1 hL hl1
  obtain ⟨hx, hb, hr, hml, hown, hts, hlocks, hin, hKK⟩ := hB
  obtain ⟨C, T, N, f1, f2, f3, f4, f5⟩ := hF
  obtain ⟨C', T', N', ty0, p1, p2, p3, p4, p5⟩ := hP
  cases f1.symm.trans p1
  obtain ⟨r, g1, g2, cell, q1, q2, q3, q4⟩ := hH.at hk hk2 hc
  cases f1.symm.trans g1
  have hap := va_apart (own := C) hts f3 ty0 p2 p3 hKK.1 f1
  obtain ⟨hS, hfc, kC, hkC, hkind⟩ := hKK.1.1 ci _ f1
  obtain ⟨cf, kf, fi, f, hi, hsl⟩ := hS j f2
  have hst := (u_facts hfc hkC (u_lays hts f3 f2) hi).1
  have hlay := hts _ (f3 _ (u_in_lay f2))
  unfold u_lay at hlay
  rw [if_neg (by rw [p4]; decide)] at hlay
  obtain ⟨n1, n2⟩ := hv.ok (G := G)
  have h6 := u_store hfc hkC hkind hlay hi p5 n1 n2
  have hi' := hi
  rw [f4] at hi'
  have hj : j < fs.length := by rw [g2]; exact f2
  have fin : ∀ H' : Heap, H'[xa_ad G k]? = some (cell.setSlot f.slot (xa_val G v)) → H'.size = H.size → (∀ q, q ≠ xa_ad G k → H'[q]? = H[q]?) → xa_R G (xa_up h k (xa_o ci (fs.set j v))) H' := by
    intro H' e1 e2 e3
    refine hH.put hk hk2 e2 e3 ⟨_, f1, by rw [List.length_set]; exact g2, t_OB.to (V := updV (vp_V (fs.map (xa_val G))) j (xa_val G v)) ⟨_, e1, q2, q3, ?_⟩ (fun i _ => xa_setV hj v i)⟩
    rw [hsl]
    exact t_set q4 hap f2 (xa_val G v)
  have hfr : ∀ q ∈ locs ++ [⟨xa_ad G k, f.slot⟩], xa_free G q.base := t_lc hl (by show xa_base G ≤ _; rw [xa_ad2 G hk]; omega)
  rcases f5 with f5 | ⟨host, f5⟩
  · exact W.putK hx hb (f := f) ⟨hown, hts _ f5, ⟨_, _, _, hi'⟩, hst⟩ (by rw [q2]; exact h6) q1 q3 (by rw [hsl]; exact k2_hasslot (q4 j f2)) rfl rfl hd fun H' e1 e2 e3 => kk H' _ (fin H' e1 e2 e3) hfr
  · exact va_WputK hx hb (f := f) hown (va_Nw.use rfl (hKK.2.1 _ f5)) hi' hst (by rw [q2]; exact h6) q1 q3 (by rw [hsl]; exact k2_hasslot (q4 j f2)) rfl rfl hd fun H' e1 e2 e3 => kk H' _ (fin H' e1 e2 e3) hfr
/-- a final field in a constructor of its class -/
theorem xa_putfinal {k ci j index : Nat} {fs : List xa_V} {v : xa_V} {ty : FieldType} (hd : decode (xa_yc Y) pc = .ok (.putfield index, 3)) (hin0 : (xa_yn Y).name = "<init>") (hF : xa_Fl (xa_yn Y).cls index ci j) (hP : xa_Pl ci j true ty) (hk : 2 ≤ k) (hk2 : k < h.2) (hc : h.1 k = xa_o ci fs) (hv : xa_tv ty v) (hcl : (vwCl[ci]?.map (fun r => r.1)) = some (xa_yn Y).cls)
    (K : xa_W G Y Z (pc + 3) ls st (xa_up h k (xa_o ci (fs.set j v))) mc ms) : xa_W G Y Z pc ls (v :: xa_r k :: st) h mc ms := by
  intro p l e s m args below meth c hB R H locs lsC cells slots r1 r2 r3 r4 hH hL hl
  have kk := fun H1 locs1 hR1 hl1 => K p l e s m args below meth c hB R H1 locs1 lsC cells slots r1 r2 r3 r4 hR1 hL hl1
  obtain ⟨hx, hb, hr, hml, hown, hts, hlocks, hin, hKK⟩ := hB
  obtain ⟨C, T, N, f1, f2, f3, f4, f5⟩ := hF
  obtain ⟨C', T', N', ty0, p1, p2, p3, p4, p5⟩ := hP
  cases f1.symm.trans p1
  rw [f1] at hcl
  obtain ⟨r, g1, g2, cell, q1, q2, q3, q4⟩ := hH.at hk hk2 hc
  cases f1.symm.trans g1
  have hap := va_apart (own := C) hts f3 ty0 p2 p3 hKK.1 f1
  obtain ⟨hS, hfc, kC, hkC, hkind⟩ := hKK.1.1 ci _ f1
  obtain ⟨cf, kf, fi, f, hi, hsl⟩ := hS j f2
  have hst := (u_facts hfc hkC (u_lays hts f3 f2) hi).1
  have hlay := hts _ (f3 _ (u_in_lay f2))
  unfold u_lay at hlay
  rw [if_pos p4] at hlay
  have hcC : C = (xa_yn Y).cls := Option.some.inj hcl
  have hcf : m.cls = cf := by
    obtain ⟨_, _, c', _, _, _, -, -, hf', -, -, -, hown2, -⟩ := Cond.laysFinal_spec hlay
    have e1 : c' = cf := by have := hi.symm.trans hf'; simp at this; exact this.1.symm
    rw [f4, hcC] at hown2
    rw [← e1]; exact Option.some.inj (hown.symm.trans hown2)
  obtain ⟨n1, n2⟩ := hv.ok (G := G)
  have h6 := u_fits hfc hkC hkind (Or.inr hlay) hi p5 n1 n2
  have hi' := hi
  rw [f4] at hi'
  have hj : j < fs.length := by rw [g2]; exact f2
  have fin : ∀ H' : Heap, H'[xa_ad G k]? = some (cell.setSlot f.slot (xa_val G v)) → H'.size = H.size → (∀ q, q ≠ xa_ad G k → H'[q]? = H[q]?) → xa_R G (xa_up h k (xa_o ci (fs.set j v))) H' := by
    intro H' e1 e2 e3
    refine hH.put hk hk2 e2 e3 ⟨_, f1, by rw [List.length_set]; exact g2, t_OB.to (V := updV (vp_V (fs.map (xa_val G))) j (xa_val G v)) ⟨_, e1, q2, q3, ?_⟩ (fun i _ => xa_setV hj v i)⟩
    rw [hsl]
    exact t_set q4 hap f2 (xa_val G v)
  have hfr : ∀ q ∈ locs ++ [⟨xa_ad G k, f.slot⟩], xa_free G q.base := t_lc hl (by show xa_base G ≤ _; rw [xa_ad2 G hk]; omega)
  have hlink : Cond.fieldLink (xa_yn Y).cls index C (T j).2.1 (T j).2.2.1 ∈ xa_gw ∨ ∃ host, ((xa_yn Y).cls, index, C, (T j).2.1, (T j).2.2.1, host) ∈ xa_nF := f5
  rcases hlink with f5 | ⟨host, f5⟩
  · exact W.putFinK hx hb hown (hts _ f5) hi' hst hcf (hin hin0) (by rw [q2]; exact h6) q1 q3 (by rw [hsl]; exact k2_hasslot (q4 j f2)) rfl rfl hd fun H' e1 e2 e3 => kk H' _ (fin H' e1 e2 e3) hfr
  · refine va_Wputf hx hb hown (va_Nw.use rfl (hKK.2.1 _ f5)) hi' hst (Or.inr ⟨hcf, hin hin0⟩) q1 (by rw [q3]; exact fun h => by cases h) (by rw [hsl]; exact k2_hasslot (q4 j f2)) h6.1 (by rw [q3, q2]; exact h6.2) rfl rfl hd ?_
    have ha : xa_ad G k < H.size := (Array.getElem?_eq_some_iff.mp q1).1
    refine kk _ _ (fin _ ?_ ?_ ?_) hfr
    · simp [Array.getElem?_setIfInBounds, ha]
    · simp
    · intro q hq
      simp [Array.getElem?_setIfInBounds, Ne.symm hq]
theorem xa_getstatic {index : Nat} (hd : decode (xa_yc Y) pc = .ok (.getstatic index, 3)) (hF : Cond.fieldLink (xa_yn Y).cls index "CatThatTurns" "WAG_STEPS" "[I" ∈ xa_gw ∨ ∃ host, ((xa_yn Y).cls, index, "CatThatTurns", "WAG_STEPS", "[I", host) ∈ xa_nF) (K : xa_W G Y Z (pc + 3) ls (xa_r 1 :: st) h mc ms) : xa_W G Y Z pc ls st h mc ms := by
  intro p l e s m args below meth c hB R H locs lsC cells slots r1 r2 r3 r4 hH hL hl
  have kk := K p l e s m args below meth c hB R H locs lsC cells slots r1 r2 r3 r4 hH hL hl
  obtain ⟨hx, hb, hr, hml, hown, hts, hlocks, hin, hKK⟩ := hB
  obtain ⟨k1, k2, k3, ⟨cf, kf, fi, f, a, cell, z1, z2, z3, z4, z5, z6, z7, z8⟩, k5⟩ := hKK
  have ha : a < xa_base G := Nat.not_le.mp z8
  have z5' : H[a]? = some cell := by rw [hH.2.2.1 a ha]; exact z5
  rcases hF with hF | ⟨host, hF⟩
  · exact W.gets hx hb hown (hts _ hF) z1 z2 z3 z4 z5' (fun e => by rw [e] at z6; cases z6) z7 rfl hd kk
  · exact va_WgetsN hx hb hown (va_Nw.use rfl (k2 _ hF)) z1 z2 z3 z4 z5' (fun e => by rw [e] at z6; cases z6) z7 rfl hd kk
theorem xa_vin {i : Int} {n : Nat} (h0 : 0 ≤ i) (h1 : i < n) (hn : n < 2 ^ 31) : vp_in (Int32.ofInt i) n ∧ (Int32.ofInt i).toNatClampNeg = i.toNat := by
  have hi : xa_ok i := ⟨by omega, by omega⟩
  have e : (Int32.ofInt i).toInt = i := xa_toInt hi
  refine ⟨vp_in_iff.mpr ⟨by rw [e]; exact h0, by rw [e]; exact h1⟩, ?_⟩
  show (Int32.ofInt i).toInt.toNat = _
  rw [e]
theorem xa_iaload {k n : Nat} {f : Nat → Int} {i : Int} (hd : decode (xa_yc Y) pc = .ok (.iaload, 1)) (hk2 : k < h.2) (hc : h.1 k = xa_a n f) (h0 : 0 ≤ i) (h1 : i < n) (K : xa_W G Y Z (pc + 1) ls (xa_i (f i.toNat) :: st) h mc ms) : xa_W G Y Z pc ls (xa_i i :: xa_r k :: st) h mc ms := by
  intro p l e s m args below meth c hB R H locs lsC cells slots r1 r2 r3 r4 hH hL hl
  have kk := K p l e s m args below meth c hB R H locs lsC cells slots r1 r2 r3 r4 hH hL hl
  obtain ⟨hx, hb, hr, hml, hown, hts, hlocks, hin, hKK⟩ := hB
  by_cases hk : 2 ≤ k
  · obtain ⟨n1, n2⟩ := hH.at hk hk2 hc
    obtain ⟨v1, v2⟩ := xa_vin h0 h1 n1
    have hArr := ((hKK.1.2 0 _ rfl).1 n (fun j => Value.int (Int32.ofInt (f j))))
    refine W.iald (v := .int (Int32.ofInt (f i.toNat))) hx hb n2 hArr (fun q => by cases q) (by show ¬ (_ ∨ (arrV _ _ _).slots.size ≤ _); rw [arrV_size]; exact v1) ?_ rfl rfl hd kk
    rw [v2, arrV_read _ _ (by omega)]
  · obtain ⟨k1, k2, k3, k4, k5, k6, k7, k8, k9, k10⟩ := hKK
    obtain ⟨s1, s2⟩ := hH.2.2.2.1
    rcases (show k = 0 ∨ k = 1 by omega) with rfl | rfl
    · obtain ⟨scr, x1, x2, x3, x4, x5⟩ := k5
      cases s1.symm.trans hc
      obtain ⟨v1, v2⟩ := xa_vin h0 h1 k10
      refine W.iald (v := .int (Int32.ofInt (xa_xs G i.toNat))) hx hb (a := xa_scr G) (by rw [hH.2.2.1 _ k8]; exact x1) x2 x3 (by rw [x4]; exact v1) ?_ rfl rfl hd kk
      rw [v2]; exact x5 _ (by omega)
    · obtain ⟨scr, x1, x2, x3, x4, x5⟩ := k6
      cases s2.symm.trans hc
      obtain ⟨v1, v2⟩ := xa_vin h0 h1 (by omega)
      refine W.iald (v := .int (Int32.ofInt (xa_wagf i.toNat))) hx hb (a := xa_wag G) (by rw [hH.2.2.1 _ k9]; exact x1) x2 x3 (by rw [x4]; exact v1) ?_ rfl rfl hd kk
      rw [v2]; exact x5 _ (by omega)
theorem xa_alen {k n : Nat} {f : Nat → Int} (hd : decode (xa_yc Y) pc = .ok (.arraylength, 1)) (hk2 : k < h.2) (hc : h.1 k = xa_a n f) (K : xa_W G Y Z (pc + 1) ls (xa_i n :: st) h mc ms) : xa_W G Y Z pc ls (xa_r k :: st) h mc ms := by
  intro p l e s m args below meth c hB R H locs lsC cells slots r1 r2 r3 r4 hH hL hl
  have kk := K p l e s m args below meth c hB R H locs lsC cells slots r1 r2 r3 r4 hH hL hl
  obtain ⟨hx, hb, hr, hml, hown, hts, hlocks, hin, hKK⟩ := hB
  by_cases hk : 2 ≤ k
  · obtain ⟨n1, n2⟩ := hH.at hk hk2 hc
    have hArr := ((hKK.1.2 0 _ rfl).1 n (fun j => Value.int (Int32.ofInt (f j))))
    exact W.alen hx hb n2 hArr (by rw [arrV_size]; rfl) rfl rfl hd kk
  · obtain ⟨k1, k2, k3, k4, k5, k6, k7, k8, k9, k10⟩ := hKK
    obtain ⟨s1, s2⟩ := hH.2.2.2.1
    rcases (show k = 0 ∨ k = 1 by omega) with rfl | rfl
    · obtain ⟨scr, x1, x2, x3, x4, x5⟩ := k5
      cases s1.symm.trans hc
      exact W.alen hx hb (a := xa_scr G) (by rw [hH.2.2.1 _ k8]; exact x1) x2 (by rw [x4]; rfl) rfl rfl hd kk
    · obtain ⟨scr, x1, x2, x3, x4, x5⟩ := k6
      cases s2.symm.trans hc
      exact W.alen hx hb (a := xa_wag G) (by rw [hH.2.2.1 _ k9]; exact x1) x2 (by rw [x4]; rfl) rfl rfl hd kk
theorem xa_alenq {k n : Nat} {f : Nat → Option Nat} (hd : decode (xa_yc Y) pc = .ok (.arraylength, 1)) (hk : 2 ≤ k) (hk2 : k < h.2) (hc : h.1 k = xa_q n f) (K : xa_W G Y Z (pc + 1) ls (xa_i n :: st) h mc ms) : xa_W G Y Z pc ls (xa_r k :: st) h mc ms := by
  intro p l e s m args below meth c hB R H locs lsC cells slots r1 r2 r3 r4 hH hL hl
  have kk := K p l e s m args below meth c hB R H locs lsC cells slots r1 r2 r3 r4 hH hL hl
  obtain ⟨hx, hb, hr, hml, hown, hts, hlocks, hin, hKK⟩ := hB
  obtain ⟨n1, n2⟩ := hH.at hk hk2 hc
  have hArr := ((hKK.1.2 1 _ rfl).1 n (fun j => va_rf ((f j).map (xa_ad G))))
  exact W.alen hx hb n2 hArr (by rw [arrV_size]; rfl) rfl rfl hd kk
theorem xa_iastore {k n : Nat} {f : Nat → Int} {i x : Int} (hd : decode (xa_yc Y) pc = .ok (.iastore, 1)) (hk : 2 ≤ k) (hk2 : k < h.2) (hc : h.1 k = xa_a n f) (h0 : 0 ≤ i) (h1 : i < n) (K : xa_W G Y Z (pc + 1) ls st (xa_up h k (xa_a n (fun j => if j = i.toNat then x else f j))) mc ms) : xa_W G Y Z pc ls (xa_i x :: xa_i i :: xa_r k :: st) h mc ms := by
  intro p l e s m args below meth c hB R H locs lsC cells slots r1 r2 r3 r4 hH hL hl
  have kk := fun H1 locs1 hR1 hl1 => K p l e s m args below meth c hB R H1 locs1 lsC cells slots r1 r2 r3 r4 hR1 hL hl1
  obtain ⟨hx, hb, hr, hml, hown, hts, hlocks, hin, hKK⟩ := hB
  obtain ⟨n1, n2⟩ := hH.at hk hk2 hc
  obtain ⟨v1, v2⟩ := xa_vin h0 h1 n1
  have hArr := ((hKK.1.2 0 _ rfl).1 n (fun j => Value.int (Int32.ofInt (f j))))
  refine W.iast hx hb n2 hArr (fun q => by cases q) (by show ¬ (_ ∨ (arrV _ _ _).slots.size ≤ _); rw [arrV_size]; exact v1) rfl rfl hd fun H1 e z oq => ?_
  refine kk H1 _ (hH.put hk hk2 z oq ⟨n1, ?_⟩) (t_lc hl (by show xa_base G ≤ _; rw [xa_ad2 G hk]; omega))
  rw [e, arrV_store, v2]
  congr 2
  funext q
  by_cases hq : q = i.toNat
  · subst hq; simp [updV]
  · simp [updV, hq]
theorem xa_aaload {k n : Nat} {f : Nat → Option Nat} {i : Int} (hd : decode (xa_yc Y) pc = .ok (.aaload, 1)) (hk : 2 ≤ k) (hk2 : k < h.2) (hc : h.1 k = xa_q n f) (h0 : 0 ≤ i) (h1 : i < n) (K : xa_W G Y Z (pc + 1) ls ((.inr (.inr (f i.toNat))) :: st) h mc ms) : xa_W G Y Z pc ls (xa_i i :: xa_r k :: st) h mc ms := by
  intro p l e s m args below meth c hB R H locs lsC cells slots r1 r2 r3 r4 hH hL hl
  have kk := K p l e s m args below meth c hB R H locs lsC cells slots r1 r2 r3 r4 hH hL hl
  obtain ⟨hx, hb, hr, hml, hown, hts, hlocks, hin, hKK⟩ := hB
  obtain ⟨n1, n2⟩ := hH.at hk hk2 hc
  obtain ⟨v1, v2⟩ := xa_vin h0 h1 n1
  have hArr := ((hKK.1.2 1 _ rfl).1 n (fun j => va_rf ((f j).map (xa_ad G))))
  refine W.aald (v := xa_val G (.inr (.inr (f i.toNat)))) (ty := .object "CatThatTurns$Sheet") hx hb n2 hArr rfl (fun q => by cases q) (by show ¬ (_ ∨ (arrV _ _ _).slots.size ≤ _); rw [arrV_size]; exact v1) ?_ rfl rfl hd kk
  rw [v2, arrV_read _ _ (by omega)]
  cases f i.toNat <;> rfl
theorem xa_aastore {k n b : Nat} {fs : List xa_V} {f : Nat → Option Nat} {i : Int} (hd : decode (xa_yc Y) pc = .ok (.aastore, 1)) (hk : 2 ≤ k) (hk2 : k < h.2) (hc : h.1 k = xa_q n f) (h0 : 0 ≤ i) (h1 : i < n) (hb0 : 2 ≤ b) (hb1 : b < h.2) (hbc : h.1 b = xa_o 5 fs) (K : xa_W G Y Z (pc + 1) ls st (xa_up h k (xa_q n (fun j => if j = i.toNat then some b else f j))) mc ms) : xa_W G Y Z pc ls (xa_r b :: xa_i i :: xa_r k :: st) h mc ms := by
  intro p l e s m args below meth c hB R H locs lsC cells slots r1 r2 r3 r4 hH hL hl
  have kk := fun H1 locs1 hR1 hl1 => K p l e s m args below meth c hB R H1 locs1 lsC cells slots r1 r2 r3 r4 hR1 hL hl1
  obtain ⟨hx, hb, hr, hml, hown, hts, hlocks, hin, hKK⟩ := hB
  obtain ⟨n1, n2⟩ := hH.at hk hk2 hc
  obtain ⟨v1, v2⟩ := xa_vin h0 h1 n1
  have hvals : ¬ Int32.ofInt i < 0 ∧ (Int32.ofInt i).toNatClampNeg < n := ⟨fun q => v1 (Or.inl q), by rw [v2]; omega⟩
  obtain ⟨r', hr', hlen, cellV, g1, g2, g3, -⟩ := hH.at hb0 hb1 hbc
  cases hr'
  have hcls := (hKK.1.1 5 _ rfl).2
  obtain ⟨kA, comp, k1, k2, k3, -⟩ := (hKK.1.2 1 _ rfl).2
  have hcomp : comp = (xa_D G).1 5 := Option.some.inj (k3.symm.trans hcls.1)
  subst hcomp
  obtain ⟨kC, hkC, -⟩ := hcls.2
  refine W.aast hx hb n2 (fun q h => by cases h) (fun h => by cases h) k1 k2 rfl hkC ⟨hvals.1, by show _ < (arrV _ _ _).slots.size; rw [arrV_size]; exact hvals.2⟩ g1 (fun q h => by rw [g3] at h; cases h) (by rw [g2]; exact hkC) (by rw [g2]; exact va_assign hcls) rfl rfl hd fun H1 e z oq => ?_
  refine kk H1 _ (hH.put hk hk2 z oq ⟨n1, ?_⟩) (t_lc hl (by show xa_base G ≤ _; rw [xa_ad2 G hk]; omega))
  rw [e, arrV_store, v2]
  congr 2
  funext q
  by_cases hq : q = i.toNat
  · subst hq; simp [updV, va_rf]
  · simp [updV, hq]
theorem xa_newarray {n : Int} {mc0 ms0 : Nat} (hd : decode (xa_yc Y) pc = .ok (.newarray .int, 2)) (hw : Cond.arrayClass .int ∈ xa_gw) (h0 : 0 ≤ n) (h1 : n ≤ 100000000) (hmc : mc = mc0 + 1) (hms : ms = ms0 + n.toNat) (K : xa_W G Y Z (pc + 2) ls (xa_r h.2 :: st) (xa_push h (xa_a n.toNat (fun _ => 0))) mc0 ms0) : xa_W G Y Z pc ls (xa_i n :: st) h mc ms := by
  intro p l e s m args below meth c hB R H locs lsC cells slots r1 r2 r3 r4 hH hL hl
  subst hmc hms
  have kk := fun H1 hR1 => K p l e s m args below meth c hB R H1 locs lsC (cells + 1) (slots + n.toNat) r1 r2 (by omega) (by omega) hR1 hL hl
  obtain ⟨hx, hb, hr, hml, hown, hts, hlocks, hin, hKK⟩ := hB
  have hn : xa_ok n := ⟨by omega, by omega⟩
  have e0 : (Int32.ofInt n).toInt = n := xa_toInt hn
  refine va_newaK hx hb (atype := .int) (N := n.toNat) (hts _ hw) rfl hd rfl (fun q => ?_) (by show (Int32.ofInt n).toInt.toNat = _; rw [e0]) (by show n.toNat * 4 ≤ _; omega) (by omega) (by omega) rfl fun H1 cA g1 g2 g3 g4 g5 => ?_
  · have := (xa_lt hn xa_ok0).mp q
    omega
  have hcA : cA = xa_cI G := Option.some.inj (g5.symm.trans (hKK.1.2 0 _ rfl).2)
  subst hcA
  obtain ⟨a1, a2⟩ := hH.push (c := xa_a n.toNat (fun _ => 0)) g2 g3 ⟨by omega, g1⟩
  have := kk H1 a1
  rw [show cells + 1 + mc0 = cells + (mc0 + 1) by omega, show slots + n.toNat + ms0 = slots + (ms0 + n.toNat) by omega] at this
  simp only [List.map_cons, xa_val_r, a2] at this
  exact this
theorem xa_new {index ci N : Nat} {C : String} {T : u_T} {ty : Nat → FieldType} {fs : List xa_V} {mc0 ms0 : Nat} (hd : decode (xa_yc Y) pc = .ok (.new index, 3)) (hc : vwCl[ci]? = some (C, T, N)) (hu : ∀ w ∈ u_ws C T N, w ∈ xa_gw) (hty : ∀ k, k < N → parseFieldDescriptor (T k).2.2.1 = some (ty k)) (hcl : Cond.classLink (xa_yn Y).cls index C ∈ xa_gw) (hinst : Cond.instantiable C N ∈ xa_gw) (hini : Cond.initialized C ∈ xa_gw)
    (hfs : ∀ j, j < N → defaultValue (ty j) = vp_V (fs.map (xa_val G)) j) (hlen : fs.length = N) (hmc : mc = mc0 + 1) (hms : ms = ms0 + N) (K : xa_W G Y Z (pc + 3) ls (xa_r h.2 :: st) (xa_push h (xa_o ci fs)) mc0 ms0) : xa_W G Y Z pc ls st h mc ms := by
  intro p l e s m args below meth c hB R H locs lsC cells slots r1 r2 r3 r4 hH hL hl
  subst hmc hms
  have kk := fun H1 hR1 => K p l e s m args below meth c hB R H1 locs lsC (cells + 1) (slots + N) r1 r2 (by omega) (by omega) hR1 hL hl
  obtain ⟨hx, hb, hr, hml, hown, hts, hlocks, hin, hKK⟩ := hB
  have hKn := hKK.1.1 ci _ hc
  refine W.newcK hx hb hown (hts _ hcl) (hts _ hinst) (hts _ hini) rfl hd (by omega) (by omega) hKn.2.1 rfl fun H1 kC hkC e1 z1 o1 => ?_
  obtain ⟨a1, a2⟩ := hH.push (c := xa_o ci fs) z1 o1 ⟨_, hc, hlen, (u_born ty hts hu hKn hkC e1 hty).to hfs⟩
  have := kk H1 a1
  rw [show cells + 1 + mc0 = cells + (mc0 + 1) by omega, show slots + N + ms0 = slots + (ms0 + N) by omega] at this
  simp only [List.map_cons, xa_val_r, a2] at this
  exact this
theorem xa_anewarray {index : Nat} {n : Int} {mc0 ms0 : Nat} (hd : decode (xa_yc Y) pc = .ok (.anewarray index, 3)) (hcl : Cond.classLink (xa_yn Y).cls index "CatThatTurns$Sheet" ∈ xa_gw) (h0 : 0 ≤ n) (h1 : n ≤ 100000000) (hmc : mc = mc0 + 1) (hms : ms = ms0 + n.toNat) (K : xa_W G Y Z (pc + 3) ls (xa_r h.2 :: st) (xa_push h (xa_q n.toNat (fun _ => none))) mc0 ms0) : xa_W G Y Z pc ls (xa_i n :: st) h mc ms := by
  intro p l e s m args below meth c hB R H locs lsC cells slots r1 r2 r3 r4 hH hL hl
  subst hmc hms
  have kk := fun H1 hR1 => K p l e s m args below meth c hB R H1 locs lsC (cells + 1) (slots + n.toNat) r1 r2 (by omega) (by omega) hR1 hL hl
  obtain ⟨hx, hb, hr, hml, hown, hts, hlocks, hin, hKK⟩ := hB
  have hn : xa_ok n := ⟨by omega, by omega⟩
  have e0 : (Int32.ofInt n).toInt = n := xa_toInt hn
  have e1 : (Int32.ofInt n).toNatClampNeg = n.toNat := by show (Int32.ofInt n).toInt.toNat = _; rw [e0]
  refine W.anew hx hb hown (hts _ hcl) (va_AO.use hKK.2.2.2.2.2.2.1) rfl hd rfl (fun q => ?_) (by rw [e1]; omega) (by omega) (by rw [e1]; omega) fun cA kA comp f1 f2 f3 f4 => ?_
  · have := (xa_lt hn xa_ok0).mp q
    omega
  rw [e1]
  have hcA : cA = xa_cR G := by
    obtain ⟨-, kA', comp', k1, k2, k3, k4⟩ := hKK.1.2 1 _ rfl
    exact Option.some.inj (f1.symm.trans k4)
  subst hcA
  generalize hH1 : H.push ({ cls := xa_cR G, slots := Array.replicate n.toNat .null, vm := .none } : Cell) = H1
  have z1 : H1.size = H.size + 1 := by rw [← hH1, Array.size_push]
  have g1 : H1[H.size]? = some (arrV (xa_cR G) n.toNat (fun _ => .null)) := by rw [← hH1, Array.getElem?_push_size, ← arrV_new]
  have o1 : ∀ q : Nat, q < H.size → H1[q]? = H[q]? := fun q hq => by rw [← hH1, Array.getElem?_push, if_neg (Nat.ne_of_lt hq)]
  obtain ⟨a1, a2⟩ := hH.push (c := xa_q n.toNat (fun _ => none)) z1 o1 ⟨by omega, g1⟩
  have := kk H1 a1
  rw [show cells + 1 + mc0 = cells + (mc0 + 1) by omega, show slots + n.toNat + ms0 = slots + (ms0 + n.toNat) by omega] at this
  simp only [List.map_cons, xa_val_r, a2] at this
  exact this
end XH
