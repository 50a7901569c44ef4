/-! rules: entry, calls, returns -/
theorem xa_mono {G : xa_G} {Y : xa_Y} {Q Q' : xa_Po} {as : List xa_V} {h : xa_H} {mc ms : Nat} (hM : xa_M G Y as h mc ms Q) (hq : ∀ r h', Q r h' → Q' r h') : xa_M G Y as h mc ms Q' := by
  intro l
  refine MetFree.mono (hM l) (fun a s hp => hp) (fun _ _ _ _ _ _ => trivial) (fun a s o t _ hp => ⟨?_, hp.2⟩)
  obtain ⟨r, h', h1, h2, h3⟩ := hp.1
  exact ⟨r, h', h1, h2, hq r h' h3⟩
/-- the locals at a method's entry -/
def xa_en : List xa_V → xa_Ls
  | [] => []
  | .inr (.inl x) :: r => some (xa_l x) :: none :: xa_en r
  | v :: r => some v :: xa_en r
theorem xa_en_1 (v : xa_V) (r : List xa_V) (hv : ∀ x : Int, v ≠ xa_l x) : xa_en (v :: r) = some v :: xa_en r := by
  rcases v with x | x | x
  · rfl
  · exact absurd rfl (hv x)
  · rfl
theorem xa_cat1 (G : xa_G) (v : xa_V) (hv : ∀ x : Int, v ≠ xa_l x) : (xa_val G v).category = 1 := by
  rcases v with x | x | x
  · rfl
  · exact absurd rfl (hv x)
  · cases x <;> rfl
theorem xa_en_sl (G : xa_G) : ∀ (as : List xa_V), (lg_sl (as.map (xa_val G))).length = (xa_en as).length ∧ ∀ (k i : Nat) (v : xa_V), (xa_en as)[i]? = some (some v) → (k + i, xa_val G v) ∈ lv_args k (as.map (xa_val G))
  | [] => ⟨rfl, fun k i v h => by simp [xa_en] at h⟩
  | a :: as => by
    obtain ⟨e1, e2⟩ := xa_en_sl G as
    by_cases ha : ∃ x : Int, a = xa_l x
    · obtain ⟨x, rfl⟩ := ha
      refine ⟨?_, fun k i v h => ?_⟩
      · simp only [lg_sl, List.map_cons, List.flatMap_cons, List.length_append] at e1 ⊢
        rw [e1]
        simp [xa_val, Value.category, xa_en]
        omega
      · show _ ∈ (k, xa_val G (xa_l x)) :: lv_args (if (xa_val G (xa_l x)).category = 2 then k + 2 else k + 1) (as.map (xa_val G))
        rw [if_pos (show (xa_val G (xa_l x)).category = 2 from rfl)]
        match i, h with
        | 0, h =>
          have : v = xa_l x := by simpa [xa_en] using h.symm
          subst this
          exact List.mem_cons_self
        | 1, h => simp [xa_en] at h
        | i + 2, h =>
          refine List.mem_cons_of_mem _ ?_
          have := e2 (k + 2) i v (by simpa [xa_en] using h)
          rwa [show k + 2 + i = k + (i + 2) by omega] at this
    · have hv : ∀ x : Int, a ≠ xa_l x := fun x e => ha ⟨x, e⟩
      have hc := xa_cat1 G a hv
      rw [xa_en_1 a as hv]
      refine ⟨?_, fun k i v h => ?_⟩
      · simp only [lg_sl, List.map_cons, List.flatMap_cons, List.length_append, List.length_cons] at e1 ⊢
        rw [e1, hc]
        simp
        omega
      · show _ ∈ (k, xa_val G a) :: lv_args (if (xa_val G a).category = 2 then k + 2 else k + 1) (as.map (xa_val G))
        rw [if_neg (by rw [hc]; decide)]
        match i, h with
        | 0, h =>
          have : v = a := by simpa using h.symm
          subst this
          exact List.mem_cons_self
        | i + 1, h =>
          refine List.mem_cons_of_mem _ ?_
          have := e2 (k + 1) i v (by simpa using h)
          rwa [show k + 1 + i = k + (i + 1) by omega] at this
/-- A CONTRACT OUT OF A WALK from the method's entry -/
theorem xa_enter {G : xa_G} {Y : xa_Y} {as : List xa_V} {h : xa_H} {mc ms : Nat} {Q : xa_Po} (hy : plainFor (xa_yn Y) = true) (hn : (xa_en as).length ≤ xa_yl Y)
    (K : xa_W G Y (xa_Z G Q) 0 (xa_en as ++ List.replicate (xa_yl Y - (xa_en as).length) none) [] h mc ms) : xa_M G Y as h mc ms Q := by
  intro l
  refine va_MetF (cc := xa_yc Y) (maxL := xa_yl Y) (ret := xa_yr Y) hy rfl ?_
  intro p e s m args below meth c s₁ B hml hv
  obtain ⟨hargs, hR, hK⟩ := hv
  have hts := atoms_spec (ws := xa_ws Y) B.pre
  have hown : s.vm.findClass (xa_yn Y).cls = some m.cls := findClass_of_methodNamed B.named
  have hB : xa_B G Y p s m args meth c := ⟨B.exec, B.bytes, B.returns, hml, hown, fun w hw => hts w (List.mem_cons_of_mem _ hw), B.notSynchronized, fun hin => by rw [← hin]; exact (name_of_methodNamed B.named B.method).1, hK⟩
  subst hargs
  rw [lg_entry_eq]
  obtain ⟨e1, e2⟩ := xa_en_sl G as
  have hl := lv_entry (as.map (xa_val G)) (n := xa_yl Y) (by rw [e1]; exact hn)
  have k := K p l e s m _ below meth c hB (headSpec (xa_ws Y) (xa_rm Y mc ms)).room s.heap [] _ 0 0 (Nat.le_refl _) (Nat.le_refl _) (by rw [Nat.zero_add]; exact Nat.le_refl _) (by rw [Nat.zero_add]; exact Nat.le_refl _) hR ⟨hl.1, hl.2.1, fun q hq => ?_⟩ (fun q hq => by cases hq)
  · rw [Nat.zero_add, Nat.zero_add] at k
    exact k
  · obtain ⟨v, hv, he⟩ := xa_mem_lv hq
    rw [he]
    refine hl.2.2 (q.1, xa_val G v) ?_
    have hlt : q.1 < (xa_en as).length := by
      rcases Nat.lt_or_ge q.1 (xa_en as).length with h | h
      · exact h
      · rw [List.getElem?_append_right h] at hv
        have := List.mem_of_getElem? hv
        simp at this
    rw [List.getElem?_append_left hlt] at hv
    have := e2 0 q.1 v hv
    rwa [Nat.zero_add] at this
section XC
variable {G : xa_G} {Y : xa_Y} {Z : xa_Zt} {pc : Nat} {ls : xa_Ls} {st : List xa_V} {h : xa_H} {mc ms : Nat} {Q : xa_Po}
theorem xa_ireturn {x : Int} {ty : FieldType} (hd : decode (xa_yc Y) pc = .ok (.ireturn, 1)) (hr : xa_yr Y = some ty) (hv : xa_tv ty (xa_i x)) (K : Q (some (xa_i x)) h) : xa_W G Y (xa_Z G Q) pc ls [xa_i x] h mc ms := by
  intro p l e s m args below meth c hB R H locs lsC cells slots r1 r2 r3 r4 hH hL hl
  obtain ⟨hx, hb, hret, hml, hown, hts, hlocks, hin, hKK⟩ := hB
  refine W.widen (k := cells + mc) (n := slots + ms) (by omega) (by omega) ?_
  exact W.zret hx hb (hret.trans hr) (hv.ok (G := G)).1 (fun t ht hW => ⟨some (xa_i x), h, rfl, by rw [ht]; exact hH, K⟩) hl hd hlocks
theorem xa_return (hd : decode (xa_yc Y) pc = .ok (.return_, 1)) (hr : xa_yr Y = none) (K : Q none h) : xa_W G Y (xa_Z G Q) pc ls [] h mc ms := by
  intro p l e s m args below meth c hB R H locs lsC cells slots r1 r2 r3 r4 hH hL hl
  obtain ⟨hx, hb, hret, hml, hown, hts, hlocks, hin, hKK⟩ := hB
  refine W.widen (k := cells + mc) (n := slots + ms) (by omega) (by omega) ?_
  exact W.vret hx hb (hret.trans hr) (fun t ht hW => ⟨none, h, rfl, by rw [ht]; exact hH, K⟩) hl hd hlocks
/-- behind a call, by what it ran -/
theorem xa_behind {Q' : xa_Po} {mc1 ms1 : Nat} {rest : List xa_V} {p : Program} {l : Launch} {e : Env} {s : State} {m : MethodId} {args : Array Value} {below : List Frame} {meth : Method} {c : Code} {R : Room} {H : Heap} {locs : List Loc} {lsC : Array Slot} {cells slots : Nat} {st0 : List Value} {a : Array Value}
    (hB : xa_B G Y p s m args meth c) (r1 : xa_yd Y ≤ R.frames) (r2 : 40 * xa_yd Y ≤ R.locals) (r3 : cells + mc ≤ R.cells) (r4 : slots + ms ≤ R.slots) (hL : lv_has lsC (xa_yl Y) (xa_lv G ls)) (hl : ∀ q ∈ locs, xa_free G q.base) (hmc : mc1 ≤ mc) (hms : ms1 ≤ ms)
    (hr : va_Run p l e R s m args below meth c H locs cells slots mc1 ms1 (F0 m pc lsC st0) (rest.map (xa_val G)) (xa_Qc G Q' a) (xa_free G))
    (K : ∀ r h', Q' r h' → xa_W G Y Z (pc + 3) ls (r.toList ++ rest) h' (mc - mc1) (ms - ms1)) :
    W p l e R s m args below meth c H locs cells slots (Z below args s (cells + mc) (slots + ms)) (F0 m pc lsC st0) := by
  intro T hT X
  obtain ⟨v, st₀, t, T', L, h0, X', hLL, e1, e2, ⟨r, h', hv, hR', hq⟩, st⟩ := hr T hT X
  cases hv
  have k := K r h' hq p l e s m args below meth c hB R T'.heap (locs ++ L) lsC (cells + mc1) (slots + ms1) r1 r2 (by omega) (by omega) (by rw [e1]; exact hR') hL (t_lL hl hLL)
  rw [show cells + mc1 + (mc - mc1) = cells + mc by omega, show slots + ms1 + (ms - ms1) = slots + ms by omega] at k
  obtain ⟨t2, a1, b1⟩ := k T' rfl X'
  refine ⟨t2, st t2 ?_, b1⟩
  have e3 : (r.toList ++ rest).map (xa_val G) = (r.map (xa_val G)).toList ++ rest.map (xa_val G) := by cases r <;> simp
  rw [e3] at a1
  exact a1
/-- what a call needs of the callee, of the tables -/
def xa_Cy (Y Y' : xa_Y) : Prop := Cond.code (xa_yn Y') (xa_yc Y') (xa_yl Y') (xa_yr Y') ∈ xa_gw ∧ Cond.initialized (xa_yn Y').cls ∈ xa_gw ∧ ((xa_yn Y').cls ≠ "java/lang/invoke/MethodHandle" ∧ (xa_yn Y').cls ≠ "java/lang/invoke/VarHandle" ∧ (parseMethodDescriptor (xa_yn Y').desc).map (fun d => d.parameters.length) = some (xa_yp Y')) ∧ xa_yd Y' + 1 ≤ xa_yd Y ∧ xa_yl Y' ≤ 21
theorem xa_gwGood : ∀ w ∈ xa_gw, (w.onTables && w.keeps) = true ∨ ∃ ty, w = .arrayClass ty := fun w hw => good_of_word (List.mem_filter.mp hw).2
theorem xa_goodIn {Y' : xa_Y} (hc : Cond.code (xa_yn Y') (xa_yc Y') (xa_yl Y') (xa_yr Y') ∈ xa_gw) : GoodIn xa_gw (xa_ws Y') := by
  intro w hw
  rcases List.mem_cons.mp hw with rfl | hw
  · exact ⟨hc, Or.inl rfl⟩
  · exact ⟨hw, xa_gwGood w hw⟩
theorem xa_pre {as : List xa_V} {H : Heap} {s : State} (hH : xa_R G h H) (hK : xa_K G s) : ∀ U : State, U.heap = H → s.WarmedH U.vm → xa_Pc G as h (as.map (xa_val G)).toArray U := fun U hU hW => ⟨rfl, by rw [hU]; exact hH, hK.warm hW⟩
theorem xa_room {rest : List xa_V} (hr : rest.length ≤ 4) : ((rest.map (xa_val G)).map fun v => v.category).sum ≤ 8 := by
  have key : ∀ l : List Value, (l.map fun v => v.category).sum ≤ 2 * l.length := by
    intro l
    induction l with
    | nil => simp
    | cons v l ih =>
      have := lv_cat v
      simp only [List.map_cons, List.sum_cons, List.length_cons]
      omega
  have := key (rest.map (xa_val G))
  rw [List.length_map] at this
  omega
theorem xa_recv {k ci : Nat} {fs : List xa_V} {C : String} {H : Heap} {s : State} (hH : xa_R G h H) (hK : xa_K G s) (hk : 2 ≤ k) (hk2 : k < h.2) (hc : h.1 k = xa_o ci fs) (hC : (vwCl[ci]?.map (fun r => r.1)) = some C) : ∃ cellB : Cell, H[xa_ad G k]? = some cellB ∧ cellB.vm.isStatics = false ∧ s.vm.findClass C = some cellB.cls := by
  obtain ⟨r, g1, g2, cell, q1, q2, q3, q4⟩ := hH.at hk hk2 hc
  rw [g1] at hC
  have hC : r.1 = C := Option.some.inj hC
  exact ⟨cell, q1, by rw [q3]; rfl, by rw [q2, ← hC]; exact (hK.1.1 ci r g1).2.1⟩
theorem xa_callV {Y' : xa_Y} {Q' : xa_Po} {index k ci mc1 ms1 : Nat} {as rest fs : List xa_V} (hd : decode (xa_yc Y) pc = .ok (.invokevirtual index, 3)) (hY : xa_Cy Y Y') (hl1 : Cond.methodLink (xa_yn Y).cls index (xa_yn Y') ∈ xa_gw ∨ ∃ host, ((xa_yn Y).cls, index, xa_yn Y', host) ∈ xa_nM) (hi1 : Cond.instanceMethod (xa_yn Y') ∈ xa_gw) (hs1 : Cond.selects (xa_yn Y').cls (xa_yn Y') (xa_yn Y') ∈ xa_gw)
    (hst : st = as.reverse ++ xa_r k :: rest) (hn : as.length = xa_yp Y') (hk : 2 ≤ k) (hk2 : k < h.2) (hc : h.1 k = xa_o ci fs) (hC : (vwCl[ci]?.map (fun r => r.1)) = some (xa_yn Y').cls) (hrest : rest.length ≤ 4) (hmc : mc1 ≤ mc) (hms : ms1 ≤ ms) (hM : xa_M G Y' (xa_r k :: as) h mc1 ms1 Q')
    (K : ∀ r h', Q' r h' → xa_W G Y Z (pc + 3) ls (r.toList ++ rest) h' (mc - mc1) (ms - ms1)) : xa_W G Y Z pc ls st h mc ms := by
  subst hst
  intro p l e s m args below meth c hB R H locs lsC cells slots r1 r2 r3 r4 hH hL hl
  refine xa_behind (a := ((xa_r k :: as).map (xa_val G)).toArray) hB r1 r2 r3 r4 hL hl hmc hms ?_ K
  obtain ⟨hx, hb, hret, hml, hown, hts, hlocks, hin, hKK⟩ := hB
  obtain ⟨y1, y2, ⟨y3, y4, y5⟩, y6, y7⟩ := hY
  have hrec := xa_recv (s := s) hH hKK hk hk2 hc hC
  have hR1 : (xa_rm Y' mc1 ms1).frames + 1 ≤ R.frames ∧ 8 + (xa_yl Y' + 11) + (xa_rm Y' mc1 ms1).locals ≤ R.locals := ⟨by show xa_yd Y' + 1 ≤ _; omega, by show _ + 40 * xa_yd Y' ≤ _; omega⟩
  have hstk : (as.reverse ++ xa_r k :: rest).map (xa_val G) = (as.map (xa_val G)).reverse ++ .ref (xa_ad G k) :: rest.map (xa_val G) := by simp [xa_val]
  rw [hstk]
  rcases hl1 with hl1 | ⟨host, hl1⟩
  · exact va_runV (As := as.map (xa_val G)) (n := xa_yp Y') (C := (xa_yn Y').cls) ⟨hx, hb, hml, hown, hts⟩ (hM l) ⟨callB_of _ hts (xa_goodIn y1) rfl rfl rfl (hts _ y2) (hts _ hl1) ⟨y3, y4, y5⟩ hR1, hts _ hi1, hts _ hs1⟩ ⟨xa_blind _ _ _, hrec, xa_pre hH hKK⟩ rfl (by rw [List.length_map]; exact hn) hL.1 rfl (lv_room (pc := pc) (ls := lsC) (m := m) (rest := []) (xa_room hrest)) hd ⟨by omega, by omega⟩
  · exact va_runVN (As := as.map (xa_val G)) (n := xa_yp Y') (C := (xa_yn Y').cls) ⟨hx, hb, hml, hown, hts⟩ (hM l) ⟨va_cnB _ hts (xa_goodIn y1) rfl rfl rfl (hKK.2.2.1 _ hl1) (hts _ y2) ⟨y3, y4, y5⟩ hR1, hts _ hi1, hts _ hs1⟩ ⟨xa_blind _ _ _, hrec, xa_pre hH hKK⟩ rfl (by rw [List.length_map]; exact hn) hL.1 rfl (lv_room (pc := pc) (ls := lsC) (m := m) (rest := []) (xa_room hrest)) hd ⟨by omega, by omega⟩
theorem xa_callS {Y' : xa_Y} {Q' : xa_Po} {index mc1 ms1 : Nat} {as rest : List xa_V} (hd : decode (xa_yc Y) pc = .ok (.invokestatic index, 3)) (hY : xa_Cy Y Y') (hl1 : Cond.methodLink (xa_yn Y).cls index (xa_yn Y') ∈ xa_gw ∨ ∃ host, ((xa_yn Y).cls, index, xa_yn Y', host) ∈ xa_nM) (hs1 : Cond.static (xa_yn Y') ∈ xa_gw)
    (hst : st = as.reverse ++ rest) (hn : as.length = xa_yp Y') (hrest : rest.length ≤ 4) (hmc : mc1 ≤ mc) (hms : ms1 ≤ ms) (hM : xa_M G Y' as h mc1 ms1 Q')
    (K : ∀ r h', Q' r h' → xa_W G Y Z (pc + 3) ls (r.toList ++ rest) h' (mc - mc1) (ms - ms1)) : xa_W G Y Z pc ls st h mc ms := by
  subst hst
  intro p l e s m args below meth c hB R H locs lsC cells slots r1 r2 r3 r4 hH hL hl
  refine xa_behind (a := (as.map (xa_val G)).toArray) hB r1 r2 r3 r4 hL hl hmc hms ?_ K
  obtain ⟨hx, hb, hret, hml, hown, hts, hlocks, hin, hKK⟩ := hB
  obtain ⟨y1, y2, ⟨y3, y4, y5⟩, y6, y7⟩ := hY
  have hR1 : (xa_rm Y' mc1 ms1).frames + 1 ≤ R.frames ∧ 8 + (xa_yl Y' + 11) + (xa_rm Y' mc1 ms1).locals ≤ R.locals := ⟨by show xa_yd Y' + 1 ≤ _; omega, by show _ + 40 * xa_yd Y' ≤ _; omega⟩
  have hstk : (as.reverse ++ rest).map (xa_val G) = (as.map (xa_val G)).reverse ++ rest.map (xa_val G) := by simp
  rw [hstk]
  rcases hl1 with hl1 | ⟨host, hl1⟩
  · exact va_runS (As := as.map (xa_val G)) (n := xa_yp Y') ⟨hx, hb, hml, hown, hts⟩ (hM l) ⟨callB_of _ hts (xa_goodIn y1) rfl rfl rfl (hts _ y2) (hts _ hl1) ⟨y3, y4, y5⟩ hR1, hts _ hs1⟩ ⟨xa_blind _ _ _, xa_pre hH hKK⟩ rfl (by rw [List.length_map]; exact hn) hL.1 rfl (lv_room (pc := pc) (ls := lsC) (m := m) (rest := []) (xa_room hrest)) hd ⟨by omega, by omega⟩
  · exact va_runSN (As := as.map (xa_val G)) (n := xa_yp Y') ⟨hx, hb, hml, hown, hts⟩ (hM l) ⟨va_cnB _ hts (xa_goodIn y1) rfl rfl rfl (hKK.2.2.1 _ hl1) (hts _ y2) ⟨y3, y4, y5⟩ hR1, hts _ hs1, trivial⟩ ⟨xa_blind _ _ _, xa_pre hH hKK⟩ rfl (by rw [List.length_map]; exact hn) hL.1 rfl (lv_room (pc := pc) (ls := lsC) (m := m) (rest := []) (xa_room hrest)) hd ⟨by omega, by omega⟩
theorem xa_callI {Y' : xa_Y} {Q' : xa_Po} {index k mc1 ms1 : Nat} {as rest : List xa_V} (hd : decode (xa_yc Y) pc = .ok (.invokespecial index, 3)) (hY : xa_Cy Y Y') (hv1 : xa_yr Y' = none) (hnm : (xa_yn Y').name = "<init>") (hl1 : Cond.methodLink (xa_yn Y).cls index (xa_yn Y') ∈ xa_gw ∨ ∃ host, ((xa_yn Y).cls, index, xa_yn Y', host) ∈ xa_nM) (hi1 : Cond.instanceMethod (xa_yn Y') ∈ xa_gw)
    (hst : st = as.reverse ++ xa_r k :: rest) (hn : as.length = xa_yp Y') (hrest : rest.length ≤ 4) (hmc : mc1 ≤ mc) (hms : ms1 ≤ ms) (hM : xa_M G Y' (xa_r k :: as) h mc1 ms1 Q')
    (K : ∀ r h', Q' r h' → xa_W G Y Z (pc + 3) ls (r.toList ++ rest) h' (mc - mc1) (ms - ms1)) : xa_W G Y Z pc ls st h mc ms := by
  subst hst
  intro p l e s m args below meth c hB R H locs lsC cells slots r1 r2 r3 r4 hH hL hl
  refine xa_behind (a := ((xa_r k :: as).map (xa_val G)).toArray) hB r1 r2 r3 r4 hL hl hmc hms ?_ K
  obtain ⟨hx, hb, hret, hml, hown, hts, hlocks, hin, hKK⟩ := hB
  obtain ⟨y1, y2, ⟨y3, y4, y5⟩, y6, y7⟩ := hY
  have hR1 : (xa_rm Y' mc1 ms1).frames + 1 ≤ R.frames ∧ 8 + (xa_yl Y' + 11) + (xa_rm Y' mc1 ms1).locals ≤ R.locals := ⟨by show xa_yd Y' + 1 ≤ _; omega, by show _ + 40 * xa_yd Y' ≤ _; omega⟩
  have hstk : (as.reverse ++ xa_r k :: rest).map (xa_val G) = (as.map (xa_val G)).reverse ++ .ref (xa_ad G k) :: rest.map (xa_val G) := by simp [xa_val]
  rw [hstk]
  have hM' := hM l
  unfold xa_ws at hM'
  rw [hv1] at y1 hM'
  have hgood : GoodIn xa_gw (Cond.code (xa_yn Y') (xa_yc Y') (xa_yl Y') none :: xa_gw) := by
    intro w hw
    rcases List.mem_cons.mp hw with rfl | hw
    · exact ⟨y1, Or.inl rfl⟩
    · exact ⟨hw, xa_gwGood w hw⟩
  rcases hl1 with hl1 | ⟨host, hl1⟩
  · exact va_runI (As := as.map (xa_val G)) (n := xa_yp Y') ⟨hx, hb, hml, hown, hts⟩ hM' ⟨callB_of _ hts hgood rfl rfl rfl (hts _ y2) (hts _ hl1) ⟨y3, y4, y5⟩ hR1, hnm, hts _ hi1⟩ ⟨xa_blind _ _ _, xa_pre hH hKK⟩ rfl (by rw [List.length_map]; exact hn) hL.1 rfl (lv_room (pc := pc) (ls := lsC) (m := m) (rest := []) (xa_room hrest)) hd ⟨by omega, by omega⟩
  · exact va_runIN (As := as.map (xa_val G)) (n := xa_yp Y') ⟨hx, hb, hml, hown, hts⟩ hM' ⟨va_cnB _ hts hgood rfl rfl rfl (hKK.2.2.1 _ hl1) (hts _ y2) ⟨y3, y4, y5⟩ hR1, hnm, hts _ hi1⟩ ⟨xa_blind _ _ _, xa_pre hH hKK⟩ rfl (by rw [List.length_map]; exact hn) hL.1 rfl (lv_room (pc := pc) (ls := lsC) (m := m) (rest := []) (xa_room hrest)) hd ⟨by omega, by omega⟩
theorem xa_objinit {index k : Nat} {rest : List xa_V} (hd : decode (xa_yc Y) pc = .ok (.invokespecial index, 3)) (hl1 : Cond.methodLink (xa_yn Y).cls index objectInit ∈ xa_gw) (hi1 : Cond.instanceMethod objectInit ∈ xa_gw) (hc1 : Cond.code objectInit ⟨#[0xb1]⟩ 1 none ∈ xa_gw) (hrest : rest.length ≤ 4) (hdp : 1 ≤ xa_yd Y) (K : xa_W G Y Z (pc + 3) ls rest h mc ms) : xa_W G Y Z pc ls (xa_r k :: rest) h mc ms := by
  intro p l e s m args below meth c hB R H locs lsC cells slots r1 r2 r3 r4 hH hL hl
  have kk := K p l e s m args below meth c hB R H locs lsC cells slots r1 r2 r3 r4 hH hL hl
  obtain ⟨hx, hb, hret, hml, hown, hts, hlocks, hin, hKK⟩ := hB
  have hrm := lv_room (pc := pc) (ls := lsC) (m := m) (rest := []) (xa_room (G := G) hrest)
  refine W.objInit hx hb hown (hts _ hl1) (hts _ hi1) (hts _ hc1) rfl (by rw [hml]; exact hL.1) rfl hd (by omega) ?_ kk
  have : 2 * (F0 m pc lsC ((xa_r k :: rest).map (xa_val G))).monitorRoom = 0 := rfl
  have h8 := xa_room (G := G) hrest
  omega
end XC
