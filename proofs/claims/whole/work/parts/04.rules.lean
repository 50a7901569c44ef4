/-! THE RULES, a theorem an instruction -/
abbrev xa_ok (x : Int) : Prop := -2147483648 ≤ x ∧ x ≤ 2147483647
theorem xa_toInt {x : Int} (h : xa_ok x) : (Int32.ofInt x).toInt = x := by
  rw [Int32.toInt_ofInt]
  have e : (Int32.size : Int) = 4294967296 := rfl
  exact Int.bmod_eq_of_le (by have := h.1; rw [e]; omega) (by have := h.2; rw [e]; omega)
theorem xa_le {x y : Int} (hx : xa_ok x) (hy : xa_ok y) : Int32.ofInt x ≤ Int32.ofInt y ↔ x ≤ y := by
  rw [Int32.le_iff_toInt_le, xa_toInt hx, xa_toInt hy]
theorem xa_lt {x y : Int} (hx : xa_ok x) (hy : xa_ok y) : Int32.ofInt x < Int32.ofInt y ↔ x < y := by
  rw [Int32.lt_iff_toInt_lt, xa_toInt hx, xa_toInt hy]
theorem xa_eq {x y : Int} (hx : xa_ok x) (hy : xa_ok y) : Int32.ofInt x = Int32.ofInt y ↔ x = y := by
  rw [← Int32.toInt_inj, xa_toInt hx, xa_toInt hy]
theorem xa_ok0 : xa_ok 0 := by decide
theorem xa_zero : Int32.ofInt 0 = 0 := rfl
section XR
variable {G : xa_G} {Y : xa_Y} {Z : xa_Zt} {pc : Nat} {ls : xa_Ls} {st : List xa_V} {h : xa_H} {mc ms : Nat}
theorem xa_iconst {n : Int} (hd : decode (xa_yc Y) pc = .ok (.iconst n, 1)) (K : xa_W G Y Z (pc + 1) ls (xa_i n :: st) h mc ms) : xa_W G Y Z pc ls st h mc ms := by
  intro p l e s m args below meth c hB R H locs lsC cells slots r1 r2 r3 r4 hH hL hl
  exact lv_iconst hB.1 hB.2.1 hd rfl (K p l e s m args below meth c hB R H locs lsC cells slots r1 r2 r3 r4 hH hL hl)
theorem xa_bipush {n : Int} (hd : decode (xa_yc Y) pc = .ok (.bipush n, 2)) (hn : (Int8.ofInt n).toInt32 = Int32.ofInt n) (K : xa_W G Y Z (pc + 2) ls (xa_i n :: st) h mc ms) : xa_W G Y Z pc ls st h mc ms := by
  intro p l e s m args below meth c hB R H locs lsC cells slots r1 r2 r3 r4 hH hL hl
  exact lv_bipush hB.1 hB.2.1 hd hn (K p l e s m args below meth c hB R H locs lsC cells slots r1 r2 r3 r4 hH hL hl)
theorem xa_sipush {n : Int} (hd : decode (xa_yc Y) pc = .ok (.sipush n, 3)) (hn : (Int16.ofInt n).toInt32 = Int32.ofInt n) (K : xa_W G Y Z (pc + 3) ls (xa_i n :: st) h mc ms) : xa_W G Y Z pc ls st h mc ms := by
  intro p l e s m args below meth c hB R H locs lsC cells slots r1 r2 r3 r4 hH hL hl
  exact lv_sipush hB.1 hB.2.1 hd hn (K p l e s m args below meth c hB R H locs lsC cells slots r1 r2 r3 r4 hH hL hl)
theorem xa_ldc {index : Nat} {v : Int32} {n : Int} (hd : decode (xa_yc Y) pc = .ok (.ldc index, 2)) (hw : Cond.constant (xa_yn Y).cls index v ∈ xa_gw) (hv : v = Int32.ofInt n) (K : xa_W G Y Z (pc + 2) ls (xa_i n :: st) h mc ms) : xa_W G Y Z pc ls st h mc ms := by
  intro p l e s m args below meth c hB R H locs lsC cells slots r1 r2 r3 r4 hH hL hl
  subst hv
  exact lv_ldc hB.1 hB.2.1 hB.2.2.2.2.1 (hB.2.2.2.2.2.1 _ hw) hd (K p l e s m args below meth c hB R H locs lsC cells slots r1 r2 r3 r4 hH hL hl)
theorem xa_ldc2 {index : Nat} {v : Int64} {n : Int} (hd : decode (xa_yc Y) pc = .ok (.ldc2_w index, 3)) (hw : Cond.constantLong (xa_yn Y).cls index v ∈ xa_gw) (hv : v = Int64.ofInt n) (K : xa_W G Y Z (pc + 3) ls (xa_l n :: st) h mc ms) : xa_W G Y Z pc ls st h mc ms := by
  intro p l e s m args below meth c hB R H locs lsC cells slots r1 r2 r3 r4 hH hL hl
  subst hv
  exact lv_ldc2 hB.1 hB.2.1 hB.2.2.2.2.1 (hB.2.2.2.2.2.1 _ hw) hd (K p l e s m args below meth c hB R H locs lsC cells slots r1 r2 r3 r4 hH hL hl)
theorem xa_lconst {k : Fin 2} {n : Int} (hd : decode (xa_yc Y) pc = .ok (.lconst k, 1)) (hn : Int64.ofNat (k : Nat) = Int64.ofInt n) (K : xa_W G Y Z (pc + 1) ls (xa_l n :: st) h mc ms) : xa_W G Y Z pc ls st h mc ms := by
  intro p l e s m args below meth c hB R H locs lsC cells slots r1 r2 r3 r4 hH hL hl
  exact lv_lconst hB.1 hB.2.1 hd hn (K p l e s m args below meth c hB R H locs lsC cells slots r1 r2 r3 r4 hH hL hl)
theorem xa_loc {lsC : Array Slot} {nL i : Nat} {v : xa_V} (hL : lv_has lsC nL (xa_lv G ls)) (hv : ls[i]? = some (some v)) : lsC[i]? = some (.val (xa_val G v)) := hL.2.2 _ (xa_lv_mem hv)
theorem xa_iload_n {k : Fin 4} {x : Int} (hd : decode (xa_yc Y) pc = .ok (.iload_n k, 1)) (hv : ls[(k : Nat)]? = some (some (xa_i x))) (K : xa_W G Y Z (pc + 1) ls (xa_i x :: st) h mc ms) : xa_W G Y Z pc ls st h mc ms := by
  intro p l e s m args below meth c hB R H locs lsC cells slots r1 r2 r3 r4 hH hL hl
  exact lv_iload_n hB.1 hB.2.1 hd rfl (xa_loc hL hv) (K p l e s m args below meth c hB R H locs lsC cells slots r1 r2 r3 r4 hH hL hl)
theorem xa_iload {k : Nat} {x : Int} (hd : decode (xa_yc Y) pc = .ok (.iload k, 2)) (hv : ls[k]? = some (some (xa_i x))) (K : xa_W G Y Z (pc + 2) ls (xa_i x :: st) h mc ms) : xa_W G Y Z pc ls st h mc ms := by
  intro p l e s m args below meth c hB R H locs lsC cells slots r1 r2 r3 r4 hH hL hl
  exact lv_iload hB.1 hB.2.1 hd (xa_loc hL hv) (K p l e s m args below meth c hB R H locs lsC cells slots r1 r2 r3 r4 hH hL hl)
theorem xa_lload_n {k : Fin 4} {x : Int} (hd : decode (xa_yc Y) pc = .ok (.lload_n k, 1)) (hv : ls[(k : Nat)]? = some (some (xa_l x))) (K : xa_W G Y Z (pc + 1) ls (xa_l x :: st) h mc ms) : xa_W G Y Z pc ls st h mc ms := by
  intro p l e s m args below meth c hB R H locs lsC cells slots r1 r2 r3 r4 hH hL hl
  exact lv_lload_n hB.1 hB.2.1 hd rfl (xa_loc hL hv) (K p l e s m args below meth c hB R H locs lsC cells slots r1 r2 r3 r4 hH hL hl)
theorem xa_lload {k : Nat} {x : Int} (hd : decode (xa_yc Y) pc = .ok (.lload k, 2)) (hv : ls[k]? = some (some (xa_l x))) (K : xa_W G Y Z (pc + 2) ls (xa_l x :: st) h mc ms) : xa_W G Y Z pc ls st h mc ms := by
  intro p l e s m args below meth c hB R H locs lsC cells slots r1 r2 r3 r4 hH hL hl
  exact lv_lload hB.1 hB.2.1 hd (xa_loc hL hv) (K p l e s m args below meth c hB R H locs lsC cells slots r1 r2 r3 r4 hH hL hl)
theorem xa_aload_n {k : Fin 4} {x : Nat} (hd : decode (xa_yc Y) pc = .ok (.aload_n k, 1)) (hv : ls[(k : Nat)]? = some (some (xa_r x))) (K : xa_W G Y Z (pc + 1) ls (xa_r x :: st) h mc ms) : xa_W G Y Z pc ls st h mc ms := by
  intro p l e s m args below meth c hB R H locs lsC cells slots r1 r2 r3 r4 hH hL hl
  exact lv_aload_n hB.1 hB.2.1 hd rfl (xa_loc hL hv) (K p l e s m args below meth c hB R H locs lsC cells slots r1 r2 r3 r4 hH hL hl)
theorem xa_aload {k : Nat} {x : Nat} (hd : decode (xa_yc Y) pc = .ok (.aload k, 2)) (hv : ls[k]? = some (some (xa_r x))) (K : xa_W G Y Z (pc + 2) ls (xa_r x :: st) h mc ms) : xa_W G Y Z pc ls st h mc ms := by
  intro p l e s m args below meth c hB R H locs lsC cells slots r1 r2 r3 r4 hH hL hl
  exact lv_aload hB.1 hB.2.1 hd (xa_loc hL hv) (K p l e s m args below meth c hB R H locs lsC cells slots r1 r2 r3 r4 hH hL hl)
/-- behind a store of a value of one word: the place ahead may not hold a value of two -/
theorem xa_stored {lsC : Array Slot} {nL i : Nat} {v : xa_V} (h1 : ∀ x : Int, ls[i - 1]? = some (some (xa_l x)) → i = 0) (hi : i < ls.length) (hL : lv_has lsC nL ((i, xa_val G v) :: (xa_lv G ls).filter (fun q => !(q.1 == i) && !(q.1 + 1 == i && q.2.category == 2)))) : lv_has lsC nL (xa_lv G (ls.set i (some v))) := by
  refine ⟨hL.1, hL.2.1, fun q hq => ?_⟩
  obtain ⟨w, hw, he⟩ := xa_mem_lv hq
  rw [he]
  by_cases hqi : q.1 = i
  · rw [hqi] at hw ⊢
    rw [List.getElem?_set_self hi] at hw
    cases hw
    exact hL.2.2 (i, xa_val G v) List.mem_cons_self
  · rw [List.getElem?_set_ne (Ne.symm hqi)] at hw
    refine hL.2.2 (q.1, xa_val G w) (List.mem_cons_of_mem _ (List.mem_filter.mpr ⟨xa_lv_mem hw, ?_⟩))
    simp only [Bool.and_eq_true, Bool.not_eq_true', beq_eq_false_iff_ne, ne_eq, Bool.and_eq_false_iff]
    refine ⟨hqi, ?_⟩
    by_cases hq1 : q.1 + 1 = i
    · right
      rcases w with x | x | x
      · simp [xa_val, Value.category]
      · exfalso
        have := h1 x (by rw [← hq1]; simpa using hw)
        omega
      · cases x <;> simp [xa_val, Value.category]
    · left; simpa using hq1
theorem xa_istore_n {k : Fin 4} {x : Int} (hd : decode (xa_yc Y) pc = .ok (.istore_n k, 1)) (hk : (k : Nat) < xa_yl Y) (hi : (k : Nat) < ls.length) (h1 : ∀ x : Int, ls[(k : Nat) - 1]? = some (some (xa_l x)) → (k : Nat) = 0) (K : xa_W G Y Z (pc + 1) (ls.set k (some (xa_i x))) st h mc ms) : xa_W G Y Z pc ls (xa_i x :: st) h mc ms := by
  intro p l e s m args below meth c hB R H locs lsC cells slots r1 r2 r3 r4 hH hL hl
  exact lv_istore_n hB.1 hB.2.1 hd rfl hL hk rfl (fun ls' hL' => K p l e s m args below meth c hB R H locs ls' cells slots r1 r2 r3 r4 hH (xa_stored (v := xa_i x) h1 hi hL') hl)
theorem xa_istore {k : Nat} {x : Int} (hd : decode (xa_yc Y) pc = .ok (.istore k, 2)) (hk : k < xa_yl Y) (hi : k < ls.length) (h1 : ∀ x : Int, ls[k - 1]? = some (some (xa_l x)) → k = 0) (K : xa_W G Y Z (pc + 2) (ls.set k (some (xa_i x))) st h mc ms) : xa_W G Y Z pc ls (xa_i x :: st) h mc ms := by
  intro p l e s m args below meth c hB R H locs lsC cells slots r1 r2 r3 r4 hH hL hl
  exact lv_istore hB.1 hB.2.1 hd hL hk rfl (fun ls' hL' => K p l e s m args below meth c hB R H locs ls' cells slots r1 r2 r3 r4 hH (xa_stored (v := xa_i x) h1 hi hL') hl)
theorem xa_astore_n {k : Fin 4} {x : Nat} (hd : decode (xa_yc Y) pc = .ok (.astore_n k, 1)) (hk : (k : Nat) < xa_yl Y) (hi : (k : Nat) < ls.length) (h1 : ∀ x : Int, ls[(k : Nat) - 1]? = some (some (xa_l x)) → (k : Nat) = 0) (K : xa_W G Y Z (pc + 1) (ls.set k (some (xa_r x))) st h mc ms) : xa_W G Y Z pc ls (xa_r x :: st) h mc ms := by
  intro p l e s m args below meth c hB R H locs lsC cells slots r1 r2 r3 r4 hH hL hl
  exact lv_astore_n hB.1 hB.2.1 hd rfl hL hk rfl (fun ls' hL' => K p l e s m args below meth c hB R H locs ls' cells slots r1 r2 r3 r4 hH (xa_stored (v := xa_r x) h1 hi hL') hl)
theorem xa_astore {k : Nat} {x : Nat} (hd : decode (xa_yc Y) pc = .ok (.astore k, 2)) (hk : k < xa_yl Y) (hi : k < ls.length) (h1 : ∀ x : Int, ls[k - 1]? = some (some (xa_l x)) → k = 0) (K : xa_W G Y Z (pc + 2) (ls.set k (some (xa_r x))) st h mc ms) : xa_W G Y Z pc ls (xa_r x :: st) h mc ms := by
  intro p l e s m args below meth c hB R H locs lsC cells slots r1 r2 r3 r4 hH hL hl
  exact lv_astore hB.1 hB.2.1 hd hL hk rfl (fun ls' hL' => K p l e s m args below meth c hB R H locs ls' cells slots r1 r2 r3 r4 hH (xa_stored (v := xa_r x) h1 hi hL') hl)
theorem xa_iinc {k : Nat} {n x : Int} (hd : decode (xa_yc Y) pc = .ok (.iinc k n, 3)) (hk : k < xa_yl Y) (hv : ls[k]? = some (some (xa_i x))) (h1 : ∀ x : Int, ls[k - 1]? = some (some (xa_l x)) → k = 0) (K : xa_W G Y Z (pc + 3) (ls.set k (some (xa_i (x + n)))) st h mc ms) : xa_W G Y Z pc ls st h mc ms := by
  intro p l e s m args below meth c hB R H locs lsC cells slots r1 r2 r3 r4 hH hL hl
  obtain ⟨j, hj⟩ := List.getElem?_of_mem (xa_lv_mem (G := G) hv)
  exact lv_iinc (v := Int32.ofInt (x + n)) hB.1 hB.2.1 hd hL hj (Int32.ofInt_add x n).symm hk rfl (fun ls' hL' => K p l e s m args below meth c hB R H locs ls' cells slots r1 r2 r3 r4 hH (xa_stored (v := xa_i (x + n)) h1 (List.getElem?_eq_some_iff.mp hv).1 hL') hl)
theorem xa_iadd {x y : Int} (hd : decode (xa_yc Y) pc = .ok (.iadd, 1)) (K : xa_W G Y Z (pc + 1) ls (xa_i (x + y) :: st) h mc ms) : xa_W G Y Z pc ls (xa_i y :: xa_i x :: st) h mc ms := by
  intro p l e s m args below meth c hB R H locs lsC cells slots r1 r2 r3 r4 hH hL hl
  have k := K p l e s m args below meth c hB R H locs lsC cells slots r1 r2 r3 r4 hH hL hl
  simp only [List.map_cons, xa_val_i, Int32.ofInt_add] at k ⊢
  exact lv_iadd hB.1 hB.2.1 hd k
theorem xa_isub {x y : Int} (hd : decode (xa_yc Y) pc = .ok (.isub, 1)) (K : xa_W G Y Z (pc + 1) ls (xa_i (x - y) :: st) h mc ms) : xa_W G Y Z pc ls (xa_i y :: xa_i x :: st) h mc ms := by
  intro p l e s m args below meth c hB R H locs lsC cells slots r1 r2 r3 r4 hH hL hl
  have k := K p l e s m args below meth c hB R H locs lsC cells slots r1 r2 r3 r4 hH hL hl
  simp only [List.map_cons, xa_val_i, Int32.ofInt_sub] at k ⊢
  exact lv_isub hB.1 hB.2.1 hd k
theorem xa_imul {x y : Int} (hd : decode (xa_yc Y) pc = .ok (.imul, 1)) (K : xa_W G Y Z (pc + 1) ls (xa_i (x * y) :: st) h mc ms) : xa_W G Y Z pc ls (xa_i y :: xa_i x :: st) h mc ms := by
  intro p l e s m args below meth c hB R H locs lsC cells slots r1 r2 r3 r4 hH hL hl
  have k := K p l e s m args below meth c hB R H locs lsC cells slots r1 r2 r3 r4 hH hL hl
  simp only [List.map_cons, xa_val_i, Int32.ofInt_mul] at k ⊢
  exact lv_imul hB.1 hB.2.1 hd k
theorem xa_ineg {x : Int} (hd : decode (xa_yc Y) pc = .ok (.ineg, 1)) (K : xa_W G Y Z (pc + 1) ls (xa_i (-x) :: st) h mc ms) : xa_W G Y Z pc ls (xa_i x :: st) h mc ms := by
  intro p l e s m args below meth c hB R H locs lsC cells slots r1 r2 r3 r4 hH hL hl
  have k := K p l e s m args below meth c hB R H locs lsC cells slots r1 r2 r3 r4 hH hL hl
  simp only [List.map_cons, xa_val_i, Int32.ofInt_neg] at k ⊢
  exact lv_ineg hB.1 hB.2.1 hd k
end XR
