/-! rules: division, bits, longs -/
theorem xa_div32 {x y : Int} (hx : xa_ok x) (hy : xa_ok y) : Int32.ofInt x / Int32.ofInt y = Int32.ofInt (x.tdiv y) := by
  rw [← Int32.toInt_inj, Int32.toInt_div, xa_toInt hx, xa_toInt hy, Int32.toInt_ofInt]
theorem xa_rem32 {x y : Int} (hx : xa_ok x) (hy : xa_ok y) : Int32.ofInt x - Int32.ofInt x / Int32.ofInt y * Int32.ofInt y = Int32.ofInt (x.tmod y) := by
  rw [xa_div32 hx hy, ← Int32.ofInt_mul, ← Int32.ofInt_sub]
  congr 1
  rw [Int.tmod_def, Int.mul_comm]
abbrev xa_okl (x : Int) : Prop := -9223372036854775808 ≤ x ∧ x ≤ 9223372036854775807
theorem xa_toIntL {x : Int} (h : xa_okl x) : (Int64.ofInt x).toInt = x := by
  rw [Int64.toInt_ofInt]
  have e : (Int64.size : Int) = 18446744073709551616 := rfl
  exact Int.bmod_eq_of_le (by have := h.1; rw [e]; omega) (by have := h.2; rw [e]; omega)
theorem xa_i2l64 {x : Int} (hx : xa_ok x) : (Int32.ofInt x).toInt64 = Int64.ofInt x := by
  rw [← Int64.toInt_inj, Int32.toInt_toInt64, xa_toInt hx, xa_toIntL ⟨by have := hx.1; omega, by have := hx.2; omega⟩]
def xa_and (x y : Int) : Int := (Int32.ofInt x &&& Int32.ofInt y).toInt
def xa_or (x y : Int) : Int := (Int32.ofInt x ||| Int32.ofInt y).toInt
def xa_xor (x y : Int) : Int := (Int32.ofInt x ^^^ Int32.ofInt y).toInt
def xa_shl (x y : Int) : Int := (Int32.ofInt x <<< (Int32.ofInt y &&& 31)).toInt
def xa_shr (x y : Int) : Int := (Int32.ofInt x >>> (Int32.ofInt y &&& 31)).toInt
def xa_land (x y : Int) : Int := (Int64.ofInt x &&& Int64.ofInt y).toInt
def xa_lor (x y : Int) : Int := (Int64.ofInt x ||| Int64.ofInt y).toInt
def xa_lshl (x y : Int) : Int := (Int64.ofInt x <<< ((Int32.ofInt y).toInt64 &&& 63)).toInt
def xa_lshr (x y : Int) : Int := (Int64.ofInt x >>> ((Int32.ofInt y).toInt64 &&& 63)).toInt
def xa_lushr (x y : Int) : Int := ((Int64.ofInt x).toUInt64 >>> ((Int32.ofInt y).toInt64.toUInt64 &&& Int64.toUInt64 63)).toInt64.toInt
section XR2
variable {G : xa_G} {Y : xa_Y} {Z : xa_Zt} {pc : Nat} {ls : xa_Ls} {st : List xa_V} {h : xa_H} {mc ms : Nat}
theorem xa_idiv {x y : Int} (hd : decode (xa_yc Y) pc = .ok (.idiv, 1)) (hx : xa_ok x) (hy : xa_ok y) (h0 : y ≠ 0) (K : xa_W G Y Z (pc + 1) ls (xa_i (x.tdiv y) :: st) h mc ms) : xa_W G Y Z pc ls (xa_i y :: xa_i x :: st) h mc ms := by
  intro p l e s m args below meth c hB R H locs lsC cells slots r1 r2 r3 r4 hH hL hl
  have k := K p l e s m args below meth c hB R H locs lsC cells slots r1 r2 r3 r4 hH hL hl
  simp only [List.map_cons, xa_val_i] at k ⊢
  rw [← xa_div32 hx hy] at k
  exact lv_idiv hB.1 hB.2.1 hd (fun q => h0 ((xa_eq hy xa_ok0).mp (by rw [q]; rfl))) k
theorem xa_irem {x y : Int} (hd : decode (xa_yc Y) pc = .ok (.irem, 1)) (hx : xa_ok x) (hy : xa_ok y) (h0 : y ≠ 0) (K : xa_W G Y Z (pc + 1) ls (xa_i (x.tmod y) :: st) h mc ms) : xa_W G Y Z pc ls (xa_i y :: xa_i x :: st) h mc ms := by
  intro p l e s m args below meth c hB R H locs lsC cells slots r1 r2 r3 r4 hH hL hl
  have k := K p l e s m args below meth c hB R H locs lsC cells slots r1 r2 r3 r4 hH hL hl
  simp only [List.map_cons, xa_val_i] at k ⊢
  rw [← xa_rem32 hx hy] at k
  exact lv_irem hB.1 hB.2.1 hd (fun q => h0 ((xa_eq hy xa_ok0).mp (by rw [q]; rfl))) k
theorem xa_iand {x y : Int} (hd : decode (xa_yc Y) pc = .ok (.iand, 1)) (K : xa_W G Y Z (pc + 1) ls (xa_i (xa_and x y) :: st) h mc ms) : xa_W G Y Z pc ls (xa_i y :: xa_i x :: st) h mc ms := by
  intro p l e s m args below meth c hB R H locs lsC cells slots r1 r2 r3 r4 hH hL hl
  have k := K p l e s m args below meth c hB R H locs lsC cells slots r1 r2 r3 r4 hH hL hl
  simp only [List.map_cons, xa_val_i, xa_and, Int32.ofInt_toInt] at k ⊢
  exact lv_iand hB.1 hB.2.1 hd k
theorem xa_ior {x y : Int} (hd : decode (xa_yc Y) pc = .ok (.ior, 1)) (K : xa_W G Y Z (pc + 1) ls (xa_i (xa_or x y) :: st) h mc ms) : xa_W G Y Z pc ls (xa_i y :: xa_i x :: st) h mc ms := by
  intro p l e s m args below meth c hB R H locs lsC cells slots r1 r2 r3 r4 hH hL hl
  have k := K p l e s m args below meth c hB R H locs lsC cells slots r1 r2 r3 r4 hH hL hl
  simp only [List.map_cons, xa_val_i, xa_or, Int32.ofInt_toInt] at k ⊢
  exact lv_ior hB.1 hB.2.1 hd k
theorem xa_ixor {x y : Int} (hd : decode (xa_yc Y) pc = .ok (.ixor, 1)) (K : xa_W G Y Z (pc + 1) ls (xa_i (xa_xor x y) :: st) h mc ms) : xa_W G Y Z pc ls (xa_i y :: xa_i x :: st) h mc ms := by
  intro p l e s m args below meth c hB R H locs lsC cells slots r1 r2 r3 r4 hH hL hl
  have k := K p l e s m args below meth c hB R H locs lsC cells slots r1 r2 r3 r4 hH hL hl
  simp only [List.map_cons, xa_val_i, xa_xor, Int32.ofInt_toInt] at k ⊢
  exact lv_ixor hB.1 hB.2.1 hd k
theorem xa_ishl {x y : Int} (hd : decode (xa_yc Y) pc = .ok (.ishl, 1)) (K : xa_W G Y Z (pc + 1) ls (xa_i (xa_shl x y) :: st) h mc ms) : xa_W G Y Z pc ls (xa_i y :: xa_i x :: st) h mc ms := by
  intro p l e s m args below meth c hB R H locs lsC cells slots r1 r2 r3 r4 hH hL hl
  have k := K p l e s m args below meth c hB R H locs lsC cells slots r1 r2 r3 r4 hH hL hl
  simp only [List.map_cons, xa_val_i, xa_shl, Int32.ofInt_toInt] at k ⊢
  exact lv_ishl hB.1 hB.2.1 hd k
theorem xa_ishr {x y : Int} (hd : decode (xa_yc Y) pc = .ok (.ishr, 1)) (K : xa_W G Y Z (pc + 1) ls (xa_i (xa_shr x y) :: st) h mc ms) : xa_W G Y Z pc ls (xa_i y :: xa_i x :: st) h mc ms := by
  intro p l e s m args below meth c hB R H locs lsC cells slots r1 r2 r3 r4 hH hL hl
  have k := K p l e s m args below meth c hB R H locs lsC cells slots r1 r2 r3 r4 hH hL hl
  simp only [List.map_cons, xa_val_i, xa_shr, Int32.ofInt_toInt] at k ⊢
  exact lv_ishr hB.1 hB.2.1 hd k
theorem xa_i2l {x : Int} (hd : decode (xa_yc Y) pc = .ok (.i2l, 1)) (hx : xa_ok x) (K : xa_W G Y Z (pc + 1) ls (xa_l x :: st) h mc ms) : xa_W G Y Z pc ls (xa_i x :: st) h mc ms := by
  intro p l e s m args below meth c hB R H locs lsC cells slots r1 r2 r3 r4 hH hL hl
  exact lv_i2l hB.1 hB.2.1 hd (xa_i2l64 hx) (K p l e s m args below meth c hB R H locs lsC cells slots r1 r2 r3 r4 hH hL hl)
theorem xa_l2i {x : Int} (hd : decode (xa_yc Y) pc = .ok (.l2i, 1)) (K : xa_W G Y Z (pc + 1) ls (xa_i (Int64.ofInt x).toInt32.toInt :: st) h mc ms) : xa_W G Y Z pc ls (xa_l x :: st) h mc ms := by
  intro p l e s m args below meth c hB R H locs lsC cells slots r1 r2 r3 r4 hH hL hl
  have k := K p l e s m args below meth c hB R H locs lsC cells slots r1 r2 r3 r4 hH hL hl
  simp only [List.map_cons, xa_val_i, xa_val_l, Int32.ofInt_toInt] at k ⊢
  exact lv_l2i hB.1 hB.2.1 hd rfl k
theorem xa_landr {x y : Int} (hd : decode (xa_yc Y) pc = .ok (.land, 1)) (K : xa_W G Y Z (pc + 1) ls (xa_l (xa_land x y) :: st) h mc ms) : xa_W G Y Z pc ls (xa_l y :: xa_l x :: st) h mc ms := by
  intro p l e s m args below meth c hB R H locs lsC cells slots r1 r2 r3 r4 hH hL hl
  have k := K p l e s m args below meth c hB R H locs lsC cells slots r1 r2 r3 r4 hH hL hl
  simp only [List.map_cons, xa_val_l, xa_land, Int64.ofInt_toInt] at k ⊢
  exact lv_land hB.1 hB.2.1 hd k
theorem xa_lorr {x y : Int} (hd : decode (xa_yc Y) pc = .ok (.lor, 1)) (K : xa_W G Y Z (pc + 1) ls (xa_l (xa_lor x y) :: st) h mc ms) : xa_W G Y Z pc ls (xa_l y :: xa_l x :: st) h mc ms := by
  intro p l e s m args below meth c hB R H locs lsC cells slots r1 r2 r3 r4 hH hL hl
  have k := K p l e s m args below meth c hB R H locs lsC cells slots r1 r2 r3 r4 hH hL hl
  simp only [List.map_cons, xa_val_l, xa_lor, Int64.ofInt_toInt] at k ⊢
  exact lv_lor hB.1 hB.2.1 hd k
theorem xa_lmul {x y : Int} (hd : decode (xa_yc Y) pc = .ok (.lmul, 1)) (K : xa_W G Y Z (pc + 1) ls (xa_l (x * y) :: st) h mc ms) : xa_W G Y Z pc ls (xa_l y :: xa_l x :: st) h mc ms := by
  intro p l e s m args below meth c hB R H locs lsC cells slots r1 r2 r3 r4 hH hL hl
  have k := K p l e s m args below meth c hB R H locs lsC cells slots r1 r2 r3 r4 hH hL hl
  simp only [List.map_cons, xa_val_l, Int64.ofInt_mul] at k ⊢
  exact lv_lmul hB.1 hB.2.1 hd k
theorem xa_lshlr {x y : Int} (hd : decode (xa_yc Y) pc = .ok (.lshl, 1)) (K : xa_W G Y Z (pc + 1) ls (xa_l (xa_lshl x y) :: st) h mc ms) : xa_W G Y Z pc ls (xa_i y :: xa_l x :: st) h mc ms := by
  intro p l e s m args below meth c hB R H locs lsC cells slots r1 r2 r3 r4 hH hL hl
  have k := K p l e s m args below meth c hB R H locs lsC cells slots r1 r2 r3 r4 hH hL hl
  simp only [List.map_cons, xa_val_i, xa_val_l, xa_lshl, Int64.ofInt_toInt] at k ⊢
  exact lv_lshl hB.1 hB.2.1 hd rfl k
theorem xa_lshrr {x y : Int} (hd : decode (xa_yc Y) pc = .ok (.lshr, 1)) (K : xa_W G Y Z (pc + 1) ls (xa_l (xa_lshr x y) :: st) h mc ms) : xa_W G Y Z pc ls (xa_i y :: xa_l x :: st) h mc ms := by
  intro p l e s m args below meth c hB R H locs lsC cells slots r1 r2 r3 r4 hH hL hl
  have k := K p l e s m args below meth c hB R H locs lsC cells slots r1 r2 r3 r4 hH hL hl
  simp only [List.map_cons, xa_val_i, xa_val_l, xa_lshr, Int64.ofInt_toInt] at k ⊢
  exact lv_lshr hB.1 hB.2.1 hd rfl k
theorem xa_lushrr {x y : Int} (hd : decode (xa_yc Y) pc = .ok (.lushr, 1)) (K : xa_W G Y Z (pc + 1) ls (xa_l (xa_lushr x y) :: st) h mc ms) : xa_W G Y Z pc ls (xa_i y :: xa_l x :: st) h mc ms := by
  intro p l e s m args below meth c hB R H locs lsC cells slots r1 r2 r3 r4 hH hL hl
  have k := K p l e s m args below meth c hB R H locs lsC cells slots r1 r2 r3 r4 hH hL hl
  simp only [List.map_cons, xa_val_i, xa_val_l, xa_lushr, Int64.ofInt_toInt] at k ⊢
  exact lv_lushr hB.1 hB.2.1 hd rfl k
theorem xa_lcmp {x y : Int} (hd : decode (xa_yc Y) pc = .ok (.lcmp, 1)) (hx : xa_okl x) (hy : xa_okl y) (K : xa_W G Y Z (pc + 1) ls (xa_i (if y < x then 1 else if x = y then 0 else -1) :: st) h mc ms) : xa_W G Y Z pc ls (xa_l y :: xa_l x :: st) h mc ms := by
  intro p l e s m args below meth c hB R H locs lsC cells slots r1 r2 r3 r4 hH hL hl
  have k := K p l e s m args below meth c hB R H locs lsC cells slots r1 r2 r3 r4 hH hL hl
  simp only [List.map_cons, xa_val_i, xa_val_l] at k ⊢
  have e1 : Int32.ofInt (if y < x then 1 else if x = y then 0 else -1) = lg_cmp (Int64.ofInt x) (Int64.ofInt y) := by
    unfold lg_cmp
    have a1 : (Int64.ofInt x > Int64.ofInt y) ↔ y < x := by rw [gt_iff_lt, Int64.lt_iff_toInt_lt, xa_toIntL hx, xa_toIntL hy]
    have a2 : (Int64.ofInt x = Int64.ofInt y) ↔ x = y := by rw [← Int64.toInt_inj, xa_toIntL hx, xa_toIntL hy]
    simp only [a1, a2]
    split
    · rfl
    · split <;> rfl
  rw [e1] at k
  exact W.lcmp hB.1 hB.2.1 hd k
theorem xa_dup {v : xa_V} (hd : decode (xa_yc Y) pc = .ok (.dup, 1)) (hv : (xa_val G v).category = 1) (K : xa_W G Y Z (pc + 1) ls (v :: v :: st) h mc ms) : xa_W G Y Z pc ls (v :: st) h mc ms := by
  intro p l e s m args below meth c hB R H locs lsC cells slots r1 r2 r3 r4 hH hL hl
  exact lv_dup hB.1 hB.2.1 hd hv (K p l e s m args below meth c hB R H locs lsC cells slots r1 r2 r3 r4 hH hL hl)
theorem xa_dup2 {v w : xa_V} (hd : decode (xa_yc Y) pc = .ok (.dup2, 1)) (hv : (xa_val G v).category = 1) (hw : (xa_val G w).category = 1) (K : xa_W G Y Z (pc + 1) ls (v :: w :: v :: w :: st) h mc ms) : xa_W G Y Z pc ls (v :: w :: st) h mc ms := by
  intro p l e s m args below meth c hB R H locs lsC cells slots r1 r2 r3 r4 hH hL hl
  exact lv_dup2_11 hB.1 hB.2.1 hd hv hw (K p l e s m args below meth c hB R H locs lsC cells slots r1 r2 r3 r4 hH hL hl)
theorem xa_pop {v : xa_V} (hd : decode (xa_yc Y) pc = .ok (.pop, 1)) (hv : (xa_val G v).category = 1) (K : xa_W G Y Z (pc + 1) ls st h mc ms) : xa_W G Y Z pc ls (v :: st) h mc ms := by
  intro p l e s m args below meth c hB R H locs lsC cells slots r1 r2 r3 r4 hH hL hl
  exact lv_pop hB.1 hB.2.1 hd hv (K p l e s m args below meth c hB R H locs lsC cells slots r1 r2 r3 r4 hH hL hl)
theorem xa_goto {off : Int} {tgt : Nat} (hd : decode (xa_yc Y) pc = .ok (.goto off, 3)) (ht : (pc : Int) + off = (tgt : Int)) (K : xa_W G Y Z tgt ls st h mc ms) : xa_W G Y Z pc ls st h mc ms := by
  intro p l e s m args below meth c hB R H locs lsC cells slots r1 r2 r3 r4 hH hL hl
  exact lv_goto hB.1 hB.2.1 hd ht (K p l e s m args below meth c hB R H locs lsC cells slots r1 r2 r3 r4 hH hL hl)
theorem xa_if_eq {x : Int} {off : Int} {tgt : Nat} (hd : decode (xa_yc Y) pc = .ok (.ifCond .eq off, 3)) (ht : (pc : Int) + off = (tgt : Int)) (hx : xa_ok x) (kt : x = 0 → xa_W G Y Z tgt ls st h mc ms) (kf : x ≠ 0 → xa_W G Y Z (pc + 3) ls st h mc ms) : xa_W G Y Z pc ls (xa_i x :: st) h mc ms := by
  intro p l e s m args below meth c hB R H locs lsC cells slots r1 r2 r3 r4 hH hL hl
  have kt := fun q => kt q p l e s m args below meth c hB R H locs lsC cells slots r1 r2 r3 r4 hH hL hl
  have kf := fun q => kf q p l e s m args below meth c hB R H locs lsC cells slots r1 r2 r3 r4 hH hL hl
  exact lv_if_eq hB.1 hB.2.1 hd ht (fun q => kt ((xa_eq hx xa_ok0).mp q)) (fun q => kf (fun z => q ((xa_eq hx xa_ok0).mpr z)))
theorem xa_icmp_eq {x y : Int} {off : Int} {tgt : Nat} (hd : decode (xa_yc Y) pc = .ok (.if_icmp .eq off, 3)) (ht : (pc : Int) + off = (tgt : Int)) (hx : xa_ok x) (hy : xa_ok y) (kt : x = y → xa_W G Y Z tgt ls st h mc ms) (kf : x ≠ y → xa_W G Y Z (pc + 3) ls st h mc ms) : xa_W G Y Z pc ls (xa_i y :: xa_i x :: st) h mc ms := by
  intro p l e s m args below meth c hB R H locs lsC cells slots r1 r2 r3 r4 hH hL hl
  have kt := fun q => kt q p l e s m args below meth c hB R H locs lsC cells slots r1 r2 r3 r4 hH hL hl
  have kf := fun q => kf q p l e s m args below meth c hB R H locs lsC cells slots r1 r2 r3 r4 hH hL hl
  exact lv_icmp_eq hB.1 hB.2.1 hd ht (fun q => kt ((xa_eq hx hy).mp q)) (fun q => kf (fun z => q ((xa_eq hx hy).mpr z)))
theorem xa_if_ne {x : Int} {off : Int} {tgt : Nat} (hd : decode (xa_yc Y) pc = .ok (.ifCond .ne off, 3)) (ht : (pc : Int) + off = (tgt : Int)) (hx : xa_ok x) (kt : x ≠ 0 → xa_W G Y Z tgt ls st h mc ms) (kf : x = 0 → xa_W G Y Z (pc + 3) ls st h mc ms) : xa_W G Y Z pc ls (xa_i x :: st) h mc ms := by
  intro p l e s m args below meth c hB R H locs lsC cells slots r1 r2 r3 r4 hH hL hl
  have kt := fun q => kt q p l e s m args below meth c hB R H locs lsC cells slots r1 r2 r3 r4 hH hL hl
  have kf := fun q => kf q p l e s m args below meth c hB R H locs lsC cells slots r1 r2 r3 r4 hH hL hl
  exact lv_if_ne hB.1 hB.2.1 hd ht (fun q => kt (fun z => q ((xa_eq hx xa_ok0).mpr z))) (fun q => kf ((xa_eq hx xa_ok0).mp q))
theorem xa_icmp_ne {x y : Int} {off : Int} {tgt : Nat} (hd : decode (xa_yc Y) pc = .ok (.if_icmp .ne off, 3)) (ht : (pc : Int) + off = (tgt : Int)) (hx : xa_ok x) (hy : xa_ok y) (kt : x ≠ y → xa_W G Y Z tgt ls st h mc ms) (kf : x = y → xa_W G Y Z (pc + 3) ls st h mc ms) : xa_W G Y Z pc ls (xa_i y :: xa_i x :: st) h mc ms := by
  intro p l e s m args below meth c hB R H locs lsC cells slots r1 r2 r3 r4 hH hL hl
  have kt := fun q => kt q p l e s m args below meth c hB R H locs lsC cells slots r1 r2 r3 r4 hH hL hl
  have kf := fun q => kf q p l e s m args below meth c hB R H locs lsC cells slots r1 r2 r3 r4 hH hL hl
  exact lv_icmp_ne hB.1 hB.2.1 hd ht (fun q => kt (fun z => q ((xa_eq hx hy).mpr z))) (fun q => kf ((xa_eq hx hy).mp q))
theorem xa_if_lt {x : Int} {off : Int} {tgt : Nat} (hd : decode (xa_yc Y) pc = .ok (.ifCond .lt off, 3)) (ht : (pc : Int) + off = (tgt : Int)) (hx : xa_ok x) (kt : x < 0 → xa_W G Y Z tgt ls st h mc ms) (kf : 0 ≤ x → xa_W G Y Z (pc + 3) ls st h mc ms) : xa_W G Y Z pc ls (xa_i x :: st) h mc ms := by
  intro p l e s m args below meth c hB R H locs lsC cells slots r1 r2 r3 r4 hH hL hl
  have kt := fun q => kt q p l e s m args below meth c hB R H locs lsC cells slots r1 r2 r3 r4 hH hL hl
  have kf := fun q => kf q p l e s m args below meth c hB R H locs lsC cells slots r1 r2 r3 r4 hH hL hl
  exact lv_if_lt hB.1 hB.2.1 hd ht (fun q => kt ((xa_lt hx xa_ok0).mp q)) (fun q => kf (Int.not_lt.mp (fun z => q ((xa_lt hx xa_ok0).mpr z))))
theorem xa_icmp_lt {x y : Int} {off : Int} {tgt : Nat} (hd : decode (xa_yc Y) pc = .ok (.if_icmp .lt off, 3)) (ht : (pc : Int) + off = (tgt : Int)) (hx : xa_ok x) (hy : xa_ok y) (kt : x < y → xa_W G Y Z tgt ls st h mc ms) (kf : y ≤ x → xa_W G Y Z (pc + 3) ls st h mc ms) : xa_W G Y Z pc ls (xa_i y :: xa_i x :: st) h mc ms := by
  intro p l e s m args below meth c hB R H locs lsC cells slots r1 r2 r3 r4 hH hL hl
  have kt := fun q => kt q p l e s m args below meth c hB R H locs lsC cells slots r1 r2 r3 r4 hH hL hl
  have kf := fun q => kf q p l e s m args below meth c hB R H locs lsC cells slots r1 r2 r3 r4 hH hL hl
  exact lv_icmp_lt hB.1 hB.2.1 hd ht (fun q => kt ((xa_lt hx hy).mp q)) (fun q => kf (Int.not_lt.mp (fun z => q ((xa_lt hx hy).mpr z))))
theorem xa_if_ge {x : Int} {off : Int} {tgt : Nat} (hd : decode (xa_yc Y) pc = .ok (.ifCond .ge off, 3)) (ht : (pc : Int) + off = (tgt : Int)) (hx : xa_ok x) (kt : 0 ≤ x → xa_W G Y Z tgt ls st h mc ms) (kf : x < 0 → xa_W G Y Z (pc + 3) ls st h mc ms) : xa_W G Y Z pc ls (xa_i x :: st) h mc ms := by
  intro p l e s m args below meth c hB R H locs lsC cells slots r1 r2 r3 r4 hH hL hl
  have kt := fun q => kt q p l e s m args below meth c hB R H locs lsC cells slots r1 r2 r3 r4 hH hL hl
  have kf := fun q => kf q p l e s m args below meth c hB R H locs lsC cells slots r1 r2 r3 r4 hH hL hl
  exact lv_if_ge hB.1 hB.2.1 hd ht (fun q => kt ((xa_le xa_ok0 hx).mp q)) (fun q => kf (Int.not_le.mp (fun z => q ((xa_le xa_ok0 hx).mpr z))))
theorem xa_icmp_ge {x y : Int} {off : Int} {tgt : Nat} (hd : decode (xa_yc Y) pc = .ok (.if_icmp .ge off, 3)) (ht : (pc : Int) + off = (tgt : Int)) (hx : xa_ok x) (hy : xa_ok y) (kt : y ≤ x → xa_W G Y Z tgt ls st h mc ms) (kf : x < y → xa_W G Y Z (pc + 3) ls st h mc ms) : xa_W G Y Z pc ls (xa_i y :: xa_i x :: st) h mc ms := by
  intro p l e s m args below meth c hB R H locs lsC cells slots r1 r2 r3 r4 hH hL hl
  have kt := fun q => kt q p l e s m args below meth c hB R H locs lsC cells slots r1 r2 r3 r4 hH hL hl
  have kf := fun q => kf q p l e s m args below meth c hB R H locs lsC cells slots r1 r2 r3 r4 hH hL hl
  exact lv_icmp_ge hB.1 hB.2.1 hd ht (fun q => kt ((xa_le hy hx).mp q)) (fun q => kf (Int.not_le.mp (fun z => q ((xa_le hy hx).mpr z))))
theorem xa_if_gt {x : Int} {off : Int} {tgt : Nat} (hd : decode (xa_yc Y) pc = .ok (.ifCond .gt off, 3)) (ht : (pc : Int) + off = (tgt : Int)) (hx : xa_ok x) (kt : 0 < x → xa_W G Y Z tgt ls st h mc ms) (kf : x ≤ 0 → xa_W G Y Z (pc + 3) ls st h mc ms) : xa_W G Y Z pc ls (xa_i x :: st) h mc ms := by
  intro p l e s m args below meth c hB R H locs lsC cells slots r1 r2 r3 r4 hH hL hl
  have kt := fun q => kt q p l e s m args below meth c hB R H locs lsC cells slots r1 r2 r3 r4 hH hL hl
  have kf := fun q => kf q p l e s m args below meth c hB R H locs lsC cells slots r1 r2 r3 r4 hH hL hl
  exact lv_if_gt hB.1 hB.2.1 hd ht (fun q => kt ((xa_lt xa_ok0 hx).mp q)) (fun q => kf (Int.not_lt.mp (fun z => q ((xa_lt xa_ok0 hx).mpr z))))
theorem xa_icmp_gt {x y : Int} {off : Int} {tgt : Nat} (hd : decode (xa_yc Y) pc = .ok (.if_icmp .gt off, 3)) (ht : (pc : Int) + off = (tgt : Int)) (hx : xa_ok x) (hy : xa_ok y) (kt : y < x → xa_W G Y Z tgt ls st h mc ms) (kf : x ≤ y → xa_W G Y Z (pc + 3) ls st h mc ms) : xa_W G Y Z pc ls (xa_i y :: xa_i x :: st) h mc ms := by
  intro p l e s m args below meth c hB R H locs lsC cells slots r1 r2 r3 r4 hH hL hl
  have kt := fun q => kt q p l e s m args below meth c hB R H locs lsC cells slots r1 r2 r3 r4 hH hL hl
  have kf := fun q => kf q p l e s m args below meth c hB R H locs lsC cells slots r1 r2 r3 r4 hH hL hl
  exact lv_icmp_gt hB.1 hB.2.1 hd ht (fun q => kt ((xa_lt hy hx).mp q)) (fun q => kf (Int.not_lt.mp (fun z => q ((xa_lt hy hx).mpr z))))
theorem xa_if_le {x : Int} {off : Int} {tgt : Nat} (hd : decode (xa_yc Y) pc = .ok (.ifCond .le off, 3)) (ht : (pc : Int) + off = (tgt : Int)) (hx : xa_ok x) (kt : x ≤ 0 → xa_W G Y Z tgt ls st h mc ms) (kf : 0 < x → xa_W G Y Z (pc + 3) ls st h mc ms) : xa_W G Y Z pc ls (xa_i x :: st) h mc ms := by
  intro p l e s m args below meth c hB R H locs lsC cells slots r1 r2 r3 r4 hH hL hl
  have kt := fun q => kt q p l e s m args below meth c hB R H locs lsC cells slots r1 r2 r3 r4 hH hL hl
  have kf := fun q => kf q p l e s m args below meth c hB R H locs lsC cells slots r1 r2 r3 r4 hH hL hl
  exact lv_if_le hB.1 hB.2.1 hd ht (fun q => kt ((xa_le hx xa_ok0).mp q)) (fun q => kf (Int.not_le.mp (fun z => q ((xa_le hx xa_ok0).mpr z))))
theorem xa_icmp_le {x y : Int} {off : Int} {tgt : Nat} (hd : decode (xa_yc Y) pc = .ok (.if_icmp .le off, 3)) (ht : (pc : Int) + off = (tgt : Int)) (hx : xa_ok x) (hy : xa_ok y) (kt : x ≤ y → xa_W G Y Z tgt ls st h mc ms) (kf : y < x → xa_W G Y Z (pc + 3) ls st h mc ms) : xa_W G Y Z pc ls (xa_i y :: xa_i x :: st) h mc ms := by
  intro p l e s m args below meth c hB R H locs lsC cells slots r1 r2 r3 r4 hH hL hl
  have kt := fun q => kt q p l e s m args below meth c hB R H locs lsC cells slots r1 r2 r3 r4 hH hL hl
  have kf := fun q => kf q p l e s m args below meth c hB R H locs lsC cells slots r1 r2 r3 r4 hH hL hl
  exact lv_icmp_le hB.1 hB.2.1 hd ht (fun q => kt ((xa_le hx hy).mp q)) (fun q => kf (Int.not_le.mp (fun z => q ((xa_le hx hy).mpr z))))
theorem xa_ifnonnull {k : Nat} {off : Int} {tgt : Nat} (hd : decode (xa_yc Y) pc = .ok (.ifnonnull off, 3)) (ht : (pc : Int) + off = (tgt : Int)) (K : xa_W G Y Z tgt ls st h mc ms) : xa_W G Y Z pc ls (xa_r k :: st) h mc ms := by
  intro p l e s m args below meth c hB R H locs lsC cells slots r1 r2 r3 r4 hH hL hl
  exact lv_ifnonnull hB.1 hB.2.1 hd ht (K p l e s m args below meth c hB R H locs lsC cells slots r1 r2 r3 r4 hH hL hl)
theorem xa_tableIn {dflt lo hi : Int} {offs : Array Int} {len : Nat} {x : Int} {off : Int} {tgt : Nat} (hd : decode (xa_yc Y) pc = .ok (.tableswitch dflt lo hi offs, len)) (hx : xa_ok x) (h1 : lo ≤ x) (h2 : x ≤ hi) (ho : offs[(x - lo).toNat]? = some off) (ht : (pc : Int) + off = (tgt : Int)) (K : xa_W G Y Z tgt ls st h mc ms) : xa_W G Y Z pc ls (xa_i x :: st) h mc ms := by
  intro p l e s m args below meth c hB R H locs lsC cells slots r1 r2 r3 r4 hH hL hl
  exact lv_tableIn hB.1 hB.2.1 hd (by rw [xa_toInt hx]; omega) (by rw [xa_toInt hx]; omega) (by rw [xa_toInt hx]; exact ho) ht (K p l e s m args below meth c hB R H locs lsC cells slots r1 r2 r3 r4 hH hL hl)
theorem xa_tableOut {dflt lo hi : Int} {offs : Array Int} {len : Nat} {x : Int} {tgt : Nat} (hd : decode (xa_yc Y) pc = .ok (.tableswitch dflt lo hi offs, len)) (hx : xa_ok x) (h1 : x < lo ∨ hi < x) (ht : (pc : Int) + dflt = (tgt : Int)) (K : xa_W G Y Z tgt ls st h mc ms) : xa_W G Y Z pc ls (xa_i x :: st) h mc ms := by
  intro p l e s m args below meth c hB R H locs lsC cells slots r1 r2 r3 r4 hH hL hl
  exact lv_tableOut hB.1 hB.2.1 hd (by rw [xa_toInt hx]; exact h1) ht (K p l e s m args below meth c hB R H locs lsC cells slots r1 r2 r3 r4 hH hL hl)
theorem xa_lookup {dflt : Int} {ps : Array (Int × Int)} {len : Nat} {x : Int} {off : Int} {tgt : Nat} (hd : decode (xa_yc Y) pc = .ok (.lookupswitch dflt ps, len)) (hp : (ps.toList.zip (ps.toList.drop 1)).all (fun (a, next) => a.1 < next.1) = true) (hx : xa_ok x) (ho : Op.lookupswitch.offset ps.toList dflt x = off) (ht : (pc : Int) + off = (tgt : Int)) (K : xa_W G Y Z tgt ls st h mc ms) : xa_W G Y Z pc ls (xa_i x :: st) h mc ms := by
  intro p l e s m args below meth c hB R H locs lsC cells slots r1 r2 r3 r4 hH hL hl
  exact lv_lookup hB.1 hB.2.1 hd hp (by rw [xa_toInt hx]; exact ho) ht (K p l e s m args below meth c hB R H locs lsC cells slots r1 r2 r3 r4 hH hL hl)
end XR2
