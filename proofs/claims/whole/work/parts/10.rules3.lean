/-! rules as the walker prints them -/
/-- a proposition as a boolean's number -/
def xa_b (p : Prop) [Decidable p] : Int := if p then 1 else 0
theorem xa_b1 {p : Prop} [Decidable p] : xa_b p ≠ 0 ↔ p := by unfold xa_b; split <;> simp [*]
theorem xa_b0 {p : Prop} [Decidable p] : xa_b p = 0 ↔ ¬ p := by unfold xa_b; split <;> simp [*]
theorem xa_bt {p : Prop} [Decidable p] (h : p) : (1 : Int) = xa_b p := (if_pos h).symm
theorem xa_bf {p : Prop} [Decidable p] (h : ¬ p) : (0 : Int) = xa_b p := (if_neg h).symm
theorem xa_bq {p : Prop} [Decidable p] : xa_b p = 0 ∨ xa_b p = 1 := by unfold xa_b; split <;> simp
theorem xa_okb {p : Prop} [Decidable p] : xa_ok (xa_b p) := by unfold xa_b; split <;> decide
theorem xa_bc {p q : Prop} [Decidable p] [Decidable q] (h : p ↔ q) : xa_b p = xa_b q := by unfold xa_b; simp only [h]
/-- the place ahead holds no value of two words -/
def xa_n2 (ls : xa_Ls) (k : Nat) : Bool := match k with
  | 0 => true
  | k + 1 => match ls[k]? with
    | some (some (.inr (.inl _))) => false
    | _ => true
theorem xa_n2s {ls : xa_Ls} {k : Nat} (h : xa_n2 ls k = true) : ∀ x : Int, ls[k - 1]? = some (some (xa_l x)) → k = 0 := by
  intro x hx
  cases k with
  | zero => rfl
  | succ k =>
    rw [Nat.add_sub_cancel] at hx
    simp [xa_n2, hx] at h
section XR3
variable {G : xa_G} {Y : xa_Y} {Z : xa_Zt} {pc : Nat} {ls : xa_Ls} {st : List xa_V} {h : xa_H} {mc ms : Nat}
theorem xa_idivn {x y : Int} (hd : decode (xa_yc Y) pc = .ok (.idiv, 1)) (hx : xa_ok x) (hy : xa_ok y) (h0 : 0 < y) (h1 : 0 ≤ x) (K : xa_W G Y Z (pc + 1) ls (xa_i (x / y) :: st) h mc ms) : xa_W G Y Z pc ls (xa_i y :: xa_i x :: st) h mc ms :=
  xa_idiv hd hx hy (by omega) (by rw [Int.tdiv_eq_ediv_of_nonneg h1]; exact K)
theorem xa_iremn {x y : Int} (hd : decode (xa_yc Y) pc = .ok (.irem, 1)) (hx : xa_ok x) (hy : xa_ok y) (h0 : 0 < y) (h1 : 0 ≤ x) (K : xa_W G Y Z (pc + 1) ls (xa_i (x % y) :: st) h mc ms) : xa_W G Y Z pc ls (xa_i y :: xa_i x :: st) h mc ms :=
  xa_irem hd hx hy (by omega) (by rw [Int.tmod_eq_emod_of_nonneg h1]; exact K)
/-- the next value on the stack under another name -/
theorem xa_top {x y : Int} (e : x = y) (K : xa_W G Y Z pc ls (xa_i y :: st) h mc ms) : xa_W G Y Z pc ls (xa_i x :: st) h mc ms := e ▸ K
theorem xa_locals {ls' : xa_Ls} (e : ls = ls') (K : xa_W G Y Z pc ls' st h mc ms) : xa_W G Y Z pc ls st h mc ms := e ▸ K
theorem xa_istoren {k : Fin 4} {x : Int} (ls' : xa_Ls) (hd : decode (xa_yc Y) pc = .ok (.istore_n k, 1)) (hk : (k : Nat) < xa_yl Y) (hi : (k : Nat) < ls.length) (h1 : xa_n2 ls k = true) (hs : ls.set k (some (xa_i x)) = ls') (K : xa_W G Y Z (pc + 1) ls' st h mc ms) : xa_W G Y Z pc ls (xa_i x :: st) h mc ms := by
  subst hs; exact xa_istore_n hd hk hi (xa_n2s h1) K
theorem xa_istorew {k : Nat} {x : Int} (ls' : xa_Ls) (hd : decode (xa_yc Y) pc = .ok (.istore k, 2)) (hk : k < xa_yl Y) (hi : k < ls.length) (h1 : xa_n2 ls k = true) (hs : ls.set k (some (xa_i x)) = ls') (K : xa_W G Y Z (pc + 2) ls' st h mc ms) : xa_W G Y Z pc ls (xa_i x :: st) h mc ms := by
  subst hs; exact xa_istore hd hk hi (xa_n2s h1) K
theorem xa_astoren {k : Fin 4} {x : Nat} (ls' : xa_Ls) (hd : decode (xa_yc Y) pc = .ok (.astore_n k, 1)) (hk : (k : Nat) < xa_yl Y) (hi : (k : Nat) < ls.length) (h1 : xa_n2 ls k = true) (hs : ls.set k (some (xa_r x)) = ls') (K : xa_W G Y Z (pc + 1) ls' st h mc ms) : xa_W G Y Z pc ls (xa_r x :: st) h mc ms := by
  subst hs; exact xa_astore_n hd hk hi (xa_n2s h1) K
theorem xa_iincw {k : Nat} {n x y : Int} (ls' : xa_Ls) (hd : decode (xa_yc Y) pc = .ok (.iinc k n, 3)) (hk : k < xa_yl Y) (hv : ls[k]? = some (some (xa_i x))) (h1 : xa_n2 ls k = true) (hy : x + n = y) (hs : ls.set k (some (xa_i y)) = ls') (K : xa_W G Y Z (pc + 3) ls' st h mc ms) : xa_W G Y Z pc ls st h mc ms := by
  subst hs; subst hy; exact xa_iinc hd hk hv (xa_n2s h1) K
theorem xa_ialdw {k n : Nat} {f : Nat → Int} {i : Int} (j : Nat) (hd : decode (xa_yc Y) pc = .ok (.iaload, 1)) (hk2 : k < h.2) (hc : h.1 k = xa_a n f) (h0 : 0 ≤ i) (h1 : i < n) (hj : i.toNat = j) (K : xa_W G Y Z (pc + 1) ls (xa_i (f j) :: st) h mc ms) : xa_W G Y Z pc ls (xa_i i :: xa_r k :: st) h mc ms := by
  subst hj; exact xa_iaload hd hk2 hc h0 h1 K
def xa_upf (f : Nat → Int) (j : Nat) (x : Int) : Nat → Int := fun i => if i = j then x else f i
theorem xa_upf_at (f : Nat → Int) (j : Nat) (x : Int) : xa_upf f j x j = x := if_pos rfl
theorem xa_upf_ne (f : Nat → Int) {i j : Nat} (x : Int) (h : i ≠ j) : xa_upf f j x i = f i := if_neg h
theorem xa_iastw {k n : Nat} {f : Nat → Int} {i x : Int} (j : Nat) (hd : decode (xa_yc Y) pc = .ok (.iastore, 1)) (hk : 2 ≤ k) (hk2 : k < h.2) (hc : h.1 k = xa_a n f) (h0 : 0 ≤ i) (h1 : i < n) (hj : i.toNat = j) (K : ∀ h1 : xa_H, h1.2 = h.2 → h1.1 k = xa_a n (xa_upf f j x) → (∀ i, i ≠ k → h1.1 i = h.1 i) → xa_W G Y Z (pc + 1) ls st h1 mc ms) : xa_W G Y Z pc ls (xa_i x :: xa_i i :: xa_r k :: st) h mc ms := by
  subst hj
  exact xa_iastore hd hk hk2 hc h0 h1 (K _ rfl (xa_up_at _ _ _) (fun _ hi => xa_up_ne _ _ hi))
theorem xa_putw {k ci j index : Nat} {fs : List xa_V} {v : xa_V} {ty : FieldType} (fs' : List xa_V) (hd : decode (xa_yc Y) pc = .ok (.putfield index, 3)) (hF : xa_Fl (xa_yn Y).cls index ci j) (hP : xa_Pl ci j false ty) (hk : 2 ≤ k) (hk2 : k < h.2) (hc : h.1 k = xa_o ci fs) (hv : xa_tv ty v) (hs : fs.set j v = fs') (K : ∀ h1 : xa_H, h1.2 = h.2 → h1.1 k = xa_o ci fs' → (∀ i, i ≠ k → h1.1 i = h.1 i) → xa_W G Y Z (pc + 3) ls st h1 mc ms) : xa_W G Y Z pc ls (v :: xa_r k :: st) h mc ms := by
  subst hs
  exact xa_putfield hd hF hP hk hk2 hc hv (K _ rfl (xa_up_at _ _ _) (fun _ hi => xa_up_ne _ _ hi))
theorem xa_putwF {k ci j index : Nat} {fs : List xa_V} {v : xa_V} {ty : FieldType} (fs' : List xa_V) (hd : decode (xa_yc Y) pc = .ok (.putfield index, 3)) (hin0 : (xa_yn Y).name = "<init>") (hF : xa_Fl (xa_yn Y).cls index ci j) (hP : xa_Pl ci j true ty) (hk : 2 ≤ k) (hk2 : k < h.2) (hc : h.1 k = xa_o ci fs) (hv : xa_tv ty v) (hcl : (vwCl[ci]?.map (fun r => r.1)) = some (xa_yn Y).cls) (hs : fs.set j v = fs') (K : ∀ h1 : xa_H, h1.2 = h.2 → h1.1 k = xa_o ci fs' → (∀ i, i ≠ k → h1.1 i = h.1 i) → xa_W G Y Z (pc + 3) ls st h1 mc ms) : xa_W G Y Z pc ls (v :: xa_r k :: st) h mc ms := by
  subst hs
  exact xa_putfinal hd hin0 hF hP hk hk2 hc hv hcl (K _ rfl (xa_up_at _ _ _) (fun _ hi => xa_up_ne _ _ hi))
theorem xa_newaw {n : Int} {mc0 ms0 : Nat} (m : Nat) (hd : decode (xa_yc Y) pc = .ok (.newarray .int, 2)) (hm : n = (m : Int)) (h1 : m ≤ 100000000) (hmc : mc = mc0 + 1) (hms : ms = ms0 + m) (K : ∀ h1 : xa_H, h1.2 = h.2 + 1 → h1.1 h.2 = xa_a m (fun _ => 0) → (∀ i, i ≠ h.2 → h1.1 i = h.1 i) → xa_W G Y Z (pc + 2) ls (xa_r h.2 :: st) h1 mc0 ms0) : xa_W G Y Z pc ls (xa_i n :: st) h mc ms := by
  subst hm
  exact xa_newarray hd zi_arr (by omega) (by omega) hmc (by simpa using hms) (K _ rfl (by simpa using xa_push_at h _) (fun _ hi => xa_push_ne _ _ hi))
end XR3
