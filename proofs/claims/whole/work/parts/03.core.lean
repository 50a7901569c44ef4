/-! THE ABSTRACT MACHINE'S STATE: values with whole numbers, cells by places 0, 1, .. (0 the script, 1 the static row, from 2 on what the law makes, in order). -/
abbrev xa_V : Type := Int ⊕ Int ⊕ Option Nat
abbrev xa_i (x : Int) : xa_V := .inl x
abbrev xa_l (x : Int) : xa_V := .inr (.inl x)
abbrev xa_r (k : Nat) : xa_V := .inr (.inr (some k))
abbrev xa_n : xa_V := .inr (.inr none)
/-- a cell: an object (number of its class, fields), a row of ints (length, contents), a row of references -/
abbrev xa_C : Type := (Nat × List xa_V) ⊕ (Nat × (Nat → Int)) ⊕ (Nat × (Nat → Option Nat))
abbrev xa_o (ci : Nat) (fs : List xa_V) : xa_C := .inl (ci, fs)
abbrev xa_a (n : Nat) (f : Nat → Int) : xa_C := .inr (.inl (n, f))
abbrev xa_q (n : Nat) (f : Nat → Option Nat) : xa_C := .inr (.inr (n, f))
abbrev xa_H : Type := (Nat → xa_C) × Nat
/-- what stays the same all along: base, the heap at the law's entry, the script's cell, the static row's cell, classes and slots, the class of int rows, of Sheet rows, the script's length, its ints -/
abbrev xa_G : Type := Nat × Heap × Nat × Nat × va_G × ClassId × ClassId × Nat × (Nat → Int)
abbrev xa_base (G : xa_G) : Nat := G.1
abbrev xa_h0 (G : xa_G) : Heap := G.2.1
abbrev xa_scr (G : xa_G) : Nat := G.2.2.1
abbrev xa_wag (G : xa_G) : Nat := G.2.2.2.1
abbrev xa_D (G : xa_G) : va_G := G.2.2.2.2.1
abbrev xa_cI (G : xa_G) : ClassId := G.2.2.2.2.2.1
abbrev xa_cR (G : xa_G) : ClassId := G.2.2.2.2.2.2.1
abbrev xa_L (G : xa_G) : Nat := G.2.2.2.2.2.2.2.1
abbrev xa_xs (G : xa_G) : Nat → Int := G.2.2.2.2.2.2.2.2
def xa_ad (G : xa_G) (k : Nat) : Nat := if k = 0 then xa_scr G else if k = 1 then xa_wag G else xa_base G + (k - 2)
def xa_val (G : xa_G) : xa_V → Value
  | .inl x => .int (Int32.ofInt x)
  | .inr (.inl x) => .long (Int64.ofInt x)
  | .inr (.inr none) => .null
  | .inr (.inr (some k)) => .ref (xa_ad G k)
theorem xa_val_i (G : xa_G) (x : Int) : xa_val G (xa_i x) = .int (Int32.ofInt x) := rfl
theorem xa_val_l (G : xa_G) (x : Int) : xa_val G (xa_l x) = .long (Int64.ofInt x) := rfl
theorem xa_val_r (G : xa_G) (k : Nat) : xa_val G (xa_r k) = .ref (xa_ad G k) := rfl
theorem xa_val_n (G : xa_G) : xa_val G xa_n = .null := rfl
/-- what a static row of eight ints holds -/
def xa_wagf : Nat → Int := fun k => [30, 36, 40, 45, 60, 72, 90, 120].getD k 0
/-- a cell at an address -/
def xa_at (G : xa_G) (c : xa_C) (a : Nat) (H : Heap) : Prop := match c with
  | .inl (ci, fs) => ∃ r : vw_C, vwCl[ci]? = some r ∧ fs.length = r.2.2 ∧ t_OB a ((xa_D G).1 ci) r.2.2 ((xa_D G).2 ci) H (vp_V (fs.map (xa_val G)))
  | .inr (.inl (n, f)) => n < 2 ^ 31 ∧ H[a]? = some (arrV (xa_cI G) n (fun j => .int (Int32.ofInt (f j))))
  | .inr (.inr (n, f)) => n < 2 ^ 31 ∧ H[a]? = some (arrV (xa_cR G) n (fun j => va_rf ((f j).map (xa_ad G))))
theorem xa_at.kept {G : xa_G} {c : xa_C} {a : Nat} {H H1 : Heap} (h : xa_at G c a H) (hq : H1[a]? = H[a]?) : xa_at G c a H1 := by
  rcases c with ⟨ci, fs⟩ | ⟨n, f⟩ | ⟨n, f⟩
  · obtain ⟨r, h1, h2, h3⟩ := h
    exact ⟨r, h1, h2, h3.kept hq⟩
  · exact ⟨h.1, hq.trans h.2⟩
  · exact ⟨h.1, hq.trans h.2⟩
/-- the heap holds the abstract heap -/
def xa_R (G : xa_G) (h : xa_H) (H : Heap) : Prop :=
  2 ≤ h.2 ∧ H.size + 2 = xa_base G + h.2 ∧ (∀ q : Nat, q < xa_base G → H[q]? = (xa_h0 G)[q]?) ∧ (h.1 0 = xa_a (xa_L G) (xa_xs G) ∧ h.1 1 = xa_a 8 xa_wagf) ∧ ∀ k : Nat, 2 ≤ k → k < h.2 → xa_at G (h.1 k) (xa_base G + (k - 2)) H
/-- words of nest mates: fields, methods -/
def xa_nF : List (String × Nat × String × String × String × String) := [("CatThatTurns", 96, "CatThatTurns$Text", "length", "I", "CatThatTurns"), ("CatThatTurns$Reader", 32, "CatThatTurns$Text", "length", "I", "CatThatTurns"), ("CatThatTurns$Table", 41, "CatThatTurns$Body", "parts", "I", "CatThatTurns"), ("CatThatTurns$Trace", 75, "CatThatTurns$Body", "parts", "I", "CatThatTurns"), ("CatThatTurns", 124, "CatThatTurns$Body", "parts", "I", "CatThatTurns"), ("CatThatTurns$Shape", 37, "CatThatTurns$Body", "parts", "I", "CatThatTurns"), ("CatThatTurns$Loops", 24, "CatThatTurns$Body", "joints", "I", "CatThatTurns"), ("CatThatTurns$Table", 49, "CatThatTurns$Body", "joints", "I", "CatThatTurns"), ("CatThatTurns$Shape", 32, "CatThatTurns$Body", "joints", "I", "CatThatTurns"), ("CatThatTurns", 214, "CatThatTurns$Body", "joints", "I", "CatThatTurns"), ("CatThatTurns$Shape", 77, "CatThatTurns$Body", "stepsRound", "I", "CatThatTurns"), ("CatThatTurns", 144, "CatThatTurns$Body", "push", "I", "CatThatTurns"), ("CatThatTurns$Table", 117, "CatThatTurns$Body", "push", "I", "CatThatTurns"), ("CatThatTurns", 147, "CatThatTurns$Body", "right", "I", "CatThatTurns"), ("CatThatTurns$Search", 131, "CatThatTurns$Body", "right", "I", "CatThatTurns"), ("CatThatTurns$Trace", 90, "CatThatTurns$Sheet", "pictures", "I", "CatThatTurns"), ("CatThatTurns", 224, "CatThatTurns$Sheet", "pictures", "I", "CatThatTurns"), ("CatThatTurns", 192, "CatThatTurns$Trace", "shape", "LCatThatTurns$Shape;", "CatThatTurns"), ("CatThatTurns", 170, "CatThatTurns$Trace", "done", "I", "CatThatTurns"), ("CatThatTurns", 185, "CatThatTurns$Trace", "all", "Z", "CatThatTurns"), ("CatThatTurns$Search", 75, "CatThatTurns$Table", "shapes", "I", "CatThatTurns"), ("CatThatTurns$Body", 45, "CatThatTurns", "WAG_STEPS", "[I", "CatThatTurns")]
def xa_nM : List (String × Nat × MethodName × String) := [("CatThatTurns", 11, ⟨"CatThatTurns$Text", "<init>", "()V"⟩, "CatThatTurns"), ("CatThatTurns", 18, ⟨"CatThatTurns$Body", "<init>", "()V"⟩, "CatThatTurns"), ("CatThatTurns", 37, ⟨"CatThatTurns$Sheet", "<init>", "()V"⟩, "CatThatTurns"), ("CatThatTurns$Body", 37, ⟨"CatThatTurns", "isWithin", "(III)Z"⟩, "CatThatTurns"), ("CatThatTurns$Reader", 53, ⟨"CatThatTurns", "isWithin", "(III)Z"⟩, "CatThatTurns"), ("CatThatTurns$Body", 48, ⟨"CatThatTurns", "cut", "(II)I"⟩, "CatThatTurns"), ("CatThatTurns$Shape", 83, ⟨"CatThatTurns", "isWithin", "(III)Z"⟩, "CatThatTurns"), ("CatThatTurns$Shape", 63, ⟨"CatThatTurns", "cut", "(II)I"⟩, "CatThatTurns"), ("CatThatTurns$Trace", 83, ⟨"CatThatTurns", "cut", "(II)I"⟩, "CatThatTurns"), ("CatThatTurns$Table", 123, ⟨"CatThatTurns", "cut", "(II)I"⟩, "CatThatTurns"), ("CatThatTurns$Search", 52, ⟨"CatThatTurns", "isWithin", "(III)Z"⟩, "CatThatTurns"), ("CatThatTurns$Loops", 34, ⟨"CatThatTurns", "cut", "(II)I"⟩, "CatThatTurns"), ("CatThatTurns$Trace", 99, ⟨"CatThatTurns", "off", "(II)I"⟩, "CatThatTurns")]
/-- what the tables say, of a state -/
def xa_K (G : xa_G) (U : State) : Prop :=
  va_K (xa_D G) vwCl [(xa_cI G, .int), (xa_cR G, .object "CatThatTurns$Sheet")] U ∧ (∀ q ∈ xa_nF, va_Nw (.fieldLinkNest q.1 q.2.1 q.2.2.1 q.2.2.2.1 q.2.2.2.2.1 q.2.2.2.2.2) U) ∧ (∀ q ∈ xa_nM, va_Nw (.methodLinkNest q.1 q.2.1 q.2.2.1 q.2.2.2) U) ∧
  va_Z "CatThatTurns" "WAG_STEPS" "[I" (.ref (xa_wag G)) (fun q => xa_base G ≤ q) U (xa_h0 G) ∧ va_X (xa_scr G) (xa_L G) (fun j => Int32.ofInt (xa_xs G j)) U (xa_h0 G) ∧ va_X (xa_wag G) 8 (fun j => Int32.ofInt (xa_wagf j)) U (xa_h0 G) ∧ va_AO "CatThatTurns$Sheet" U ∧
  xa_scr G < xa_base G ∧ xa_wag G < xa_base G ∧ xa_L G < 2 ^ 31
theorem xa_K.warm {G : xa_G} {u U : State} (hW : u.WarmedH U.vm) (h : xa_K G u) : xa_K G U := by
  obtain ⟨h1, h2, h3, h4, h5, h6, h7, h8⟩ := h
  exact ⟨va_K.moved hW.alike h1, fun q hq => va_Nw.warmF hW (h2 q hq), fun q hq => va_Nw.warmM hW (h3 q hq), va_Z.moved hW.alike h4, va_X.moved hW.alike h5, va_X.moved hW.alike h6, va_AO.moved hW.alike h7, h8⟩
theorem xa_K.same {G : xa_G} {u U : State} (hv : u.vm = U.vm) (h : xa_K G u) : xa_K G U := by
  obtain ⟨h1, h2, h3, h4, h5, h6, h7, h8⟩ := h
  have hal : u.vm.Alike U.vm := by rw [hv]; exact Vm.Alike.refl _
  exact ⟨va_K.moved hal h1, fun q hq => va_Nw.same rfl hv (h2 q hq), fun q hq => va_Nw.same rfl hv (h3 q hq), va_Z.moved hal h4, va_X.moved hal h5, va_X.moved hal h6, va_AO.moved hal h7, h8⟩
/-- the words of the tables that go along into a call -/
def xa_gw : List Cond := lw_tbl.filter goodWord
theorem xa_gw_mem {w : Cond} (i : Nat) (hi : lw_tbl[i]? = some w) (hg : goodWord w = true) : w ∈ xa_gw := List.mem_filter.mpr ⟨List.mem_of_getElem? hi, hg⟩
/-- a method: its name, code, locals, what it returns, how deep it calls, how many arguments (the receiver apart) -/
abbrev xa_Y : Type := MethodName × ByteArray × Nat × Option FieldType × Nat × Nat
abbrev xa_yn (Y : xa_Y) : MethodName := Y.1
abbrev xa_yc (Y : xa_Y) : ByteArray := Y.2.1
abbrev xa_yl (Y : xa_Y) : Nat := Y.2.2.1
abbrev xa_yr (Y : xa_Y) : Option FieldType := Y.2.2.2.1
abbrev xa_yd (Y : xa_Y) : Nat := Y.2.2.2.2.1
abbrev xa_yp (Y : xa_Y) : Nat := Y.2.2.2.2.2
abbrev xa_free (G : xa_G) : Addr → Prop := fun q => xa_base G ≤ q
def xa_Pc (G : xa_G) (as : List xa_V) (h : xa_H) : Array Value → State → Prop := fun a U => a = (as.map (xa_val G)).toArray ∧ xa_R G h U.heap ∧ xa_K G U
abbrev xa_Po : Type := Option xa_V → xa_H → Prop
def xa_Qc (G : xa_G) (Q : xa_Po) : Array Value → State → Outcome → State → Prop := fun _ _ o t => ∃ (r : Option xa_V) (h : xa_H), o = .returned (r.map (xa_val G)) ∧ xa_R G h t.heap ∧ Q r h
abbrev xa_ws (Y : xa_Y) : List Cond := .code (xa_yn Y) (xa_yc Y) (xa_yl Y) (xa_yr Y) :: xa_gw
abbrev xa_rm (Y : xa_Y) (mc ms : Nat) : Room := { frames := xa_yd Y, cells := mc, slots := ms, locals := 40 * xa_yd Y }
/-- A CONTRACT: called with these arguments over this heap, the method returns, and Q says what and over which heap; at most mc cells of ms slots are new -/
def xa_M (G : xa_G) (Y : xa_Y) (as : List xa_V) (h : xa_H) (mc ms : Nat) (Q : xa_Po) : Prop :=
  ∀ l : Launch, Met l (xa_yn Y) (xa_ws Y) (xa_rm Y mc ms) (xa_Pc G as h) (xa_Qc G Q) mc ms (xa_free G)
theorem xa_blind (G : xa_G) (as : List xa_V) (h : xa_H) : FrameBlind (xa_Pc G as h) := fun a U g mk hp => ⟨hp.1, hp.2.1, hp.2.2.same rfl⟩
/-- what holds all along a method's body -/
def xa_B (G : xa_G) (Y : xa_Y) (p : Program) (s : State) (m : MethodId) (args : Array Value) (meth : Method) (c : Code) : Prop :=
  p.tables.exec = Jvm.exec ∧ c.code = xa_yc Y ∧ meth.sig.returnType = xa_yr Y ∧ c.maxLocals = xa_yl Y ∧ s.vm.findClass (xa_yn Y).cls = some m.cls ∧ (∀ w ∈ xa_gw, w.before args s = true) ∧ meth.locks = false ∧ (((xa_yn Y).name = "<init>") → meth.name = "<init>") ∧ xa_K G s
/-- the locals -/
abbrev xa_Ls : Type := List (Option xa_V)
def xa_lv (G : xa_G) (ls : xa_Ls) : List (Nat × Value) := (List.range ls.length).filterMap (fun i => (ls[i]?.join).map (fun v => (i, xa_val G v)))
theorem xa_lv_mem {G : xa_G} {ls : xa_Ls} {i : Nat} {v : xa_V} (h : ls[i]? = some (some v)) : (i, xa_val G v) ∈ xa_lv G ls := by
  refine List.mem_filterMap.mpr ⟨i, List.mem_range.mpr (List.getElem?_eq_some_iff.mp h).1, ?_⟩
  rw [h]
  rfl
theorem xa_mem_lv {G : xa_G} {ls : xa_Ls} {q : Nat × Value} (h : q ∈ xa_lv G ls) : ∃ v, ls[q.1]? = some (some v) ∧ q.2 = xa_val G v := by
  obtain ⟨i, hi, hq⟩ := List.mem_filterMap.mp h
  cases hl : ls[i]? with
  | none => rw [hl] at hq; simp at hq
  | some o =>
    cases o with
    | none => rw [hl] at hq; simp at hq
    | some v =>
      rw [hl] at hq
      simp at hq
      subst hq
      exact ⟨v, hl, rfl⟩
/-- A GOAL: what is to be reached, out of frames below, arguments, start, cells and slots -/
abbrev xa_Zt : Type := List Frame → Array Value → State → Nat → Nat → State → Prop
def xa_Z (G : xa_G) (Q : xa_Po) : xa_Zt := fun below a s k n => MQ below (xa_Qc G Q) a s k n (xa_free G)
/-- THE JUDGEMENT: from place pc, with these locals, this stack, this heap, the method comes to its goal; at most mc further cells of ms slots -/
def xa_W (G : xa_G) (Y : xa_Y) (Z : xa_Zt) (pc : Nat) (ls : xa_Ls) (st : List xa_V) (h : xa_H) (mc ms : Nat) : Prop :=
  ∀ (p : Program) (l : Launch) (e : Env) (s : State) (m : MethodId) (args : Array Value) (below : List Frame) (meth : Method) (c : Code), xa_B G Y p s m args meth c →
  ∀ (R : Room) (H : Heap) (locs : List Loc) (lsC : Array Slot) (cells slots : Nat), xa_yd Y ≤ R.frames → 40 * xa_yd Y ≤ R.locals → cells + mc ≤ R.cells → slots + ms ≤ R.slots →
  xa_R G h H → lv_has lsC (xa_yl Y) (xa_lv G ls) → (∀ q ∈ locs, xa_free G q.base) →
  W p l e R s m args below meth c H locs cells slots (Z below args s (cells + mc) (slots + ms)) (F0 m pc lsC (st.map (xa_val G)))
