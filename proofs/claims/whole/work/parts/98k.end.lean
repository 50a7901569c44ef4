/-! The law's end -/
def lwQ1 : xa_Po := fun r _ => r = some (xa_i 1)
theorem lw_end {G : xa_G} (i : Nat) (h : xa_H) (mc ms : Nat) : xa_W G mL_law (xa_Z G lwQ1) 997 [some (xa_r 0), some (xa_r 2), some (xa_r 74), some (xa_i ((i : Nat) : Int))] [] h mc ms := by
  refine xa_iconst (pc := 997) dL_law_997 ?_
  exact xa_ireturn (pc := 998) dL_law_998 rfl (Or.inr rfl) rfl
/-- the law, from its first place, over a first heap -/
theorem lw_all {G : xa_G} {h : xa_H} (hn : h.2 = 2) (hW : h.1 1 = xa_a 8 xa_wagf) (hL : xa_L G ≤ 2560) (hxs : ∀ j, xa_ok (xa_xs G j)) : xa_W G mL_law (xa_Z G lwQ1) 0 [some (xa_r 0), none, none, none] [] h 1089 4171573 := lw_begin rfl hn hW hL hxs lw_end
/-- what is written in new cells alone is not written in old ones -/
theorem framed_drop {s t : State} {o : Outcome} {L : List Loc} {k n k' n' : Nat} (h : FrameEnd s o t L k n) (hf : ∀ q ∈ L, s.heap.size ≤ q.base) (hk : k ≤ k') (hn : n ≤ n') : Framed s o t [] k' n' := by
  obtain ⟨h1, h2, a1, a2, a3, a4, a5, a6⟩ := h
  refine ⟨h1, h2, a1, a2, Nat.le_trans a3 (Nat.add_le_add_left hk _), a4, Nat.le_trans a5 hn, fun a c hc => ?_⟩
  obtain ⟨c', b1, b2, b3, b4⟩ := a6 a c hc
  refine ⟨c', b1, b2, b3, fun i _ => b4 i (fun hm => ?_)⟩
  have h3 : s.heap.size ≤ a := hf _ hm
  exact absurd h3 (Nat.not_le.mpr (Array.getElem?_eq_some_iff.mp hc).1)
