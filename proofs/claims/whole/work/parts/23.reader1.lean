/-! Reader.readsNumber -/
def xRd (h : xa_H) (k kt kb : Nat) (nu : Nat → Int) (p : Nat) : Prop := h.1 k = xa_o 2 [xa_r kt, xa_r kb, xa_r (k + 1), xa_i ((p : Nat) : Int)] ∧ h.1 (k + 1) = xa_a 3 nu ∧ 2 ≤ k ∧ k + 1 < h.2
def sp_isd (n : Nat) (f : Nat → Int) (j : Nat) : Prop := 48 ≤ sp_at n f ((j : Nat) : Int) ∧ sp_at n f ((j : Nat) : Int) ≤ 57
def sp_val (n : Nat) (f : Nat → Int) (a : Nat) : Nat → Int
  | 0 => 0
  | m + 1 => 10 * sp_val n f a m + sp_at n f ((a + m : Nat) : Int) - 48
def sp_neg (n : Nat) (f : Nat → Int) (p : Nat) : Nat := if sp_at n f ((p : Nat) : Int) = 45 then 1 else 0
theorem sp_at_b {n : Nat} {f : Nat → Int} (hf : ∀ i, 0 ≤ f i ∧ f i ≤ 255) (i : Int) : -1 ≤ sp_at n f i ∧ sp_at n f i ≤ 255 := by
  unfold sp_at
  split
  · have := hf i.toNat
    omega
  · omega
theorem sp_val_p (n : Nat) (f : Nat → Int) (a : Nat) : ∀ m : Nat, (∀ j, j < m → sp_isd n f (a + j)) → 0 ≤ sp_val n f a m ∧ sp_val n f a m < 10 ^ m
  | 0, _ => by simp [sp_val]
  | m + 1, h => by
    obtain ⟨h1, h2⟩ := sp_val_p n f a m (fun j hj => h j (by omega))
    obtain ⟨h3, h4⟩ := h m (by omega)
    rw [Int.pow_succ]
    show 0 ≤ 10 * sp_val n f a m + sp_at n f ((a + m : Nat) : Int) - 48 ∧ 10 * sp_val n f a m + sp_at n f ((a + m : Nat) : Int) - 48 < 10 ^ m * 10
    omega
theorem sp_val_b {n : Nat} {f : Nat → Int} {a m : Nat} (hm : m ≤ 4) (h : ∀ j, j < m → sp_isd n f (a + j)) : 0 ≤ sp_val n f a m ∧ sp_val n f a m ≤ 9999 := by
  obtain ⟨h1, h2⟩ := sp_val_p n f a m h
  have e : m = 0 ∨ m = 1 ∨ m = 2 ∨ m = 3 ∨ m = 4 := by omega
  rcases e with rfl | rfl | rfl | rfl | rfl <;> simp at h2 <;> omega

theorem c_readsNumber_loop {G : xa_G} {h0 : xa_H} {k kt kb n a i : Nat} {f nu : Nat → Int} {L : Int} (hk : 2 ≤ k) (hTk : 2 ≤ kt) (hkt : kt + 2 ≤ k) (hT9 : n ≤ 120) (hTb : ∀ i, 0 ≤ f i ∧ f i ≤ 255) (ha : a ≤ 300) (hi : i ≤ 2) (hL : L = 0 ∨ L = 1) : ∀ (d : Nat) (m : Nat) (h : xa_H), 4 - m < d → (m ≤ 4) → (∀ j, j < m → sp_isd n f (a + j)) → (h.2 = h0.2) → (k + 1 < h.2) → (h.1 k = xa_o 2 [xa_r kt, xa_r kb, xa_r (k + 1), xa_i ((a + m : Nat) : Int)]) → (h.1 (k + 1) = xa_a 3 nu) → (h.1 kt = xa_o 7 [xa_r (kt + 1), xa_i ((n : Nat) : Int)]) → (h.1 (kt + 1) = xa_a 120 f) → (∀ i, (i < k ∨ k + 2 ≤ i) → h.1 i = h0.1 i) → xa_W G mX2_readsNumber (xa_Z G (fun r h' => ∃ m, m ≤ 4 ∧ (∀ j, j < m → sp_isd n f (a + j)) ∧ (m = 4 ∨ ¬ sp_isd n f (a + m)) ∧ (((m ≠ 0 ∧ ¬ (L = 1 ∧ sp_val n f a m = 0)) ∧ r = some (xa_i 1) ∧ xRd h' k kt kb (xa_upf nu i (if L = 1 then -sp_val n f a m else sp_val n f a m)) (a + m)) ∨ (¬ (m ≠ 0 ∧ ¬ (L = 1 ∧ sp_val n f a m = 0)) ∧ r = some (xa_i 0) ∧ xRd h' k kt kb nu (a + m))) ∧ h'.2 = h0.2 ∧ ∀ i, (i < k ∨ k + 2 ≤ i) → h'.1 i = h0.1 i)) 41 [some (xa_r k), some (xa_i ((i : Nat) : Int)), some (xa_i L), some (xa_i ((m : Nat) : Int)), some (xa_i (sp_val n f a m))] [] h 0 0 := by
  intro d
  induction d with
  | zero => intros; exfalso; omega
  | succ d ih =>
    intro m h hd hm hdig hn0 hkn hR0 hR1 hT0 hT1 fr0
    have hn : h.2 = h.2 := rfl
    have fr : ∀ i, (i < k ∨ k + 2 ≤ i) → h.1 i = h.1 i := fun _ _ => rfl
    have hvb := sp_val_b hm hdig
    refine xa_iload_n (pc := 41) dX2_readsNumber_41 rfl ?_
    refine xa_iconst (pc := 42) dX2_readsNumber_42 ?_
    refine xa_icmp_ge (pc := 43) (tgt := 105) dX2_readsNumber_43 (by decide) ⟨by omega, by omega⟩ (by decide) (fun c_43 => ?_) (fun c_43 => ?_)
    · skip
      refine xa_iload_n (pc := 105) dX2_readsNumber_105 rfl ?_
      refine xa_if_eq (pc := 106) (tgt := 131) dX2_readsNumber_106 (by decide) ⟨by omega, by omega⟩ (fun c_106 => ?_) (fun c_106 => ?_)
      · skip
        refine xa_iconst (pc := 131) dX2_readsNumber_131 ?_
        refine xa_ireturn (pc := 132) dX2_readsNumber_132 rfl (Or.inl rfl) ?_
        exact ⟨m, hm, hdig, by first | (left; omega) | exact Or.inr (fun z => absurd z c_64), Or.inr ⟨by omega, rfl, hR0, hR1, hk, by omega⟩, by omega, fun i hi => (fr i hi).trans (fr0 i hi)⟩
      · skip
        refine xa_iload_n (pc := 109) dX2_readsNumber_109 rfl ?_
        refine xa_if_eq (pc := 110) (tgt := 118) dX2_readsNumber_110 (by decide) ⟨by omega, by omega⟩ (fun c_110 => ?_) (fun c_110 => ?_)
        · skip
          refine xa_iload_n (pc := 118) dX2_readsNumber_118 rfl ?_
          refine xa_if_lt (pc := 119) (tgt := 131) dX2_readsNumber_119 (by decide) ⟨by omega, by omega⟩ (fun c_119 => ?_) (fun c_119 => ?_)
          · skip
            exfalso; omega
          · skip
            refine xa_iload_n (pc := 122) dX2_readsNumber_122 rfl ?_
            refine xa_aload_n (pc := 123) dX2_readsNumber_123 rfl ?_
            refine xa_getfield (pc := 124) dX2_readsNumber_124 flRX2_9 (by omega) (by omega) hR0 rfl ?_
            refine xa_alen (pc := 127) dX2_readsNumber_127 (by omega) hR1 ?_
            refine xa_top (y := 3) rfl ?_
            refine xa_icmp_lt (pc := 128) (tgt := 133) dX2_readsNumber_128 (by decide) ⟨by omega, by omega⟩ (by decide) (fun c_128 => ?_) (fun c_128 => ?_)
            · skip
              refine xa_aload_n (pc := 133) dX2_readsNumber_133 rfl ?_
              refine xa_getfield (pc := 134) dX2_readsNumber_134 flRX2_9 (by omega) (by omega) hR0 rfl ?_
              refine xa_iload_n (pc := 137) dX2_readsNumber_137 rfl ?_
              refine xa_iload_n (pc := 138) dX2_readsNumber_138 rfl ?_
              refine xa_if_eq (pc := 139) (tgt := 148) dX2_readsNumber_139 (by decide) ⟨by omega, by omega⟩ (fun c_139 => ?_) (fun c_139 => ?_)
              · skip
                refine xa_iload (pc := 148) dX2_readsNumber_148 rfl ?_
                refine xa_iastw (pc := 150) i dX2_readsNumber_150 (by omega) (by omega) hR1 (by omega) (by omega) (Int.toNat_natCast _) (fun h1 nh1 ch1 oh1 => ?_)
                have hR1 : h1.1 (k + 1) = xa_a 3 (xa_upf nu i (sp_val n f a m)) := ch1
                have hR0 : h1.1 k = xa_o 2 [xa_r kt, xa_r kb, xa_r (k + 1), xa_i ((a + m : Nat) : Int)] := (oh1 _ (by omega)).trans hR0
                have hT0 : h1.1 kt = xa_o 7 [xa_r (kt + 1), xa_i ((n : Nat) : Int)] := (oh1 _ (by omega)).trans hT0
                have hT1 : h1.1 (kt + 1) = xa_a 120 f := (oh1 _ (by omega)).trans hT1
                have hn : h1.2 = h.2 := nh1.trans hn
                have fr : ∀ i, (i < k ∨ k + 2 ≤ i) → h1.1 i = h.1 i := fun i hi => (oh1 i (by omega)).trans (fr i hi)
                refine xa_iconst (pc := 151) dX2_readsNumber_151 ?_
                refine xa_ireturn (pc := 152) dX2_readsNumber_152 rfl (Or.inr rfl) ?_
                have e : (if L = 1 then -sp_val n f a m else sp_val n f a m) = (sp_val n f a m) := by first | exact if_pos (by omega) | exact if_neg (by omega)
                rw [← e] at hR1
                exact ⟨m, hm, hdig, by first | (left; omega) | exact Or.inr (fun z => absurd z c_64), Or.inl ⟨by omega, rfl, hR0, hR1, hk, by omega⟩, by omega, fun i hi => (fr i hi).trans (fr0 i hi)⟩
              · skip
                refine xa_iload (pc := 142) dX2_readsNumber_142 rfl ?_
                refine xa_ineg (pc := 144) dX2_readsNumber_144 ?_
                refine xa_goto (pc := 145) (tgt := 150) dX2_readsNumber_145 (by decide) ?_
                refine xa_iastw (pc := 150) i dX2_readsNumber_150 (by omega) (by omega) hR1 (by omega) (by omega) (Int.toNat_natCast _) (fun h2 nh2 ch2 oh2 => ?_)
                have hR1 : h2.1 (k + 1) = xa_a 3 (xa_upf nu i (-(sp_val n f a m))) := ch2
                have hR0 : h2.1 k = xa_o 2 [xa_r kt, xa_r kb, xa_r (k + 1), xa_i ((a + m : Nat) : Int)] := (oh2 _ (by omega)).trans hR0
                have hT0 : h2.1 kt = xa_o 7 [xa_r (kt + 1), xa_i ((n : Nat) : Int)] := (oh2 _ (by omega)).trans hT0
                have hT1 : h2.1 (kt + 1) = xa_a 120 f := (oh2 _ (by omega)).trans hT1
                have hn : h2.2 = h.2 := nh2.trans hn
                have fr : ∀ i, (i < k ∨ k + 2 ≤ i) → h2.1 i = h.1 i := fun i hi => (oh2 i (by omega)).trans (fr i hi)
                refine xa_iconst (pc := 151) dX2_readsNumber_151 ?_
                refine xa_ireturn (pc := 152) dX2_readsNumber_152 rfl (Or.inr rfl) ?_
                have e : (if L = 1 then -sp_val n f a m else sp_val n f a m) = (-(sp_val n f a m)) := by first | exact if_pos (by omega) | exact if_neg (by omega)
                rw [← e] at hR1
                exact ⟨m, hm, hdig, by first | (left; omega) | exact Or.inr (fun z => absurd z c_64), Or.inl ⟨by omega, rfl, hR0, hR1, hk, by omega⟩, by omega, fun i hi => (fr i hi).trans (fr0 i hi)⟩
            · skip
              exfalso; omega
        · skip
          refine xa_iload (pc := 113) dX2_readsNumber_113 rfl ?_
          refine xa_if_eq (pc := 115) (tgt := 131) dX2_readsNumber_115 (by decide) ⟨by omega, by omega⟩ (fun c_115 => ?_) (fun c_115 => ?_)
          · skip
            refine xa_iconst (pc := 131) dX2_readsNumber_131 ?_
            refine xa_ireturn (pc := 132) dX2_readsNumber_132 rfl (Or.inl rfl) ?_
            exact ⟨m, hm, hdig, by first | (left; omega) | exact Or.inr (fun z => absurd z c_64), Or.inr ⟨by omega, rfl, hR0, hR1, hk, by omega⟩, by omega, fun i hi => (fr i hi).trans (fr0 i hi)⟩
          · skip
            refine xa_iload_n (pc := 118) dX2_readsNumber_118 rfl ?_
            refine xa_if_lt (pc := 119) (tgt := 131) dX2_readsNumber_119 (by decide) ⟨by omega, by omega⟩ (fun c_119 => ?_) (fun c_119 => ?_)
            · skip
              exfalso; omega
            · skip
              refine xa_iload_n (pc := 122) dX2_readsNumber_122 rfl ?_
              refine xa_aload_n (pc := 123) dX2_readsNumber_123 rfl ?_
              refine xa_getfield (pc := 124) dX2_readsNumber_124 flRX2_9 (by omega) (by omega) hR0 rfl ?_
              refine xa_alen (pc := 127) dX2_readsNumber_127 (by omega) hR1 ?_
              refine xa_top (y := 3) rfl ?_
              refine xa_icmp_lt (pc := 128) (tgt := 133) dX2_readsNumber_128 (by decide) ⟨by omega, by omega⟩ (by decide) (fun c_128 => ?_) (fun c_128 => ?_)
              · skip
                refine xa_aload_n (pc := 133) dX2_readsNumber_133 rfl ?_
                refine xa_getfield (pc := 134) dX2_readsNumber_134 flRX2_9 (by omega) (by omega) hR0 rfl ?_
                refine xa_iload_n (pc := 137) dX2_readsNumber_137 rfl ?_
                refine xa_iload_n (pc := 138) dX2_readsNumber_138 rfl ?_
                refine xa_if_eq (pc := 139) (tgt := 148) dX2_readsNumber_139 (by decide) ⟨by omega, by omega⟩ (fun c_139 => ?_) (fun c_139 => ?_)
                · skip
                  refine xa_iload (pc := 148) dX2_readsNumber_148 rfl ?_
                  refine xa_iastw (pc := 150) i dX2_readsNumber_150 (by omega) (by omega) hR1 (by omega) (by omega) (Int.toNat_natCast _) (fun h3 nh3 ch3 oh3 => ?_)
                  have hR1 : h3.1 (k + 1) = xa_a 3 (xa_upf nu i (sp_val n f a m)) := ch3
                  have hR0 : h3.1 k = xa_o 2 [xa_r kt, xa_r kb, xa_r (k + 1), xa_i ((a + m : Nat) : Int)] := (oh3 _ (by omega)).trans hR0
                  have hT0 : h3.1 kt = xa_o 7 [xa_r (kt + 1), xa_i ((n : Nat) : Int)] := (oh3 _ (by omega)).trans hT0
                  have hT1 : h3.1 (kt + 1) = xa_a 120 f := (oh3 _ (by omega)).trans hT1
                  have hn : h3.2 = h.2 := nh3.trans hn
                  have fr : ∀ i, (i < k ∨ k + 2 ≤ i) → h3.1 i = h.1 i := fun i hi => (oh3 i (by omega)).trans (fr i hi)
                  refine xa_iconst (pc := 151) dX2_readsNumber_151 ?_
                  refine xa_ireturn (pc := 152) dX2_readsNumber_152 rfl (Or.inr rfl) ?_
                  have e : (if L = 1 then -sp_val n f a m else sp_val n f a m) = (sp_val n f a m) := by first | exact if_pos (by omega) | exact if_neg (by omega)
                  rw [← e] at hR1
                  exact ⟨m, hm, hdig, by first | (left; omega) | exact Or.inr (fun z => absurd z c_64), Or.inl ⟨by omega, rfl, hR0, hR1, hk, by omega⟩, by omega, fun i hi => (fr i hi).trans (fr0 i hi)⟩
                · skip
                  refine xa_iload (pc := 142) dX2_readsNumber_142 rfl ?_
                  refine xa_ineg (pc := 144) dX2_readsNumber_144 ?_
                  refine xa_goto (pc := 145) (tgt := 150) dX2_readsNumber_145 (by decide) ?_
                  refine xa_iastw (pc := 150) i dX2_readsNumber_150 (by omega) (by omega) hR1 (by omega) (by omega) (Int.toNat_natCast _) (fun h4 nh4 ch4 oh4 => ?_)
                  have hR1 : h4.1 (k + 1) = xa_a 3 (xa_upf nu i (-(sp_val n f a m))) := ch4
                  have hR0 : h4.1 k = xa_o 2 [xa_r kt, xa_r kb, xa_r (k + 1), xa_i ((a + m : Nat) : Int)] := (oh4 _ (by omega)).trans hR0
                  have hT0 : h4.1 kt = xa_o 7 [xa_r (kt + 1), xa_i ((n : Nat) : Int)] := (oh4 _ (by omega)).trans hT0
                  have hT1 : h4.1 (kt + 1) = xa_a 120 f := (oh4 _ (by omega)).trans hT1
                  have hn : h4.2 = h.2 := nh4.trans hn
                  have fr : ∀ i, (i < k ∨ k + 2 ≤ i) → h4.1 i = h.1 i := fun i hi => (oh4 i (by omega)).trans (fr i hi)
                  refine xa_iconst (pc := 151) dX2_readsNumber_151 ?_
                  refine xa_ireturn (pc := 152) dX2_readsNumber_152 rfl (Or.inr rfl) ?_
                  have e : (if L = 1 then -sp_val n f a m else sp_val n f a m) = (-(sp_val n f a m)) := by first | exact if_pos (by omega) | exact if_neg (by omega)
                  rw [← e] at hR1
                  exact ⟨m, hm, hdig, by first | (left; omega) | exact Or.inr (fun z => absurd z c_64), Or.inl ⟨by omega, rfl, hR0, hR1, hk, by omega⟩, by omega, fun i hi => (fr i hi).trans (fr0 i hi)⟩
              · skip
                exfalso; omega
    · skip
      refine xa_aload_n (pc := 46) dX2_readsNumber_46 rfl ?_
      refine xa_getfield (pc := 47) dX2_readsNumber_47 flRX2_15 (by omega) (by omega) hR0 rfl ?_
      refine xa_aload_n (pc := 50) dX2_readsNumber_50 rfl ?_
      refine xa_getfield (pc := 51) dX2_readsNumber_51 flRX2_28 (by omega) (by omega) hR0 rfl ?_
      refine xa_callV (pc := 54) (as := [xa_i ((a + m : Nat) : Int)]) (rest := []) dX2_readsNumber_54 ⟨qX7_byteAt.1, qX7_byteAt.2.1, qX7_byteAt.2.2, by decide, by decide⟩ lkRX2_41 imX7_byteAt seX7_byteAt rfl rfl (by omega) (by omega) hT0 rfl (Nat.le_of_ble_eq_true rfl) (Nat.zero_le _) (Nat.zero_le _) (c_byteAt _ _ _ _ ⟨by omega, by omega⟩ ⟨hT0, hT1, hTk, by omega, hT9, hTb⟩) (fun r h' hq => ?_)
      obtain ⟨rfl, hq⟩ := hq
      have hq := hq.symm
      subst hq
      have ba_54 := sp_at_b (n := n) hTb ((a + m : Nat) : Int)
      refine xa_bipush (pc := 57) dX2_readsNumber_57 rfl ?_
      refine xa_bipush (pc := 59) dX2_readsNumber_59 rfl ?_
      refine xa_callS (pc := 61) (as := [xa_i (sp_at n f ((a + m : Nat) : Int)), xa_i 48, xa_i 57]) (rest := []) dX2_readsNumber_61 ⟨qX9_isWithin.1, qX9_isWithin.2.1, qX9_isWithin.2.2, by decide, by decide⟩ lkRX2_53 smX9_isWithin rfl rfl (Nat.le_of_ble_eq_true rfl) (Nat.zero_le _) (Nat.zero_le _) (c_isWithin _ _ _ ⟨by omega, by omega⟩ (by decide) (by decide)) (fun r h' hq => ?_)
      obtain ⟨rfl, hq⟩ := hq
      have hq := hq.symm
      subst hq
      refine xa_if_eq (pc := 64) (tgt := 105) dX2_readsNumber_64 (by decide) xa_okb (fun c_64 => ?_) (fun c_64 => ?_)
      · have c_64 := xa_b0.mp c_64
        refine xa_iload_n (pc := 105) dX2_readsNumber_105 rfl ?_
        refine xa_if_eq (pc := 106) (tgt := 131) dX2_readsNumber_106 (by decide) ⟨by omega, by omega⟩ (fun c_106 => ?_) (fun c_106 => ?_)
        · skip
          refine xa_iconst (pc := 131) dX2_readsNumber_131 ?_
          refine xa_ireturn (pc := 132) dX2_readsNumber_132 rfl (Or.inl rfl) ?_
          exact ⟨m, hm, hdig, by first | (left; omega) | exact Or.inr (fun z => absurd z c_64), Or.inr ⟨by omega, rfl, hR0, hR1, hk, by omega⟩, by omega, fun i hi => (fr i hi).trans (fr0 i hi)⟩
        · skip
          refine xa_iload_n (pc := 109) dX2_readsNumber_109 rfl ?_
          refine xa_if_eq (pc := 110) (tgt := 118) dX2_readsNumber_110 (by decide) ⟨by omega, by omega⟩ (fun c_110 => ?_) (fun c_110 => ?_)
          · skip
            refine xa_iload_n (pc := 118) dX2_readsNumber_118 rfl ?_
            refine xa_if_lt (pc := 119) (tgt := 131) dX2_readsNumber_119 (by decide) ⟨by omega, by omega⟩ (fun c_119 => ?_) (fun c_119 => ?_)
            · skip
              exfalso; omega
            · skip
              refine xa_iload_n (pc := 122) dX2_readsNumber_122 rfl ?_
              refine xa_aload_n (pc := 123) dX2_readsNumber_123 rfl ?_
              refine xa_getfield (pc := 124) dX2_readsNumber_124 flRX2_9 (by omega) (by omega) hR0 rfl ?_
              refine xa_alen (pc := 127) dX2_readsNumber_127 (by omega) hR1 ?_
              refine xa_top (y := 3) rfl ?_
              refine xa_icmp_lt (pc := 128) (tgt := 133) dX2_readsNumber_128 (by decide) ⟨by omega, by omega⟩ (by decide) (fun c_128 => ?_) (fun c_128 => ?_)
              · skip
                refine xa_aload_n (pc := 133) dX2_readsNumber_133 rfl ?_
                refine xa_getfield (pc := 134) dX2_readsNumber_134 flRX2_9 (by omega) (by omega) hR0 rfl ?_
                refine xa_iload_n (pc := 137) dX2_readsNumber_137 rfl ?_
                refine xa_iload_n (pc := 138) dX2_readsNumber_138 rfl ?_
                refine xa_if_eq (pc := 139) (tgt := 148) dX2_readsNumber_139 (by decide) ⟨by omega, by omega⟩ (fun c_139 => ?_) (fun c_139 => ?_)
                · skip
                  refine xa_iload (pc := 148) dX2_readsNumber_148 rfl ?_
                  refine xa_iastw (pc := 150) i dX2_readsNumber_150 (by omega) (by omega) hR1 (by omega) (by omega) (Int.toNat_natCast _) (fun h5 nh5 ch5 oh5 => ?_)
                  have hR1 : h5.1 (k + 1) = xa_a 3 (xa_upf nu i (sp_val n f a m)) := ch5
                  have hR0 : h5.1 k = xa_o 2 [xa_r kt, xa_r kb, xa_r (k + 1), xa_i ((a + m : Nat) : Int)] := (oh5 _ (by omega)).trans hR0
                  have hT0 : h5.1 kt = xa_o 7 [xa_r (kt + 1), xa_i ((n : Nat) : Int)] := (oh5 _ (by omega)).trans hT0
                  have hT1 : h5.1 (kt + 1) = xa_a 120 f := (oh5 _ (by omega)).trans hT1
                  have hn : h5.2 = h.2 := nh5.trans hn
                  have fr : ∀ i, (i < k ∨ k + 2 ≤ i) → h5.1 i = h.1 i := fun i hi => (oh5 i (by omega)).trans (fr i hi)
                  refine xa_iconst (pc := 151) dX2_readsNumber_151 ?_
                  refine xa_ireturn (pc := 152) dX2_readsNumber_152 rfl (Or.inr rfl) ?_
                  have e : (if L = 1 then -sp_val n f a m else sp_val n f a m) = (sp_val n f a m) := by first | exact if_pos (by omega) | exact if_neg (by omega)
                  rw [← e] at hR1
                  exact ⟨m, hm, hdig, by first | (left; omega) | exact Or.inr (fun z => absurd z c_64), Or.inl ⟨by omega, rfl, hR0, hR1, hk, by omega⟩, by omega, fun i hi => (fr i hi).trans (fr0 i hi)⟩
                · skip
                  refine xa_iload (pc := 142) dX2_readsNumber_142 rfl ?_
                  refine xa_ineg (pc := 144) dX2_readsNumber_144 ?_
                  refine xa_goto (pc := 145) (tgt := 150) dX2_readsNumber_145 (by decide) ?_
                  refine xa_iastw (pc := 150) i dX2_readsNumber_150 (by omega) (by omega) hR1 (by omega) (by omega) (Int.toNat_natCast _) (fun h6 nh6 ch6 oh6 => ?_)
                  have hR1 : h6.1 (k + 1) = xa_a 3 (xa_upf nu i (-(sp_val n f a m))) := ch6
                  have hR0 : h6.1 k = xa_o 2 [xa_r kt, xa_r kb, xa_r (k + 1), xa_i ((a + m : Nat) : Int)] := (oh6 _ (by omega)).trans hR0
                  have hT0 : h6.1 kt = xa_o 7 [xa_r (kt + 1), xa_i ((n : Nat) : Int)] := (oh6 _ (by omega)).trans hT0
                  have hT1 : h6.1 (kt + 1) = xa_a 120 f := (oh6 _ (by omega)).trans hT1
                  have hn : h6.2 = h.2 := nh6.trans hn
                  have fr : ∀ i, (i < k ∨ k + 2 ≤ i) → h6.1 i = h.1 i := fun i hi => (oh6 i (by omega)).trans (fr i hi)
                  refine xa_iconst (pc := 151) dX2_readsNumber_151 ?_
                  refine xa_ireturn (pc := 152) dX2_readsNumber_152 rfl (Or.inr rfl) ?_
                  have e : (if L = 1 then -sp_val n f a m else sp_val n f a m) = (-(sp_val n f a m)) := by first | exact if_pos (by omega) | exact if_neg (by omega)
                  rw [← e] at hR1
                  exact ⟨m, hm, hdig, by first | (left; omega) | exact Or.inr (fun z => absurd z c_64), Or.inl ⟨by omega, rfl, hR0, hR1, hk, by omega⟩, by omega, fun i hi => (fr i hi).trans (fr0 i hi)⟩
              · skip
                exfalso; omega
          · skip
            refine xa_iload (pc := 113) dX2_readsNumber_113 rfl ?_
            refine xa_if_eq (pc := 115) (tgt := 131) dX2_readsNumber_115 (by decide) ⟨by omega, by omega⟩ (fun c_115 => ?_) (fun c_115 => ?_)
            · skip
              refine xa_iconst (pc := 131) dX2_readsNumber_131 ?_
              refine xa_ireturn (pc := 132) dX2_readsNumber_132 rfl (Or.inl rfl) ?_
              exact ⟨m, hm, hdig, by first | (left; omega) | exact Or.inr (fun z => absurd z c_64), Or.inr ⟨by omega, rfl, hR0, hR1, hk, by omega⟩, by omega, fun i hi => (fr i hi).trans (fr0 i hi)⟩
            · skip
              refine xa_iload_n (pc := 118) dX2_readsNumber_118 rfl ?_
              refine xa_if_lt (pc := 119) (tgt := 131) dX2_readsNumber_119 (by decide) ⟨by omega, by omega⟩ (fun c_119 => ?_) (fun c_119 => ?_)
              · skip
                exfalso; omega
              · skip
                refine xa_iload_n (pc := 122) dX2_readsNumber_122 rfl ?_
                refine xa_aload_n (pc := 123) dX2_readsNumber_123 rfl ?_
                refine xa_getfield (pc := 124) dX2_readsNumber_124 flRX2_9 (by omega) (by omega) hR0 rfl ?_
                refine xa_alen (pc := 127) dX2_readsNumber_127 (by omega) hR1 ?_
                refine xa_top (y := 3) rfl ?_
                refine xa_icmp_lt (pc := 128) (tgt := 133) dX2_readsNumber_128 (by decide) ⟨by omega, by omega⟩ (by decide) (fun c_128 => ?_) (fun c_128 => ?_)
                · skip
                  refine xa_aload_n (pc := 133) dX2_readsNumber_133 rfl ?_
                  refine xa_getfield (pc := 134) dX2_readsNumber_134 flRX2_9 (by omega) (by omega) hR0 rfl ?_
                  refine xa_iload_n (pc := 137) dX2_readsNumber_137 rfl ?_
                  refine xa_iload_n (pc := 138) dX2_readsNumber_138 rfl ?_
                  refine xa_if_eq (pc := 139) (tgt := 148) dX2_readsNumber_139 (by decide) ⟨by omega, by omega⟩ (fun c_139 => ?_) (fun c_139 => ?_)
                  · skip
                    refine xa_iload (pc := 148) dX2_readsNumber_148 rfl ?_
                    refine xa_iastw (pc := 150) i dX2_readsNumber_150 (by omega) (by omega) hR1 (by omega) (by omega) (Int.toNat_natCast _) (fun h7 nh7 ch7 oh7 => ?_)
                    have hR1 : h7.1 (k + 1) = xa_a 3 (xa_upf nu i (sp_val n f a m)) := ch7
                    have hR0 : h7.1 k = xa_o 2 [xa_r kt, xa_r kb, xa_r (k + 1), xa_i ((a + m : Nat) : Int)] := (oh7 _ (by omega)).trans hR0
                    have hT0 : h7.1 kt = xa_o 7 [xa_r (kt + 1), xa_i ((n : Nat) : Int)] := (oh7 _ (by omega)).trans hT0
                    have hT1 : h7.1 (kt + 1) = xa_a 120 f := (oh7 _ (by omega)).trans hT1
                    have hn : h7.2 = h.2 := nh7.trans hn
                    have fr : ∀ i, (i < k ∨ k + 2 ≤ i) → h7.1 i = h.1 i := fun i hi => (oh7 i (by omega)).trans (fr i hi)
                    refine xa_iconst (pc := 151) dX2_readsNumber_151 ?_
                    refine xa_ireturn (pc := 152) dX2_readsNumber_152 rfl (Or.inr rfl) ?_
                    have e : (if L = 1 then -sp_val n f a m else sp_val n f a m) = (sp_val n f a m) := by first | exact if_pos (by omega) | exact if_neg (by omega)
                    rw [← e] at hR1
                    exact ⟨m, hm, hdig, by first | (left; omega) | exact Or.inr (fun z => absurd z c_64), Or.inl ⟨by omega, rfl, hR0, hR1, hk, by omega⟩, by omega, fun i hi => (fr i hi).trans (fr0 i hi)⟩
                  · skip
                    refine xa_iload (pc := 142) dX2_readsNumber_142 rfl ?_
                    refine xa_ineg (pc := 144) dX2_readsNumber_144 ?_
                    refine xa_goto (pc := 145) (tgt := 150) dX2_readsNumber_145 (by decide) ?_
                    refine xa_iastw (pc := 150) i dX2_readsNumber_150 (by omega) (by omega) hR1 (by omega) (by omega) (Int.toNat_natCast _) (fun h8 nh8 ch8 oh8 => ?_)
                    have hR1 : h8.1 (k + 1) = xa_a 3 (xa_upf nu i (-(sp_val n f a m))) := ch8
                    have hR0 : h8.1 k = xa_o 2 [xa_r kt, xa_r kb, xa_r (k + 1), xa_i ((a + m : Nat) : Int)] := (oh8 _ (by omega)).trans hR0
                    have hT0 : h8.1 kt = xa_o 7 [xa_r (kt + 1), xa_i ((n : Nat) : Int)] := (oh8 _ (by omega)).trans hT0
                    have hT1 : h8.1 (kt + 1) = xa_a 120 f := (oh8 _ (by omega)).trans hT1
                    have hn : h8.2 = h.2 := nh8.trans hn
                    have fr : ∀ i, (i < k ∨ k + 2 ≤ i) → h8.1 i = h.1 i := fun i hi => (oh8 i (by omega)).trans (fr i hi)
                    refine xa_iconst (pc := 151) dX2_readsNumber_151 ?_
                    refine xa_ireturn (pc := 152) dX2_readsNumber_152 rfl (Or.inr rfl) ?_
                    have e : (if L = 1 then -sp_val n f a m else sp_val n f a m) = (-(sp_val n f a m)) := by first | exact if_pos (by omega) | exact if_neg (by omega)
                    rw [← e] at hR1
                    exact ⟨m, hm, hdig, by first | (left; omega) | exact Or.inr (fun z => absurd z c_64), Or.inl ⟨by omega, rfl, hR0, hR1, hk, by omega⟩, by omega, fun i hi => (fr i hi).trans (fr0 i hi)⟩
                · skip
                  exfalso; omega
      · have c_64 := xa_b1.mp c_64
        refine xa_bipush (pc := 67) dX2_readsNumber_67 rfl ?_
        refine xa_iload (pc := 69) dX2_readsNumber_69 rfl ?_
        refine xa_imul (pc := 71) dX2_readsNumber_71 ?_
        refine xa_aload_n (pc := 72) dX2_readsNumber_72 rfl ?_
        refine xa_getfield (pc := 73) dX2_readsNumber_73 flRX2_15 (by omega) (by omega) hR0 rfl ?_
        refine xa_aload_n (pc := 76) dX2_readsNumber_76 rfl ?_
        refine xa_getfield (pc := 77) dX2_readsNumber_77 flRX2_28 (by omega) (by omega) hR0 rfl ?_
        refine xa_callV (pc := 80) (as := [xa_i ((a + m : Nat) : Int)]) (rest := [xa_i (10 * (sp_val n f a m))]) dX2_readsNumber_80 ⟨qX7_byteAt.1, qX7_byteAt.2.1, qX7_byteAt.2.2, by decide, by decide⟩ lkRX2_41 imX7_byteAt seX7_byteAt rfl rfl (by omega) (by omega) hT0 rfl (Nat.le_of_ble_eq_true rfl) (Nat.zero_le _) (Nat.zero_le _) (c_byteAt _ _ _ _ ⟨by omega, by omega⟩ ⟨hT0, hT1, hTk, by omega, hT9, hTb⟩) (fun r h' hq => ?_)
        obtain ⟨rfl, hq⟩ := hq
        have hq := hq.symm
        subst hq
        have ba_80 := sp_at_b (n := n) hTb ((a + m : Nat) : Int)
        refine xa_iadd (pc := 83) dX2_readsNumber_83 ?_
        refine xa_bipush (pc := 84) dX2_readsNumber_84 rfl ?_
        refine xa_isub (pc := 86) dX2_readsNumber_86 ?_
        refine xa_istorew (pc := 87) [some (xa_r k), some (xa_i ((i : Nat) : Int)), some (xa_i L), some (xa_i ((m : Nat) : Int)), some (xa_i (((10 * (sp_val n f a m)) + (sp_at n f ((a + m : Nat) : Int))) - 48))] dX2_readsNumber_87 (by decide) (Nat.le_of_ble_eq_true rfl) rfl rfl ?_
        refine xa_iincw (pc := 89) (y := ((m + 1 : Nat) : Int)) [some (xa_r k), some (xa_i ((i : Nat) : Int)), some (xa_i L), some (xa_i ((m + 1 : Nat) : Int)), some (xa_i (((10 * (sp_val n f a m)) + (sp_at n f ((a + m : Nat) : Int))) - 48))] dX2_readsNumber_89 (by decide) rfl rfl (by omega) rfl ?_
        refine xa_aload_n (pc := 92) dX2_readsNumber_92 rfl ?_
        refine xa_dup (pc := 93) dX2_readsNumber_93 rfl ?_
        refine xa_getfield (pc := 94) dX2_readsNumber_94 flRX2_28 (by omega) (by omega) hR0 rfl ?_
        refine xa_iconst (pc := 97) dX2_readsNumber_97 ?_
        refine xa_iadd (pc := 98) dX2_readsNumber_98 ?_
        refine xa_top (y := ((a + (m + 1) : Nat) : Int)) (by omega) ?_
        refine xa_putw (pc := 99) [xa_r kt, xa_r kb, xa_r (k + 1), xa_i ((a + (m + 1) : Nat) : Int)] dX2_readsNumber_99 flRX2_28 plX2_3 (by omega) (by omega) hR0 trivial rfl (fun h9 nh9 ch9 oh9 => ?_)
        have hR0 : h9.1 k = xa_o 2 [xa_r kt, xa_r kb, xa_r (k + 1), xa_i ((a + (m + 1) : Nat) : Int)] := ch9
        have hR1 : h9.1 (k + 1) = xa_a 3 nu := (oh9 _ (by omega)).trans hR1
        have hT0 : h9.1 kt = xa_o 7 [xa_r (kt + 1), xa_i ((n : Nat) : Int)] := (oh9 _ (by omega)).trans hT0
        have hT1 : h9.1 (kt + 1) = xa_a 120 f := (oh9 _ (by omega)).trans hT1
        have hn : h9.2 = h.2 := nh9.trans hn
        have fr : ∀ i, (i < k ∨ k + 2 ≤ i) → h9.1 i = h.1 i := fun i hi => (oh9 i (by omega)).trans (fr i hi)
        refine xa_goto (pc := 102) (tgt := 41) dX2_readsNumber_102 (by decide) ?_
        exact ih (m + 1) _ (by omega) (by omega) (fun j hj => by by_cases e : j = m; subst e; exact c_64; exact hdig j (by omega)) (by omega) (by omega) hR0 hR1 hT0 hT1 (fun i hi => (fr i hi).trans (fr0 i hi))
theorem c_readsNumber {G : xa_G} {h : xa_H} (k kt kb n p i : Nat) (f nu : Nat → Int) (hp : p ≤ 200) (hi : i ≤ 2) (hkt : kt + 2 ≤ k) (hR : xRd h k kt kb nu p) (hT : xT h kt n f)  : xa_M G mX2_readsNumber [xa_r k, xa_i ((i : Nat) : Int)] h 0 0 (fun r h' => ∃ m, m ≤ 4 ∧ (∀ j, j < m → sp_isd n f (p + sp_neg n f p + j)) ∧ (m = 4 ∨ ¬ sp_isd n f (p + sp_neg n f p + m)) ∧ (((m ≠ 0 ∧ ¬ (((sp_neg n f p : Nat) : Int) = 1 ∧ sp_val n f (p + sp_neg n f p) m = 0)) ∧ r = some (xa_i 1) ∧ xRd h' k kt kb (xa_upf nu i (if ((sp_neg n f p : Nat) : Int) = 1 then -sp_val n f (p + sp_neg n f p) m else sp_val n f (p + sp_neg n f p) m)) (p + sp_neg n f p + m)) ∨ (¬ (m ≠ 0 ∧ ¬ (((sp_neg n f p : Nat) : Int) = 1 ∧ sp_val n f (p + sp_neg n f p) m = 0)) ∧ r = some (xa_i 0) ∧ xRd h' k kt kb nu (p + sp_neg n f p + m))) ∧ h'.2 = h.2 ∧ ∀ i, (i < k ∨ k + 2 ≤ i) → h'.1 i = h.1 i) := by
  refine xa_enter (by decide +kernel) (Nat.le_of_ble_eq_true rfl) ?_
  refine xa_locals (ls' := [some (xa_r k), some (xa_i ((i : Nat) : Int)), none, none, none]) rfl ?_
  have hn : h.2 = h.2 := rfl
  have fr : ∀ i, (i < k ∨ k + 2 ≤ i) → h.1 i = h.1 i := fun _ _ => rfl
  obtain ⟨hR0, hR1, hRk, hRn⟩ := hR
  obtain ⟨hT0, hT1, hTk, hTn, hT9, hTb⟩ := hT
  refine xa_aload_n (pc := 0) dX2_readsNumber_0 rfl ?_
  refine xa_getfield (pc := 1) dX2_readsNumber_1 flRX2_15 (by omega) (by omega) hR0 rfl ?_
  refine xa_aload_n (pc := 4) dX2_readsNumber_4 rfl ?_
  refine xa_getfield (pc := 5) dX2_readsNumber_5 flRX2_28 (by omega) (by omega) hR0 rfl ?_
  refine xa_callV (pc := 8) (as := [xa_i ((p : Nat) : Int)]) (rest := []) dX2_readsNumber_8 ⟨qX7_byteAt.1, qX7_byteAt.2.1, qX7_byteAt.2.2, by decide, by decide⟩ lkRX2_41 imX7_byteAt seX7_byteAt rfl rfl (by omega) (by omega) hT0 rfl (Nat.le_of_ble_eq_true rfl) (Nat.zero_le _) (Nat.zero_le _) (c_byteAt _ _ _ _ ⟨by omega, by omega⟩ ⟨hT0, hT1, hTk, by omega, hT9, hTb⟩) (fun r h' hq => ?_)
  obtain ⟨rfl, hq⟩ := hq
  have hq := hq.symm
  subst hq
  have ba_8 := sp_at_b (n := n) hTb ((p : Nat) : Int)
  refine xa_bipush (pc := 11) dX2_readsNumber_11 rfl ?_
  refine xa_icmp_ne (pc := 13) (tgt := 20) dX2_readsNumber_13 (by decide) ⟨by omega, by omega⟩ (by decide) (fun c_13 => ?_) (fun c_13 => ?_)
  · skip
    refine xa_iconst (pc := 20) dX2_readsNumber_20 ?_
    refine xa_istoren (pc := 21) [some (xa_r k), some (xa_i ((i : Nat) : Int)), some (xa_i 0), none, none] dX2_readsNumber_21 (by decide) (Nat.le_of_ble_eq_true rfl) rfl rfl ?_
    refine xa_iload_n (pc := 22) dX2_readsNumber_22 rfl ?_
    refine xa_if_eq (pc := 23) (tgt := 36) dX2_readsNumber_23 (by decide) (by decide) (fun c_23 => ?_) (fun c_23 => ?_)
    · skip
      refine xa_iconst (pc := 36) dX2_readsNumber_36 ?_
      refine xa_istoren (pc := 37) [some (xa_r k), some (xa_i ((i : Nat) : Int)), some (xa_i 0), some (xa_i 0), none] dX2_readsNumber_37 (by decide) (Nat.le_of_ble_eq_true rfl) rfl rfl ?_
      refine xa_iconst (pc := 38) dX2_readsNumber_38 ?_
      refine xa_istorew (pc := 39) [some (xa_r k), some (xa_i ((i : Nat) : Int)), some (xa_i 0), some (xa_i 0), some (xa_i 0)] dX2_readsNumber_39 (by decide) (Nat.le_of_ble_eq_true rfl) rfl rfl ?_
      have e : sp_neg n f p = 0 := if_neg (by omega)
      rw [e]
      exact c_readsNumber_loop (a := p + 0) (L := ((0 : Nat) : Int)) hRk hTk hkt hT9 hTb (by omega) hi (by omega) 5 0 _ (by omega) (by omega) (fun j hj => absurd hj (Nat.not_lt_zero _)) (by omega) (by omega) hR0 hR1 hT0 hT1 fr
    · skip
      exfalso; omega
  · skip
    refine xa_iconst (pc := 16) dX2_readsNumber_16 ?_
    refine xa_goto (pc := 17) (tgt := 21) dX2_readsNumber_17 (by decide) ?_
    refine xa_istoren (pc := 21) [some (xa_r k), some (xa_i ((i : Nat) : Int)), some (xa_i 1), none, none] dX2_readsNumber_21 (by decide) (Nat.le_of_ble_eq_true rfl) rfl rfl ?_
    refine xa_iload_n (pc := 22) dX2_readsNumber_22 rfl ?_
    refine xa_if_eq (pc := 23) (tgt := 36) dX2_readsNumber_23 (by decide) (by decide) (fun c_23 => ?_) (fun c_23 => ?_)
    · skip
      exfalso; omega
    · skip
      refine xa_aload_n (pc := 26) dX2_readsNumber_26 rfl ?_
      refine xa_dup (pc := 27) dX2_readsNumber_27 rfl ?_
      refine xa_getfield (pc := 28) dX2_readsNumber_28 flRX2_28 (by omega) (by omega) hR0 rfl ?_
      refine xa_iconst (pc := 31) dX2_readsNumber_31 ?_
      refine xa_iadd (pc := 32) dX2_readsNumber_32 ?_
      refine xa_top (y := ((p + 1 : Nat) : Int)) (by omega) ?_
      refine xa_putw (pc := 33) [xa_r kt, xa_r kb, xa_r (k + 1), xa_i ((p + 1 : Nat) : Int)] dX2_readsNumber_33 flRX2_28 plX2_3 (by omega) (by omega) hR0 trivial rfl (fun h1 nh1 ch1 oh1 => ?_)
      have hR0 : h1.1 k = xa_o 2 [xa_r kt, xa_r kb, xa_r (k + 1), xa_i ((p + 1 : Nat) : Int)] := ch1
      have hR1 : h1.1 (k + 1) = xa_a 3 nu := (oh1 _ (by omega)).trans hR1
      have hT0 : h1.1 kt = xa_o 7 [xa_r (kt + 1), xa_i ((n : Nat) : Int)] := (oh1 _ (by omega)).trans hT0
      have hT1 : h1.1 (kt + 1) = xa_a 120 f := (oh1 _ (by omega)).trans hT1
      have hn : h1.2 = h.2 := nh1.trans hn
      have fr : ∀ i, (i < k ∨ k + 2 ≤ i) → h1.1 i = h.1 i := fun i hi => (oh1 i (by omega)).trans (fr i hi)
      refine xa_iconst (pc := 36) dX2_readsNumber_36 ?_
      refine xa_istoren (pc := 37) [some (xa_r k), some (xa_i ((i : Nat) : Int)), some (xa_i 1), some (xa_i 0), none] dX2_readsNumber_37 (by decide) (Nat.le_of_ble_eq_true rfl) rfl rfl ?_
      refine xa_iconst (pc := 38) dX2_readsNumber_38 ?_
      refine xa_istorew (pc := 39) [some (xa_r k), some (xa_i ((i : Nat) : Int)), some (xa_i 1), some (xa_i 0), some (xa_i 0)] dX2_readsNumber_39 (by decide) (Nat.le_of_ble_eq_true rfl) rfl rfl ?_
      have e : sp_neg n f p = 1 := if_pos (by omega)
      rw [e]
      exact c_readsNumber_loop (a := p + 1) (L := ((1 : Nat) : Int)) hRk hTk hkt hT9 hTb (by omega) hi (by omega) 5 0 _ (by omega) (by omega) (fun j hj => absurd hj (Nat.not_lt_zero _)) (by omega) (by omega) hR0 hR1 hT0 hT1 fr
