/-! HISTORY: saving -/
def HR (o n : Nat) (S Z : Mem) : Prop := ∀ a, a < n → ∃ nl ns, RSv nl ns S (slR o a) (fun i => Z 226 (251 * a + i))
theorem slR_b {o a : Nat} : slR o a % 31 = 0 ∧ 31 ≤ slR o a ∧ slR o a + 31 ≤ 217 := by
  have := Nat.mod_lt (o + a) (show 0 < 6 by omega)
  unfold slR
  omega
theorem slR_ne {o a b : Nat} (ha : a < 6) (hb : b < 6) (h : a ≠ b) : slR o a + 31 ≤ slR o b ∨ slR o b + 31 ≤ slR o a := by
  unfold slR
  omega
theorem HR.save {o n nl ns : Nat} {S Z : Mem} (h : HR o n S Z) (hn : n < 6) (h0 : RSv nl ns S 0 (Z 225)) : HR o (n + 1) (hSave o n nl ns S) (rSaveL n Z) := by
  have h8 := h0.2.1.1.1.2
  have h12 := h0.2.1.1.2.1.2
  have bn := slR_b (o := o) (a := n)
  have hZ : ∀ b, rSaveL n Z 226 b = if 251 * n ≤ b ∧ b < 251 * n + 251 then Z 225 (b - 251 * n) else Z 226 b := fun b => by
    unfold rSaveL
    show mset _ 224 3 _ 226 b = _
    rw [mset_ne (by omega)]
    unfold rCp
    by_cases hb : 251 * n ≤ b ∧ b < 251 * n + 251
    · rw [if_pos ⟨rfl, hb.1, hb.2⟩, if_pos hb]
    · rw [if_neg (fun z => hb z.2), if_neg hb]
  intro a ha
  by_cases e : a = n
  · subst e
    refine ⟨nl, ns, (h0.cpy bn.1 (by omega) (by omega)).row (fun r h1 h2 => ?_) (fun i hi => ?_)⟩
    · unfold hSave
      exact mset_o (by omega)
    · show rSaveL a Z 226 (251 * a + i) = _
      rw [hZ, if_pos ⟨by omega, by omega⟩]
      congr 1
      omega
  · obtain ⟨l1, s1, hr⟩ := h a (by omega)
    have ba := slR_b (o := o) (a := a)
    have ne := slR_ne (o := o) (a := a) (b := n) (by omega) hn e
    refine ⟨l1, s1, hr.row (fun r h1 h2 => ?_) (fun i hi => ?_)⟩
    · unfold hSave
      rw [mset_o (by omega), cpySt_o h8 h12 (by omega)]
    · show rSaveL n Z 226 (251 * a + i) = Z 226 (251 * a + i)
      rw [hZ, if_neg (by omega)]
