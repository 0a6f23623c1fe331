/-! HISTORY: saving where six stand already, undoing -/
theorem HR.shift {o : Nat} {S Z S' Z' : Mem} (h : HR o 6 S Z) (eS : ∀ r, r < 217 → S' r = S r) (eZ : ∀ b, b < 1255 → Z' 226 b = Z 226 (b + 251)) : HR ((o + 1) % 6) 5 S' Z' := by
  intro a ha
  obtain ⟨nl, ns, hr⟩ := h (a + 1) (by omega)
  have es : slR ((o + 1) % 6) a = slR o (a + 1) := by unfold slR; omega
  rw [es]
  have b1 := slR_b (o := o) (a := a + 1)
  refine ⟨nl, ns, hr.row (fun r h1 h2 => eS r (by omega)) (fun i hi => ?_)⟩
  show Z' 226 (251 * a + i) = Z 226 (251 * (a + 1) + i)
  rw [eZ _ (by omega)]
  congr 1
  omega
theorem HR.save6 {o nl ns : Nat} {S Z : Mem} (h : HR o 6 S Z) (h0 : RSv nl ns S 0 (Z 225)) : HR ((o + 1) % 6) 6 (hSave6 o nl ns S) (rSave6 Z) := by
  have h1 : HR ((o + 1) % 6) 5 (mset (mset S 217 1 (nI ((o + 1) % 6))) 217 2 (nI 5)) (mset (rSh Z 1255) 224 3 (rSh Z 1255 224 3 - nI 1)) :=
    h.shift (fun r hr => by rw [mset_o (by omega), mset_o (by omega)]) (fun b hb => by rw [mset_ne (by omega)]; unfold rSh; rw [if_pos ⟨rfl, hb⟩])
  have h2 : RSv nl ns (mset (mset S 217 1 (nI ((o + 1) % 6))) 217 2 (nI 5)) 0 (mset (rSh Z 1255) 224 3 (rSh Z 1255 224 3 - nI 1) 225) :=
    h0.row (fun r h1 h2 => by rw [mset_o (by omega), mset_o (by omega)]) (fun i hi => by rw [mset_ne (by omega), rSh_ne (by omega)])
  exact h1.save (by omega) h2
theorem HR.undo {o n nl ns : Nat} {S Z : Mem} (h : HR o (n + 1) S Z) (hn : n < 6) (hr : RSv nl ns S (slR o n) (fun i => Z 226 (251 * n + i))) : RSv nl ns (hRest o n nl ns S) 0 (rRes Z n 251 225) ∧ HR o n (hRest o n nl ns S) (rRes Z n 251) := by
  have h8 := hr.2.1.1.1.2
  have h12 := hr.2.1.1.2.1.2
  have bn := slR_b (o := o) (a := n)
  refine ⟨(hr.cpy (b := 0) (by omega) bn.1 (by omega)).row (fun r h1 h2 => ?_) (fun i hi => ?_), fun a ha => ?_⟩
  · unfold hRest
    exact mset_o (by omega)
  · show rcpy _ _ _ _ 225 i = _
    unfold rcpy
    rw [if_pos ⟨rfl, hi⟩]
  · obtain ⟨l1, s1, h1⟩ := h a (by omega)
    have ba := slR_b (o := o) (a := a)
    refine ⟨l1, s1, h1.row (fun r h1 h2 => ?_) (fun i hi => congrFun (rRes_ne (by omega)) _)⟩
    unfold hRest
    rw [mset_o (by omega), cpySt_o h8 h12 (by omega)]
