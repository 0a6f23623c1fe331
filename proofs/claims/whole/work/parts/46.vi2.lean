/-! WHAT A STATE KEEPS: new rows, cut-offs, passing -/
theorem cBeg_f {k : Nat} {p n r c : Int32} {V : Mem} : cBeg k p n r c V k 0 = p ∧ cBeg k p n r c V k 1 = n ∧ cBeg k p n r c V k 2 = r ∧ cBeg k p n r c V k 3 = wor p n r := by
  unfold cBeg cMv
  refine ⟨?_, ?_, ?_, ?_⟩ <;> simp (disch := omega) only [mset_at, mset_ne]
theorem VI.opn {nl ns : Nat} {p n r c : Int32} {C : Mem} (h : VI nl ns C) (h8 : nl < 8) (hp : money p) (hn : perR n) (hr : rateR r) : VI (nl + 1) ns (cAddL nl p n r c C) := by
  have a12 := h.1.2.1.2
  have eo : ∀ q, q ≠ 0 → q ≠ 3 + nl → q ≠ 3 + nl + 8 → cAddL nl p n r c C q = C q := fun q h1 h2 h3 => cAddL_o h1 h2 h3
  have f := cBeg_f (k := 3 + nl) (p := p) (n := n) (r := r) (c := c) (V := mset C 0 2 (nI (nl + 1)))
  have ge : cAddL nl p n r c C = cBeg (3 + nl) p n r c (mset C 0 2 (nI (nl + 1))) := by unfold cAddL; rfl
  have g0 : cAddL nl p n r c C (3 + nl) 0 = p := by rw [ge]; exact f.1
  have g1 : cAddL nl p n r c C (3 + nl) 1 = n := by rw [ge]; exact f.2.1
  have g2 : cAddL nl p n r c C (3 + nl) 2 = r := by rw [ge]; exact f.2.2.1
  have g3 : cAddL nl p n r c C (3 + nl) 3 = wor p n r := by rw [ge]; exact f.2.2.2
  have e3 : cAddL nl p n r c C 0 3 = C 0 3 := by unfold cAddL; rw [cBeg_o (by omega) (by omega), mset_ne (by omega)]
  obtain ⟨⟨a1, a2, a3, a4, a5, a6⟩, b, cc, d⟩ := h
  refine ⟨⟨⟨cAddL_2, by omega⟩, ⟨by rw [e3]; exact a2.1, a2.2⟩, fun j hj => ?_, fun j hj => ?_, fun q hq => ?_, fun q hq => by rw [eo _ (by omega) (by omega) (by omega)]; exact a6 q hq⟩, fun j hj => ?_, fun q hq => by rw [eo _ (by omega) (by omega) (by omega)]; exact cc q hq, fun q hq j hj e => ?_⟩
  · by_cases e : j = nl
    · rw [e, g1]; exact hn
    · rw [eo _ (by omega) (by omega) (by omega)]; exact a3 j (by omega)
  · by_cases e : j = nl
    · rw [e, g2]; exact hr
    · rw [eo _ (by omega) (by omega) (by omega)]; exact a4 j (by omega)
  · obtain ⟨k, hk, e⟩ := a5 q hq
    exact ⟨k, by omega, by rw [eo _ (by omega) (by omega) (by omega)]; exact e⟩
  · by_cases e : j = nl
    · rw [e, g0, g1, g2, g3]
      exact ⟨hp, rfl⟩
    · rw [eo _ (by omega) (by omega) (by omega)]; exact b j (by omega)
  · obtain ⟨k, hk, e2⟩ := a5 q hq
    rw [eo _ (by omega) (by omega) (by omega)] at e ⊢
    have ek : j = k := (nI_eq (by omega) (by omega)).mp (e.symm.trans e2)
    rw [eo _ (by omega) (by omega) (by omega)]
    exact d q hq j (by omega) e
theorem cAddS_o {k ns r : Nat} {t rc n : Int32} {V : Mem} (h : r ≠ 0) (h1 : r ≠ 19 + ns) (h2 : r ≠ 3 + k) (h3 : r ≠ 3 + k + 8) : cAddS k ns t rc n V r = V r := by
  unfold cAddS cSubT
  rw [cMv_o h3, cMv_o h3, mset_o h2, mset_o h1, mset_o h1, mset_o h1, mset_o h1, mset_o h1, mset_o h1, mset_o h]
theorem cAddS_f {k ns : Nat} {t rc n : Int32} {V : Mem} (hk : k < 8) : cAddS k ns t rc n V (19 + ns) 0 = nI k ∧ cAddS k ns t rc n V (19 + ns) 2 = rc ∧ cAddS k ns t rc n V (19 + ns) 3 = n ∧ cAddS k ns t rc n V (19 + ns) 4 = V (3 + k) 2 ∧ cAddS k ns t rc n V (19 + ns) 5 = wor rc n (V (3 + k) 2) ∧ cAddS k ns t rc n V 0 3 = nI (ns + 1) ∧ cAddS k ns t rc n V 0 2 = V 0 2 ∧ ∀ f, f ≠ 4 → cAddS k ns t rc n V (3 + k) f = V (3 + k) f := by
  unfold cAddS cSubT cMv
  refine ⟨?_, ?_, ?_, ?_, ?_, ?_, ?_, fun f hf => ?_⟩ <;> simp (disch := omega) only [mset_at, mset_ne]
theorem VI.subl {nl ns k : Nat} {t rc n : Int32} {C : Mem} (h : VI nl ns C) (h12 : ns < 12) (hk : k < nl) (hn : perR n) (hle : n ≤ C (3 + k) 1) : VI nl (ns + 1) (cAddS k ns t rc n C) := by
  have a8 := h.1.1.2
  have f := cAddS_f (k := k) (ns := ns) (t := t) (rc := rc) (n := n) (V := C) (by omega)
  have eL : ∀ j, j < nl → ∀ i, i ≠ 4 → cAddS k ns t rc n C (3 + j) i = C (3 + j) i := fun j hj i hi => by
    by_cases e : j = k
    · subst e; exact f.2.2.2.2.2.2.2 i hi
    · rw [cAddS_o (by omega) (by omega) (by omega) (by omega)]
  have eS : ∀ q, q < ns → cAddS k ns t rc n C (19 + q) = C (19 + q) := fun q hq => cAddS_o (by omega) (by omega) (by omega) (by omega)
  obtain ⟨⟨a1, a2, a3, a4, a5, a6⟩, b, cc, d⟩ := h
  refine ⟨⟨⟨by rw [f.2.2.2.2.2.2.1]; exact a1.1, a1.2⟩, ⟨f.2.2.2.2.2.1, h12⟩, fun j hj => by rw [eL j hj 1 (by omega)]; exact a3 j hj, fun j hj => by rw [eL j hj 2 (by omega)]; exact a4 j hj, fun q hq => ?_, fun q hq => ?_⟩, fun j hj => by rw [eL j hj 0 (by omega), eL j hj 1 (by omega), eL j hj 2 (by omega), eL j hj 3 (by omega)]; exact b j hj, fun q hq => ?_, fun q hq j hj e => ?_⟩
  · by_cases e : q = ns
    · subst e; exact ⟨k, hk, f.1⟩
    · rw [eS q (by omega)]; exact a5 q (by omega)
  · by_cases e : q = ns
    · subst e; rw [f.2.2.2.1]; exact a4 k hk
    · rw [eS q (by omega)]; exact a6 q (by omega)
  · by_cases e : q = ns
    · subst e; rw [f.2.2.1, f.2.1, f.2.2.2.1, f.2.2.2.2.1]; exact ⟨hn, rfl⟩
    · rw [eS q (by omega)]; exact cc q (by omega)
  · rw [eL j hj 1 (by omega)]
    by_cases eq : q = ns
    · subst eq
      rw [f.1] at e
      have ek : k = j := (nI_eq (by omega) (by omega)).mp e
      subst ek
      rw [f.2.2.1]; exact hle
    · rw [eS q (by omega)] at e ⊢; exact d q (by omega) j hj e
