/-! WHAT A STATE KEEPS: other terms -/
theorem cCut_up {k q : Nat} {W : Mem} : ∀ i, q < i → cCut k W i (19 + q) = cCutS k q (cCut k W q) (19 + q)
  | 0, h => absurd h (by omega)
  | i + 1, h => by
    by_cases e : q = i
    · subst e; rfl
    · show cCutS k i (cCut k W i) (19 + q) = _
      rw [cCutS_o (by omega)]
      exact cCut_up i (by omega)
theorem cCut_f {k q i : Nat} {n : Int32} {W : Mem} (hk : k < 8) (hq : q < i) (hn : W (3 + k) 1 = n) : (∀ f, f ≠ 3 → f ≠ 5 → cCut k W i (19 + q) f = W (19 + q) f) ∧ (runU W k q = true → cCut k W i (19 + q) 3 = mn (W (19 + q) 3) n ∧ cCut k W i (19 + q) 5 = wor (W (19 + q) 2) (mn (W (19 + q) 3) n) (W (19 + q) 4)) ∧ (¬ runU W k q = true → cCut k W i (19 + q) = W (19 + q)) := by
  have e1 : cCut k W q (19 + q) = W (19 + q) := cCut_o q (by omega)
  have e2 : cCut k W q (3 + k) 1 = n := by rw [cCut_o q (by omega)]; exact hn
  have e3 : runU (cCut k W q) k q = runU W k q := by unfold runU; rw [e1]
  rw [cCut_up i hq]
  unfold cCutS
  rw [e3]
  refine ⟨fun f h3 h5 => ?_, fun hr => ?_, fun hr => by rw [if_neg hr]; exact e1⟩
  · split
    · show mset (mset _ _ _ _) _ _ _ _ _ = _
      rw [mset_ne (by omega), mset_ne (by omega), e1]
    · rw [e1]
  · rw [if_pos hr]
    constructor
    · show mset (mset _ _ _ _) _ _ _ _ _ = _
      rw [mset_ne (by omega), mset_at, e1, e2]
    · show mset (mset _ _ _ _) _ _ _ _ _ = _
      rw [mset_at, mset_ne (by omega), mset_at, mset_ne (by omega), e1, e2]
theorem mn_le {a b : Int32} : mn a b ≤ b ∧ mn a b ≤ a := by
  unfold mn
  split
  · rename_i h; exact ⟨Int32.le_refl _, Int32.le_of_lt h⟩
  · rename_i h; exact ⟨Int32.not_lt.mp h, Int32.le_refl _⟩
theorem mn_ge {a b c : Int32} (h1 : c ≤ a) (h2 : c ≤ b) : c ≤ mn a b := by
  unfold mn
  split
  · exact h2
  · exact h1
theorem VI.term {nl ns k : Nat} {n r : Int32} {C : Mem} (h : VI nl ns C) (hk : k < nl) (hn : termR n) (hr : rateR r) : VI nl ns (cMeasSt k ns n r C) := by
  have h8 := h.1.1.2
  have h12 := h.1.2.1.2
  have c0 : cMeas (3 + k) (C (3 + k) 0) n r C (3 + k) 0 = C (3 + k) 0 := by unfold cMeas; simp (disch := omega) only [mset_at, mset_ne]
  have c2 : cMeas (3 + k) (C (3 + k) 0) n r C (3 + k) 2 = r := by unfold cMeas; simp (disch := omega) only [mset_at, mset_ne]
  have ca := cMeas_at (k := 3 + k) (p := C (3 + k) 0) (n := n) (r := r) (V := C)
  have hp : perR n := ⟨Int32.le_trans (by decide) hn.1, hn.2⟩
  have eM : ∀ q, q ≠ 3 + k + 8 → cMv (3 + k) 14 (cLoss (cMeas (3 + k) (C (3 + k) 0) n r C) ns k (cMeas (3 + k) (C (3 + k) 0) n r C (3 + k) 1)) (cMeas (3 + k) (C (3 + k) 0) n r C) q = cMeas (3 + k) (C (3 + k) 0) n r C q := fun q hq => cMv_o hq
  unfold cMeasSt cCutO
  generalize cMv (3 + k) 14 (cLoss (cMeas (3 + k) (C (3 + k) 0) n r C) ns k (cMeas (3 + k) (C (3 + k) 0) n r C (3 + k) 1)) (cMeas (3 + k) (C (3 + k) 0) n r C) = W at eM ⊢
  have wS : ∀ q, q < 12 → W (19 + q) = C (19 + q) := fun q hq => by rw [eM _ (by omega), cMeas_o (by omega) (by omega)]
  have wK : ∀ f, W (3 + k) f = cMeas (3 + k) (C (3 + k) 0) n r C (3 + k) f := fun f => by rw [eM _ (by omega)]
  have wN : W (3 + k) 1 = n := by rw [wK, ca.2.2.1]
  have dL : ∀ j, j < 8 → cCut k W ns (3 + j) = W (3 + j) := fun j hj => cCut_o ns (by omega)
  have d0 : cCut k W ns 0 = C 0 := by rw [cCut_o ns (by omega), eM _ (by omega), cMeas_o (by omega) (by omega)]
  have dJ : ∀ j, j < nl → j ≠ k → cCut k W ns (3 + j) = C (3 + j) := fun j hj hne => by rw [dL j (by omega), eM _ (by omega), cMeas_o (by omega) (by omega)]
  have dK : ∀ f, cCut k W ns (3 + k) f = cMeas (3 + k) (C (3 + k) 0) n r C (3 + k) f := fun f => by rw [dL k (by omega), wK]
  have cf := fun q (hq : q < ns) => cCut_f (k := k) (W := W) (n := n) (by omega) hq wN
  have eR : ∀ q, q < ns → runU W k q = runU C k q := fun q hq => by unfold runU; rw [wS q (by omega)]
  obtain ⟨⟨a1, a2, a3, a4, a5, a6⟩, b, cc, d⟩ := h
  refine ⟨⟨⟨by rw [d0]; exact a1.1, a1.2⟩, ⟨by rw [d0]; exact a2.1, a2.2⟩, fun j hj => ?_, fun j hj => ?_, fun q hq => by rw [(cf q hq).1 0 (by omega) (by omega), wS q (by omega)]; exact a5 q hq, fun q hq => by rw [(cf q hq).1 4 (by omega) (by omega), wS q (by omega)]; exact a6 q hq⟩, fun j hj => ?_, fun q hq => ?_, fun q hq j hj e => ?_⟩
  · by_cases e : j = k
    · rw [e, dK, ca.2.2.1]; exact hp
    · rw [dJ j hj e]; exact a3 j hj
  · by_cases e : j = k
    · rw [e, dK, c2]; exact hr
    · rw [dJ j hj e]; exact a4 j hj
  · by_cases e : j = k
    · rw [e, dK, dK, dK, dK, c0, c2, ca.1, ca.2.2.1]; exact ⟨(b k hk).1, rfl⟩
    · rw [dJ j hj e]; exact b j hj
  · by_cases hr2 : runU W k q = true
    · rw [((cf q hq).2.1 hr2).1, ((cf q hq).2.1 hr2).2, (cf q hq).1 2 (by omega) (by omega), (cf q hq).1 4 (by omega) (by omega), wS q (by omega)]
      exact ⟨⟨mn_ge (cc q hq).1.1 hp.1, Int32.le_trans mn_le.2 (cc q hq).1.2⟩, rfl⟩
    · rw [(cf q hq).2.2 hr2, wS q (by omega)]; exact cc q hq
  · rw [(cf q hq).1 0 (by omega) (by omega), wS q (by omega)] at e
    by_cases hr2 : runU W k q = true
    · rw [((cf q hq).2.1 hr2).1, wS q (by omega)]
      have e2 : C (19 + q) 0 = nI k := by rw [eR q hq] at hr2; exact (of_decide_eq_true hr2).1
      have ej : j = k := (nI_eq (by omega) (by omega)).mp (e.symm.trans e2)
      rw [ej, dK, ca.2.2.1]
      exact mn_le.1
    · rw [(cf q hq).2.2 hr2, wS q (by omega)]
      by_cases ej : j = k
      · rw [ej, dK, ca.2.2.1]
        rw [ej] at e
        have h3 : ¬ 0 < C (19 + q) 3 := fun z => hr2 (by rw [eR q hq]; exact decide_eq_true ⟨e, z⟩)
        exact Int32.le_trans (Int32.not_lt.mp h3) (Int32.le_trans (by decide) hn.1)
      · rw [dJ j hj ej]; exact d q hq j hj e
