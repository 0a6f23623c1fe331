/-! WHAT A STATE KEEPS, through each change -/
theorem VI.lease {nl ns k : Nat} {C C' : Mem} (h : VI nl ns C) (hk : k < nl) (e0 : C' 0 = C 0) (el : ∀ j, j < nl → j ≠ k → C' (3 + j) = C (3 + j)) (es : ∀ q, q < ns → C' (19 + q) = C (19 + q))
    (h0 : money (C' (3 + k) 0)) (h1 : perR (C' (3 + k) 1)) (h2 : rateR (C' (3 + k) 2)) (h3 : C' (3 + k) 3 = wor (C' (3 + k) 0) (C' (3 + k) 1) (C' (3 + k) 2)) (hp : ∀ q, q < ns → C (19 + q) 0 = nI k → C (19 + q) 3 ≤ C' (3 + k) 1) : VI nl ns C' := by
  obtain ⟨⟨a1, a2, a3, a4, a5, a6⟩, b, c, d⟩ := h
  refine ⟨⟨⟨by rw [e0]; exact a1.1, a1.2⟩, ⟨by rw [e0]; exact a2.1, a2.2⟩, fun j hj => ?_, fun j hj => ?_, fun q hq => by rw [es q hq]; exact a5 q hq, fun q hq => by rw [es q hq]; exact a6 q hq⟩, fun j hj => ?_, fun q hq => by rw [es q hq]; exact c q hq, fun q hq j hj => ?_⟩
  · by_cases e : j = k
    · subst e; exact h1
    · rw [el j hj e]; exact a3 j hj
  · by_cases e : j = k
    · subst e; exact h2
    · rw [el j hj e]; exact a4 j hj
  · by_cases e : j = k
    · subst e; exact ⟨h0, h3⟩
    · rw [el j hj e]; exact b j hj
  · rw [es q hq]
    by_cases e : j = k
    · subst e; exact hp q hq
    · rw [el j hj e]; exact d q hq j hj
theorem VI.same {nl ns : Nat} {C C' : Mem} (h : VI nl ns C) (e0 : ∀ f, f ≠ 4 → C' 0 f = C 0 f) (el : ∀ j, j < nl → ∀ f, f < 4 → C' (3 + j) f = C (3 + j) f) (es : ∀ q, q < ns → C' (19 + q) = C (19 + q)) : VI nl ns C' := by
  obtain ⟨⟨a1, a2, a3, a4, a5, a6⟩, b, c, d⟩ := h
  refine ⟨⟨⟨by rw [e0 2 (by omega)]; exact a1.1, a1.2⟩, ⟨by rw [e0 3 (by omega)]; exact a2.1, a2.2⟩, fun j hj => by rw [el j hj 1 (by omega)]; exact a3 j hj, fun j hj => by rw [el j hj 2 (by omega)]; exact a4 j hj, fun q hq => by rw [es q hq]; exact a5 q hq, fun q hq => by rw [es q hq]; exact a6 q hq⟩, fun j hj => by rw [el j hj 0 (by omega), el j hj 1 (by omega), el j hj 2 (by omega), el j hj 3 (by omega)]; exact b j hj, fun q hq => by rw [es q hq]; exact c q hq, fun q hq j hj => by rw [es q hq, el j hj 1 (by omega)]; exact d q hq j hj⟩
theorem VI.rows {nl ns : Nat} {C C' : Mem} (h : VI nl ns C) (e : ∀ r, r < 31 → C' r = C r) : VI nl ns C' := by
  have a1 := h.1.1.2
  have a2 := h.1.2.1.2
  exact h.same (fun f _ => by rw [e 0 (by omega)]) (fun j hj f _ => by rw [e _ (by omega)]) (fun q hq => e _ (by omega))
theorem VI.save {o n nl ns : Nat} {V : Mem} (h : VI nl ns V) : VI nl ns (cSave o n nl ns V) := h.rows (fun r hr => cSave_o h.1.1.2 h.1.2.1.2 (Or.inl hr))
theorem VI.imp {nl ns k : Nat} {a : Int32} {C : Mem} (h : VI nl ns C) (hk : k < nl) : VI nl ns (cImp (3 + k) a C) := by
  have a1 := h.1.1.2
  have e1 : ∀ r, r ≠ 3 + k + 8 → cImp (3 + k) a C r = mset C (3 + k) 4 (C (3 + k) 4 - a) r := fun r hr => cMv_o hr
  exact h.same (fun f _ => by rw [e1 _ (by omega), mset_ne (by omega)]) (fun j hj f hf => by rw [e1 _ (by omega), mset_ne (by omega)]) (fun q hq => by rw [e1 _ (by omega), mset_o (by omega)])
theorem VI.meas {nl ns k : Nat} {p r : Int32} {C : Mem} (h : VI nl ns C) (hk : k < nl) (hp : money p) (hr : rateR r) : VI nl ns (cMeas (3 + k) p (C (3 + k) 1) r C) := by
  have a1 := h.1.1.2
  have c0 : cMeas (3 + k) p (C (3 + k) 1) r C (3 + k) 0 = p := by unfold cMeas; simp (disch := omega) only [mset_at, mset_ne]
  have c2 : cMeas (3 + k) p (C (3 + k) 1) r C (3 + k) 2 = r := by unfold cMeas; simp (disch := omega) only [mset_at, mset_ne]
  have ca := cMeas_at (k := 3 + k) (p := p) (n := C (3 + k) 1) (r := r) (V := C)
  refine h.lease hk (cMeas_o (by omega) (by omega)) (fun j hj hne => cMeas_o (by omega) (by omega)) (fun q hq => cMeas_o (by omega) (by omega)) (by rw [c0]; exact hp) (by rw [ca.2.2.1]; exact h.1.2.2.1 k hk) (by rw [c2]; exact hr) (by rw [c0, c2, ca.1, ca.2.2.1]) (fun q hq e => by rw [ca.2.2.1]; exact h.2.2.2 q hq k hk e)
theorem prt_le {P t : Nat} (hP : P ≤ 1000000000) (ht : t ≤ 1000) : prt (nI P) (nI t) = nI (P * t / 1000) ∧ P * t / 1000 ≤ P := by
  have h1 : P * t ≤ P * 1000 := Nat.mul_le_mul_left _ ht
  constructor
  · unfold prt
    rw [nI_l (by omega), nI_l (by omega), lN_mul]
    have e : (1000 : Int64) = lN 1000 := rfl
    rw [e, pk_lDiv (by omega) (by omega) (by omega), lN_i]
  · rw [Nat.div_le_iff_le_mul_add_pred (by omega)]
    omega
theorem part_of {t : Int32} (h : partR t) : ∃ j, j ≤ 1000 ∧ t = nI j := nI_of2 (n := 1000) (nI_toInt (by omega)) (fun q => absurd (Int32.le_trans (by decide) h.1) (Int32.not_le.mpr q)) h.2
theorem VI.endp {nl ns k : Nat} {t fee : Int32} {C : Mem} (h : VI nl ns C) (hk : k < nl) (ht : partR t) : VI nl ns (cEnd (3 + k) t fee C) := by
  have a1 := h.1.1.2
  have eo : ∀ r, r ≠ 3 + k → r ≠ 3 + k + 8 → cEnd (3 + k) t fee C r = C r := fun r h1 h2 => by
    unfold cEnd
    rw [cMv_o h2, cMv_o h2, cMv_o h2, mset_o h1, mset_o h1, mset_o h1]
  have f0 : cEnd (3 + k) t fee C (3 + k) 0 = C (3 + k) 0 - prt (C (3 + k) 0) t := by unfold cEnd cMv; simp (disch := omega) only [mset_at, mset_ne]
  have f1 : cEnd (3 + k) t fee C (3 + k) 1 = C (3 + k) 1 := by unfold cEnd cMv; simp (disch := omega) only [mset_ne]
  have f2 : cEnd (3 + k) t fee C (3 + k) 2 = C (3 + k) 2 := by unfold cEnd cMv; simp (disch := omega) only [mset_ne]
  have f3 : cEnd (3 + k) t fee C (3 + k) 3 = wor (C (3 + k) 0 - prt (C (3 + k) 0) t) (C (3 + k) 1) (C (3 + k) 2) := by
    unfold cEnd cMv cEndL
    simp (disch := omega) only [mset_at, mset_ne]
    exact sub_sub_self32
  obtain ⟨P, hP, eP⟩ := mon_of (h.2.1 k hk).1
  obtain ⟨T, hT, eT⟩ := part_of ht
  have pl := prt_le (P := P) (t := T) (by omega) hT
  refine h.lease hk (eo 0 (by omega) (by omega)) (fun j hj hne => eo _ (by omega) (by omega)) (fun q hq => eo _ (by omega) (by omega)) ?_ (by rw [f1]; exact h.1.2.2.1 k hk) (by rw [f2]; exact h.1.2.2.2.1 k hk) (by rw [f0, f1, f2, f3]) (fun q hq e => by rw [f1]; exact h.2.2.2 q hq k hk e)
  rw [f0, eP, eT, pl.1, pk_sub pl.2]
  exact ⟨nI_le (by omega) (by omega), nI_le (by omega) (by omega)⟩
