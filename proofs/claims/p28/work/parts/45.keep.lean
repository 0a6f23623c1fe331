/-! WHAT A STATE KEEPS -/
theorem cMeas_at {k : Nat} {p n r : Int32} {V : Mem} : cMeas k p n r V k 3 = wor p n r ∧ cMeas k p n r V k 4 = mx (nI 0) (V k 4 + wor p n r - V k 3) ∧ cMeas k p n r V k 1 = n ∧ cMeas k p n r V (k + 8) 3 = V (k + 8) 3 + (wor p n r - V k 3) ∧ cMeas k p n r V (k + 8) 7 = V (k + 8) 7 + (mx (nI 0) (V k 4 + wor p n r - V k 3) - V k 4) ∧ ∀ m, m ≠ 3 → m ≠ 7 → cMeas k p n r V (k + 8) m = V (k + 8) m := by
  unfold cMeas cMv
  refine ⟨?_, ?_, ?_, ?_, ?_, fun m h1 h2 => ?_⟩ <;> simp (disch := omega) only [mset_at, mset_ne]
theorem cBeg_o {k r : Nat} {p n z c : Int32} {V : Mem} (h : r ≠ k) (h2 : r ≠ k + 8) : cBeg k p n z c V r = V r := by
  unfold cBeg
  rw [cMv_o h2, cMv_o h2, cMv_o h2, mset_o h, mset_o h, mset_o h, mset_o h, mset_o h, rcpy_ne h2]
theorem cAddL_o {nl r : Nat} {p n z c : Int32} {V : Mem} (h : r ≠ 0) (h1 : r ≠ 3 + nl) (h2 : r ≠ 3 + nl + 8) : cAddL nl p n z c V r = V r := by
  unfold cAddL
  rw [cBeg_o h1 h2, mset_o h]
theorem cAddL_2 {nl : Nat} {p n z c : Int32} {V : Mem} : cAddL nl p n z c V 0 2 = nI (nl + 1) := by
  unfold cAddL
  rw [cBeg_o (by omega) (by omega), mset_at]
/-! WHAT A STATE KEEPS, through each change -/
theorem VI.lease {nl ns k : Nat} {C C' : Mem} (h : VI nl ns C) (hk : k < nl) (e0 : C' 0 = C 0) (el : ∀ j, j < nl → j ≠ k → C' (3 + j) = C (3 + j)) (es : ∀ q, q < ns → C' (19 + q) = C (19 + q))
    (h0 : money (C' (3 + k) 0)) (h1 : perR (C' (3 + k) 1)) (h2 : rateR (C' (3 + k) 2)) (h3 : C' (3 + k) 3 = wor (C' (3 + k) 0) (C' (3 + k) 1) (C' (3 + k) 2)) (hp : ∀ q, q < ns → C (19 + q) 0 = nI k → C (19 + q) 3 ≤ C' (3 + k) 1) : VI nl ns C' := by
  obtain ⟨⟨a1, a2, a3, a4, a5, a6⟩, b, c, d⟩ := h
  refine ⟨⟨⟨by rw [e0]; exact a1.1, a1.2⟩, ⟨by rw [e0]; exact a2.1, a2.2⟩, fun j hj => ?_, fun j hj => ?_, fun q hq => by rw [es q hq]; exact a5 q hq, fun q hq => by rw [es q hq]; exact a6 q hq⟩, fun j hj => ?_, fun q hq => by rw [es q hq]; exact c q hq, fun q hq j hj => ?_⟩
  · by_cases e : j = k
    · subst e; exact h1
    · rw [el j hj e]; exact a3 j hj
  · by_cases e : j = k
    · subst e; exact h2
    · rw [el j hj e]; exact a4 j hj
  · by_cases e : j = k
    · subst e; exact ⟨h0, h3⟩
    · rw [el j hj e]; exact b j hj
  · rw [es q hq]
    by_cases e : j = k
    · subst e; exact hp q hq
    · rw [el j hj e]; exact d q hq j hj
theorem VI.same {nl ns : Nat} {C C' : Mem} (h : VI nl ns C) (e0 : ∀ f, f ≠ 4 → C' 0 f = C 0 f) (el : ∀ j, j < nl → ∀ f, f < 4 → C' (3 + j) f = C (3 + j) f) (es : ∀ q, q < ns → C' (19 + q) = C (19 + q)) : VI nl ns C' := by
  obtain ⟨⟨a1, a2, a3, a4, a5, a6⟩, b, c, d⟩ := h
  refine ⟨⟨⟨by rw [e0 2 (by omega)]; exact a1.1, a1.2⟩, ⟨by rw [e0 3 (by omega)]; exact a2.1, a2.2⟩, fun j hj => by rw [el j hj 1 (by omega)]; exact a3 j hj, fun j hj => by rw [el j hj 2 (by omega)]; exact a4 j hj, fun q hq => by rw [es q hq]; exact a5 q hq, fun q hq => by rw [es q hq]; exact a6 q hq⟩, fun j hj => by rw [el j hj 0 (by omega), el j hj 1 (by omega), el j hj 2 (by omega), el j hj 3 (by omega)]; exact b j hj, fun q hq => by rw [es q hq]; exact c q hq, fun q hq j hj => by rw [es q hq, el j hj 1 (by omega)]; exact d q hq j hj⟩
theorem VI.rows {nl ns : Nat} {C C' : Mem} (h : VI nl ns C) (e : ∀ r, r < 31 → C' r = C r) : VI nl ns C' := by
  have a1 := h.1.1.2
  have a2 := h.1.2.1.2
  exact h.same (fun f _ => by rw [e 0 (by omega)]) (fun j hj f _ => by rw [e _ (by omega)]) (fun q hq => e _ (by omega))
theorem VI.save {o n nl ns : Nat} {V : Mem} (h : VI nl ns V) : VI nl ns (cSave o n nl ns V) := h.rows (fun r hr => cSave_o h.1.1.2 h.1.2.1.2 (Or.inl hr))
theorem VI.imp {nl ns k : Nat} {a : Int32} {C : Mem} (h : VI nl ns C) (hk : k < nl) : VI nl ns (cImp (3 + k) a C) := by
  have a1 := h.1.1.2
  have e1 : ∀ r, r ≠ 3 + k + 8 → cImp (3 + k) a C r = mset C (3 + k) 4 (C (3 + k) 4 - a) r := fun r hr => cMv_o hr
  exact h.same (fun f _ => by rw [e1 _ (by omega), mset_ne (by omega)]) (fun j hj f hf => by rw [e1 _ (by omega), mset_ne (by omega)]) (fun q hq => by rw [e1 _ (by omega), mset_o (by omega)])
theorem VI.meas {nl ns k : Nat} {p r : Int32} {C : Mem} (h : VI nl ns C) (hk : k < nl) (hp : money p) (hr : rateR r) : VI nl ns (cMeas (3 + k) p (C (3 + k) 1) r C) := by
  have a1 := h.1.1.2
  have c0 : cMeas (3 + k) p (C (3 + k) 1) r C (3 + k) 0 = p := by unfold cMeas; simp (disch := omega) only [mset_at, mset_ne]
  have c2 : cMeas (3 + k) p (C (3 + k) 1) r C (3 + k) 2 = r := by unfold cMeas; simp (disch := omega) only [mset_at, mset_ne]
  have ca := cMeas_at (k := 3 + k) (p := p) (n := C (3 + k) 1) (r := r) (V := C)
  refine h.lease hk (cMeas_o (by omega) (by omega)) (fun j hj hne => cMeas_o (by omega) (by omega)) (fun q hq => cMeas_o (by omega) (by omega)) (by rw [c0]; exact hp) (by rw [ca.2.2.1]; exact h.1.2.2.1 k hk) (by rw [c2]; exact hr) (by rw [c0, c2, ca.1, ca.2.2.1]) (fun q hq e => by rw [ca.2.2.1]; exact h.2.2.2 q hq k hk e)
theorem prt_le {P t : Nat} (hP : P ≤ 1000000000) (ht : t ≤ 1000) : prt (nI P) (nI t) = nI (P * t / 1000) ∧ P * t / 1000 ≤ P := by
  have h1 : P * t ≤ P * 1000 := Nat.mul_le_mul_left _ ht
  constructor
  · unfold prt
    rw [nI_l (by omega), nI_l (by omega), lN_mul]
    have e : (1000 : Int64) = lN 1000 := rfl
    rw [e, pk_lDiv (by omega) (by omega) (by omega), lN_i]
  · rw [Nat.div_le_iff_le_mul_add_pred (by omega)]
    omega
theorem part_of {t : Int32} (h : partR t) : ∃ j, j ≤ 1000 ∧ t = nI j := nI_of2 (n := 1000) (nI_toInt (by omega)) (fun q => absurd (Int32.le_trans (by decide) h.1) (Int32.not_le.mpr q)) h.2
theorem VI.endp {nl ns k : Nat} {t fee : Int32} {C : Mem} (h : VI nl ns C) (hk : k < nl) (ht : partR t) : VI nl ns (cEnd (3 + k) t fee C) := by
  have a1 := h.1.1.2
  have eo : ∀ r, r ≠ 3 + k → r ≠ 3 + k + 8 → cEnd (3 + k) t fee C r = C r := fun r h1 h2 => by
    unfold cEnd
    rw [cMv_o h2, cMv_o h2, cMv_o h2, mset_o h1, mset_o h1, mset_o h1]
  have f0 : cEnd (3 + k) t fee C (3 + k) 0 = C (3 + k) 0 - prt (C (3 + k) 0) t := by unfold cEnd cMv; simp (disch := omega) only [mset_at, mset_ne]
  have f1 : cEnd (3 + k) t fee C (3 + k) 1 = C (3 + k) 1 := by unfold cEnd cMv; simp (disch := omega) only [mset_ne]
  have f2 : cEnd (3 + k) t fee C (3 + k) 2 = C (3 + k) 2 := by unfold cEnd cMv; simp (disch := omega) only [mset_ne]
  have f3 : cEnd (3 + k) t fee C (3 + k) 3 = wor (C (3 + k) 0 - prt (C (3 + k) 0) t) (C (3 + k) 1) (C (3 + k) 2) := by
    unfold cEnd cMv cEndL
    simp (disch := omega) only [mset_at, mset_ne]
    exact sub_sub_self32
  obtain ⟨P, hP, eP⟩ := mon_of (h.2.1 k hk).1
  obtain ⟨T, hT, eT⟩ := part_of ht
  have pl := prt_le (P := P) (t := T) (by omega) hT
  refine h.lease hk (eo 0 (by omega) (by omega)) (fun j hj hne => eo _ (by omega) (by omega)) (fun q hq => eo _ (by omega) (by omega)) ?_ (by rw [f1]; exact h.1.2.2.1 k hk) (by rw [f2]; exact h.1.2.2.2.1 k hk) (by rw [f0, f1, f2, f3]) (fun q hq e => by rw [f1]; exact h.2.2.2 q hq k hk e)
  rw [f0, eP, eT, pl.1, pk_sub pl.2]
  exact ⟨nI_le (by omega) (by omega), nI_le (by omega) (by omega)⟩

/-! WHAT A STATE KEEPS: new rows, cut-offs, passing -/
theorem cBeg_f {k : Nat} {p n r c : Int32} {V : Mem} : cBeg k p n r c V k 0 = p ∧ cBeg k p n r c V k 1 = n ∧ cBeg k p n r c V k 2 = r ∧ cBeg k p n r c V k 3 = wor p n r := by
  unfold cBeg cMv
  refine ⟨?_, ?_, ?_, ?_⟩ <;> simp (disch := omega) only [mset_at, mset_ne]
theorem VI.opn {nl ns : Nat} {p n r c : Int32} {C : Mem} (h : VI nl ns C) (h8 : nl < 8) (hp : money p) (hn : perR n) (hr : rateR r) : VI (nl + 1) ns (cAddL nl p n r c C) := by
  have a12 := h.1.2.1.2
  have eo : ∀ q, q ≠ 0 → q ≠ 3 + nl → q ≠ 3 + nl + 8 → cAddL nl p n r c C q = C q := fun q h1 h2 h3 => cAddL_o h1 h2 h3
  have f := cBeg_f (k := 3 + nl) (p := p) (n := n) (r := r) (c := c) (V := mset C 0 2 (nI (nl + 1)))
  have ge : cAddL nl p n r c C = cBeg (3 + nl) p n r c (mset C 0 2 (nI (nl + 1))) := by unfold cAddL; rfl
  have g0 : cAddL nl p n r c C (3 + nl) 0 = p := by rw [ge]; exact f.1
  have g1 : cAddL nl p n r c C (3 + nl) 1 = n := by rw [ge]; exact f.2.1
  have g2 : cAddL nl p n r c C (3 + nl) 2 = r := by rw [ge]; exact f.2.2.1
  have g3 : cAddL nl p n r c C (3 + nl) 3 = wor p n r := by rw [ge]; exact f.2.2.2
  have e3 : cAddL nl p n r c C 0 3 = C 0 3 := by unfold cAddL; rw [cBeg_o (by omega) (by omega), mset_ne (by omega)]
  obtain ⟨⟨a1, a2, a3, a4, a5, a6⟩, b, cc, d⟩ := h
  refine ⟨⟨⟨cAddL_2, by omega⟩, ⟨by rw [e3]; exact a2.1, a2.2⟩, fun j hj => ?_, fun j hj => ?_, fun q hq => ?_, fun q hq => by rw [eo _ (by omega) (by omega) (by omega)]; exact a6 q hq⟩, fun j hj => ?_, fun q hq => by rw [eo _ (by omega) (by omega) (by omega)]; exact cc q hq, fun q hq j hj e => ?_⟩
  · by_cases e : j = nl
    · rw [e, g1]; exact hn
    · rw [eo _ (by omega) (by omega) (by omega)]; exact a3 j (by omega)
  · by_cases e : j = nl
    · rw [e, g2]; exact hr
    · rw [eo _ (by omega) (by omega) (by omega)]; exact a4 j (by omega)
  · obtain ⟨k, hk, e⟩ := a5 q hq
    exact ⟨k, by omega, by rw [eo _ (by omega) (by omega) (by omega)]; exact e⟩
  · by_cases e : j = nl
    · rw [e, g0, g1, g2, g3]
      exact ⟨hp, rfl⟩
    · rw [eo _ (by omega) (by omega) (by omega)]; exact b j (by omega)
  · obtain ⟨k, hk, e2⟩ := a5 q hq
    rw [eo _ (by omega) (by omega) (by omega)] at e ⊢
    have ek : j = k := (nI_eq (by omega) (by omega)).mp (e.symm.trans e2)
    rw [eo _ (by omega) (by omega) (by omega)]
    exact d q hq j (by omega) e
theorem cAddS_o {k ns r : Nat} {t rc n : Int32} {V : Mem} (h : r ≠ 0) (h1 : r ≠ 19 + ns) (h2 : r ≠ 3 + k) (h3 : r ≠ 3 + k + 8) : cAddS k ns t rc n V r = V r := by
  unfold cAddS cSubT
  rw [cMv_o h3, cMv_o h3, mset_o h2, mset_o h1, mset_o h1, mset_o h1, mset_o h1, mset_o h1, mset_o h1, mset_o h]
theorem cAddS_f {k ns : Nat} {t rc n : Int32} {V : Mem} (hk : k < 8) : cAddS k ns t rc n V (19 + ns) 0 = nI k ∧ cAddS k ns t rc n V (19 + ns) 2 = rc ∧ cAddS k ns t rc n V (19 + ns) 3 = n ∧ cAddS k ns t rc n V (19 + ns) 4 = V (3 + k) 2 ∧ cAddS k ns t rc n V (19 + ns) 5 = wor rc n (V (3 + k) 2) ∧ cAddS k ns t rc n V 0 3 = nI (ns + 1) ∧ cAddS k ns t rc n V 0 2 = V 0 2 ∧ ∀ f, f ≠ 4 → cAddS k ns t rc n V (3 + k) f = V (3 + k) f := by
  unfold cAddS cSubT cMv
  refine ⟨?_, ?_, ?_, ?_, ?_, ?_, ?_, fun f hf => ?_⟩ <;> simp (disch := omega) only [mset_at, mset_ne]
theorem VI.subl {nl ns k : Nat} {t rc n : Int32} {C : Mem} (h : VI nl ns C) (h12 : ns < 12) (hk : k < nl) (hn : perR n) (hle : n ≤ C (3 + k) 1) : VI nl (ns + 1) (cAddS k ns t rc n C) := by
  have a8 := h.1.1.2
  have f := cAddS_f (k := k) (ns := ns) (t := t) (rc := rc) (n := n) (V := C) (by omega)
  have eL : ∀ j, j < nl → ∀ i, i ≠ 4 → cAddS k ns t rc n C (3 + j) i = C (3 + j) i := fun j hj i hi => by
    by_cases e : j = k
    · subst e; exact f.2.2.2.2.2.2.2 i hi
    · rw [cAddS_o (by omega) (by omega) (by omega) (by omega)]
  have eS : ∀ q, q < ns → cAddS k ns t rc n C (19 + q) = C (19 + q) := fun q hq => cAddS_o (by omega) (by omega) (by omega) (by omega)
  obtain ⟨⟨a1, a2, a3, a4, a5, a6⟩, b, cc, d⟩ := h
  refine ⟨⟨⟨by rw [f.2.2.2.2.2.2.1]; exact a1.1, a1.2⟩, ⟨f.2.2.2.2.2.1, h12⟩, fun j hj => by rw [eL j hj 1 (by omega)]; exact a3 j hj, fun j hj => by rw [eL j hj 2 (by omega)]; exact a4 j hj, fun q hq => ?_, fun q hq => ?_⟩, fun j hj => by rw [eL j hj 0 (by omega), eL j hj 1 (by omega), eL j hj 2 (by omega), eL j hj 3 (by omega)]; exact b j hj, fun q hq => ?_, fun q hq j hj e => ?_⟩
  · by_cases e : q = ns
    · subst e; exact ⟨k, hk, f.1⟩
    · rw [eS q (by omega)]; exact a5 q (by omega)
  · by_cases e : q = ns
    · subst e; rw [f.2.2.2.1]; exact a4 k hk
    · rw [eS q (by omega)]; exact a6 q (by omega)
  · by_cases e : q = ns
    · subst e; rw [f.2.2.1, f.2.1, f.2.2.2.1, f.2.2.2.2.1]; exact ⟨hn, rfl⟩
    · rw [eS q (by omega)]; exact cc q (by omega)
  · rw [eL j hj 1 (by omega)]
    by_cases eq : q = ns
    · subst eq
      rw [f.1] at e
      have ek : k = j := (nI_eq (by omega) (by omega)).mp e
      subst ek
      rw [f.2.2.1]; exact hle
    · rw [eS q (by omega)] at e ⊢; exact d q (by omega) j hj e

/-! WHAT A STATE KEEPS: passing -/
theorem cPassSt_r {nl ns d r : Nat} {C : Mem} (h : CI nl ns C) (hr : r < 3) : cPassSt nl ns d C r = mset C 0 4 (C 0 4 + nI d) r := by
  have h8 := h.1.2
  unfold cPassSt
  have hh : hdR nl ns (cPLs d (mset C 0 4 (C 0 4 + nI d)) nl) := fun q hq => by
    rw [cPLs_o nl h8 (by omega), mset_o (by omega)]
    exact h.2.2.2.2.1 q hq
  rw [cPSs_o hh h8 ns (Nat.le_refl _) (by omega), cPLs_o nl h8 (by omega)]
theorem VI.pass {nl ns d : Nat} {C : Mem} (h : VI nl ns C) (hd : d ≤ 2000) : VI nl ns (cPassSt nl ns d C) := by
  have hp := h.passC hd
  have h8 := h.1.1.2
  have e0 : ∀ f, f ≠ 4 → cPassSt nl ns d C 0 f = C 0 f := fun f hf => by rw [cPassSt_r h.1 (by omega), mset_ne (by omega)]
  have l0 : ∀ k, k < nl → cPassSt nl ns d C (3 + k) 0 = C (3 + k) 0 := fun k hk => (hp.1 k hk).1 0 (by omega)
  have l1 : ∀ k, k < nl → cPassSt nl ns d C (3 + k) 1 = nI (pN C k - d) := fun k hk => (hp.1 k hk).1 1 (by omega)
  have l2 : ∀ k, k < nl → cPassSt nl ns d C (3 + k) 2 = C (3 + k) 2 := fun k hk => (hp.1 k hk).1 2 (by omega)
  have l3 : ∀ k, k < nl → cPassSt nl ns d C (3 + k) 3 = wor (C (3 + k) 0) (nI (pN C k - d)) (C (3 + k) 2) := fun k hk => (hp.1 k hk).1 3 (by omega)
  have s0 : ∀ q, q < ns → cPassSt nl ns d C (19 + q) 0 = C (19 + q) 0 := fun q hq => hp.2 q hq 0 (by omega)
  have s2 : ∀ q, q < ns → cPassSt nl ns d C (19 + q) 2 = C (19 + q) 2 := fun q hq => hp.2 q hq 2 (by omega)
  have s3 : ∀ q, q < ns → cPassSt nl ns d C (19 + q) 3 = nI (pQ C q - d) := fun q hq => hp.2 q hq 3 (by omega)
  have s4 : ∀ q, q < ns → cPassSt nl ns d C (19 + q) 4 = C (19 + q) 4 := fun q hq => hp.2 q hq 4 (by omega)
  have s5 : ∀ q, q < ns → cPassSt nl ns d C (19 + q) 5 = wor (C (19 + q) 2) (nI (pQ C q - d)) (C (19 + q) 4) := fun q hq => hp.2 q hq 5 (by omega)
  refine ⟨⟨⟨by rw [e0 2 (by omega)]; exact h.1.1.1, h8⟩, ⟨by rw [e0 3 (by omega)]; exact h.1.2.1.1, h.1.2.1.2⟩, fun k hk => ?_, fun k hk => by rw [l2 k hk]; exact h.1.2.2.2.1 k hk, fun q hq => by rw [s0 q hq]; exact h.1.2.2.2.2.1 q hq, fun q hq => by rw [s4 q hq]; exact h.1.2.2.2.2.2 q hq⟩, fun k hk => ?_, fun q hq => ?_, fun q hq k hk e => ?_⟩
  · rw [l1 k hk]
    have := (h.N hk).2
    exact ⟨nI_le (by omega) (by omega), nI_le (by omega) (by omega)⟩
  · rw [l0 k hk, l1 k hk, l2 k hk, l3 k hk]
    exact ⟨(h.2.1 k hk).1, rfl⟩
  · rw [s2 q hq, s3 q hq, s4 q hq, s5 q hq]
    have := (h.Q hq).2
    exact ⟨⟨nI_le (by omega) (by omega), nI_le (by omega) (by omega)⟩, rfl⟩
  · rw [s0 q hq] at e
    rw [s3 q hq, l1 k hk]
    have p1 := pH_of h.1.2.2.2.2.1 h8 hq
    have e1 : pH C q = k := (nI_eq (by omega) (by omega)).mp (p1.2.symm.trans e)
    have p2 := h.P hq
    rw [e1] at p2
    have := (h.N hk).2
    exact nI_le (by omega) (by omega)

/-! WHAT A STATE KEEPS: other terms -/
theorem cCut_up {k q : Nat} {W : Mem} : ∀ i, q < i → cCut k W i (19 + q) = cCutS k q (cCut k W q) (19 + q)
  | 0, h => absurd h (by omega)
  | i + 1, h => by
    by_cases e : q = i
    · subst e; rfl
    · show cCutS k i (cCut k W i) (19 + q) = _
      rw [cCutS_o (by omega)]
      exact cCut_up i (by omega)
theorem cCut_f {k q i : Nat} {n : Int32} {W : Mem} (hk : k < 8) (hq : q < i) (hn : W (3 + k) 1 = n) : (∀ f, f ≠ 3 → f ≠ 5 → cCut k W i (19 + q) f = W (19 + q) f) ∧ (runU W k q = true → cCut k W i (19 + q) 3 = mn (W (19 + q) 3) n ∧ cCut k W i (19 + q) 5 = wor (W (19 + q) 2) (mn (W (19 + q) 3) n) (W (19 + q) 4)) ∧ (¬ runU W k q = true → cCut k W i (19 + q) = W (19 + q)) := by
  have e1 : cCut k W q (19 + q) = W (19 + q) := cCut_o q (by omega)
  have e2 : cCut k W q (3 + k) 1 = n := by rw [cCut_o q (by omega)]; exact hn
  have e3 : runU (cCut k W q) k q = runU W k q := by unfold runU; rw [e1]
  rw [cCut_up i hq]
  unfold cCutS
  rw [e3]
  refine ⟨fun f h3 h5 => ?_, fun hr => ?_, fun hr => by rw [if_neg hr]; exact e1⟩
  · split
    · show mset (mset _ _ _ _) _ _ _ _ _ = _
      rw [mset_ne (by omega), mset_ne (by omega), e1]
    · rw [e1]
  · rw [if_pos hr]
    constructor
    · show mset (mset _ _ _ _) _ _ _ _ _ = _
      rw [mset_ne (by omega), mset_at, e1, e2]
    · show mset (mset _ _ _ _) _ _ _ _ _ = _
      rw [mset_at, mset_ne (by omega), mset_at, mset_ne (by omega), e1, e2]
theorem mn_le {a b : Int32} : mn a b ≤ b ∧ mn a b ≤ a := by
  unfold mn
  split
  · rename_i h; exact ⟨Int32.le_refl _, Int32.le_of_lt h⟩
  · rename_i h; exact ⟨Int32.not_lt.mp h, Int32.le_refl _⟩
theorem mn_ge {a b c : Int32} (h1 : c ≤ a) (h2 : c ≤ b) : c ≤ mn a b := by
  unfold mn
  split
  · exact h2
  · exact h1
theorem VI.term {nl ns k : Nat} {n r : Int32} {C : Mem} (h : VI nl ns C) (hk : k < nl) (hn : termR n) (hr : rateR r) : VI nl ns (cMeasSt k ns n r C) := by
  have h8 := h.1.1.2
  have h12 := h.1.2.1.2
  have c0 : cMeas (3 + k) (C (3 + k) 0) n r C (3 + k) 0 = C (3 + k) 0 := by unfold cMeas; simp (disch := omega) only [mset_at, mset_ne]
  have c2 : cMeas (3 + k) (C (3 + k) 0) n r C (3 + k) 2 = r := by unfold cMeas; simp (disch := omega) only [mset_at, mset_ne]
  have ca := cMeas_at (k := 3 + k) (p := C (3 + k) 0) (n := n) (r := r) (V := C)
  have hp : perR n := ⟨Int32.le_trans (by decide) hn.1, hn.2⟩
  have eM : ∀ q, q ≠ 3 + k + 8 → cMv (3 + k) 14 (cLoss (cMeas (3 + k) (C (3 + k) 0) n r C) ns k (cMeas (3 + k) (C (3 + k) 0) n r C (3 + k) 1)) (cMeas (3 + k) (C (3 + k) 0) n r C) q = cMeas (3 + k) (C (3 + k) 0) n r C q := fun q hq => cMv_o hq
  unfold cMeasSt cCutO
  generalize cMv (3 + k) 14 (cLoss (cMeas (3 + k) (C (3 + k) 0) n r C) ns k (cMeas (3 + k) (C (3 + k) 0) n r C (3 + k) 1)) (cMeas (3 + k) (C (3 + k) 0) n r C) = W at eM ⊢
  have wS : ∀ q, q < 12 → W (19 + q) = C (19 + q) := fun q hq => by rw [eM _ (by omega), cMeas_o (by omega) (by omega)]
  have wK : ∀ f, W (3 + k) f = cMeas (3 + k) (C (3 + k) 0) n r C (3 + k) f := fun f => by rw [eM _ (by omega)]
  have wN : W (3 + k) 1 = n := by rw [wK, ca.2.2.1]
  have dL : ∀ j, j < 8 → cCut k W ns (3 + j) = W (3 + j) := fun j hj => cCut_o ns (by omega)
  have d0 : cCut k W ns 0 = C 0 := by rw [cCut_o ns (by omega), eM _ (by omega), cMeas_o (by omega) (by omega)]
  have dJ : ∀ j, j < nl → j ≠ k → cCut k W ns (3 + j) = C (3 + j) := fun j hj hne => by rw [dL j (by omega), eM _ (by omega), cMeas_o (by omega) (by omega)]
  have dK : ∀ f, cCut k W ns (3 + k) f = cMeas (3 + k) (C (3 + k) 0) n r C (3 + k) f := fun f => by rw [dL k (by omega), wK]
  have cf := fun q (hq : q < ns) => cCut_f (k := k) (W := W) (n := n) (by omega) hq wN
  have eR : ∀ q, q < ns → runU W k q = runU C k q := fun q hq => by unfold runU; rw [wS q (by omega)]
  obtain ⟨⟨a1, a2, a3, a4, a5, a6⟩, b, cc, d⟩ := h
  refine ⟨⟨⟨by rw [d0]; exact a1.1, a1.2⟩, ⟨by rw [d0]; exact a2.1, a2.2⟩, fun j hj => ?_, fun j hj => ?_, fun q hq => by rw [(cf q hq).1 0 (by omega) (by omega), wS q (by omega)]; exact a5 q hq, fun q hq => by rw [(cf q hq).1 4 (by omega) (by omega), wS q (by omega)]; exact a6 q hq⟩, fun j hj => ?_, fun q hq => ?_, fun q hq j hj e => ?_⟩
  · by_cases e : j = k
    · rw [e, dK, ca.2.2.1]; exact hp
    · rw [dJ j hj e]; exact a3 j hj
  · by_cases e : j = k
    · rw [e, dK, c2]; exact hr
    · rw [dJ j hj e]; exact a4 j hj
  · by_cases e : j = k
    · rw [e, dK, dK, dK, dK, c0, c2, ca.1, ca.2.2.1]; exact ⟨(b k hk).1, rfl⟩
    · rw [dJ j hj e]; exact b j hj
  · by_cases hr2 : runU W k q = true
    · rw [((cf q hq).2.1 hr2).1, ((cf q hq).2.1 hr2).2, (cf q hq).1 2 (by omega) (by omega), (cf q hq).1 4 (by omega) (by omega), wS q (by omega)]
      exact ⟨⟨mn_ge (cc q hq).1.1 hp.1, Int32.le_trans mn_le.2 (cc q hq).1.2⟩, rfl⟩
    · rw [(cf q hq).2.2 hr2, wS q (by omega)]; exact cc q hq
  · rw [(cf q hq).1 0 (by omega) (by omega), wS q (by omega)] at e
    by_cases hr2 : runU W k q = true
    · rw [((cf q hq).2.1 hr2).1, wS q (by omega)]
      have e2 : C (19 + q) 0 = nI k := by rw [eR q hq] at hr2; exact (of_decide_eq_true hr2).1
      have ej : j = k := (nI_eq (by omega) (by omega)).mp (e.symm.trans e2)
      rw [ej, dK, ca.2.2.1]
      exact mn_le.1
    · rw [(cf q hq).2.2 hr2, wS q (by omega)]
      by_cases ej : j = k
      · rw [ej, dK, ca.2.2.1]
        rw [ej] at e
        have h3 : ¬ 0 < C (19 + q) 3 := fun z => hr2 (by rw [eR q hq]; exact decide_eq_true ⟨e, z⟩)
        exact Int32.le_trans (Int32.not_lt.mp h3) (Int32.le_trans (by decide) hn.1)
      · rw [dJ j hj ej]; exact d q hq j hj e

theorem cEnd_o {k r : Nat} {t fee : Int32} {V : Mem} (h : r ≠ k) (h2 : r ≠ k + 8) : cEnd k t fee V r = V r := by
  unfold cEnd
  rw [cMv_o h2, cMv_o h2, cMv_o h2, mset_o h, mset_o h, mset_o h]
theorem cImp_o {k r : Nat} {a : Int32} {V : Mem} (h : r ≠ k) (h2 : r ≠ k + 8) : cImp k a V r = V r := by
  unfold cImp
  rw [cMv_o h2, mset_o h]
theorem cMeasSt_o {k ns r : Nat} {n z : Int32} {V : Mem} (h12 : ns ≤ 12) (hk : k < 8) (h : r < 3 ∨ 31 ≤ r) : cMeasSt k ns n z V r = V r := by
  unfold cMeasSt cCutO
  rw [cCut_o ns (by omega), cMv_o (by omega), cMeas_o (by omega) (by omega)]
theorem cPassSt_o {nl ns d r : Nat} {C : Mem} (h : CI nl ns C) (hr : 31 ≤ r) : cPassSt nl ns d C r = C r := by
  have h8 := h.1.2
  have h12 := h.2.1.2
  unfold cPassSt
  have hh : hdR nl ns (cPLs d (mset C 0 4 (C 0 4 + nI d)) nl) := fun q hq => by
    rw [cPLs_o nl h8 (by omega), mset_o (by omega)]
    exact h.2.2.2.2.1 q hq
  rw [cPSs_o hh h8 ns (Nat.le_refl _) (by omega), cPLs_o nl h8 (by omega), mset_o (by omega)]
theorem cAddL_4 {nl : Nat} {p n z c : Int32} {V : Mem} : cAddL nl p n z c V 0 4 = V 0 4 := by
  unfold cAddL
  rw [cBeg_o (by omega) (by omega), mset_ne (by omega)]
theorem cAddS_4 {k ns : Nat} {t rc n : Int32} {V : Mem} : cAddS k ns t rc n V 0 4 = V 0 4 := by
  unfold cAddS cSubT
  rw [cMv_o (by omega), cMv_o (by omega), mset_o (by omega), mset_o (by omega), mset_o (by omega), mset_o (by omega), mset_o (by omega), mset_o (by omega), mset_o (by omega), mset_ne (by omega)]
/-- receipts are money -/
def SM (ns : Nat) (V : Mem) : Prop := ∀ q, q < ns → money (V (19 + q) 2)
theorem SM.same {ns : Nat} {V V' : Mem} (h : SM ns V) (e : ∀ q, q < ns → V' (19 + q) 2 = V (19 + q) 2) : SM ns V' := fun q hq => by rw [e q hq]; exact h q hq
theorem SM.term {nl ns k : Nat} {n r : Int32} {C : Mem} (h : SM ns C) (hV : VI nl ns C) (hk : k < nl) : SM ns (cMeasSt k ns n r C) := by
  have h8 := hV.1.1.2
  have h12 := hV.1.2.1.2
  refine h.same (fun q hq => ?_)
  unfold cMeasSt cCutO
  rw [(cCut_f (k := k) (n := _) (by omega) hq rfl).1 2 (by omega) (by omega), cMv_o (by omega), cMeas_o (by omega) (by omega)]
theorem SM.pass {nl ns d : Nat} {C : Mem} (h : SM ns C) (hV : VI nl ns C) (hd : d ≤ 2000) : SM ns (cPassSt nl ns d C) :=
  h.same (fun q hq => (hV.passC hd).2 q hq 2 (by omega))
theorem SM.subl {nl ns k : Nat} {t rc n : Int32} {C : Mem} (h : SM ns C) (hV : VI nl ns C) (hk : k < nl) (hr : money rc) : SM (ns + 1) (cAddS k ns t rc n C) := by
  have h8 := hV.1.1.2
  intro q hq
  by_cases e : q = ns
  · subst e; rw [(cAddS_f (by omega)).2.1]; exact hr
  · rw [cAddS_o (by omega) (by omega) (by omega) (by omega)]; exact h q (by omega)
