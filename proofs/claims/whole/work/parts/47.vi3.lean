/-! WHAT A STATE KEEPS: passing -/
theorem cPassSt_r {nl ns d r : Nat} {C : Mem} (h : CI nl ns C) (hr : r < 3) : cPassSt nl ns d C r = mset C 0 4 (C 0 4 + nI d) r := by
  have h8 := h.1.2
  unfold cPassSt
  have hh : hdR nl ns (cPLs d (mset C 0 4 (C 0 4 + nI d)) nl) := fun q hq => by
    rw [cPLs_o nl h8 (by omega), mset_o (by omega)]
    exact h.2.2.2.2.1 q hq
  rw [cPSs_o hh h8 ns (Nat.le_refl _) (by omega), cPLs_o nl h8 (by omega)]
theorem VI.pass {nl ns d : Nat} {C : Mem} (h : VI nl ns C) (hd : d ≤ 2000) : VI nl ns (cPassSt nl ns d C) := by
  have hp := h.passC hd
  have h8 := h.1.1.2
  have e0 : ∀ f, f ≠ 4 → cPassSt nl ns d C 0 f = C 0 f := fun f hf => by rw [cPassSt_r h.1 (by omega), mset_ne (by omega)]
  have l0 : ∀ k, k < nl → cPassSt nl ns d C (3 + k) 0 = C (3 + k) 0 := fun k hk => (hp.1 k hk).1 0 (by omega)
  have l1 : ∀ k, k < nl → cPassSt nl ns d C (3 + k) 1 = nI (pN C k - d) := fun k hk => (hp.1 k hk).1 1 (by omega)
  have l2 : ∀ k, k < nl → cPassSt nl ns d C (3 + k) 2 = C (3 + k) 2 := fun k hk => (hp.1 k hk).1 2 (by omega)
  have l3 : ∀ k, k < nl → cPassSt nl ns d C (3 + k) 3 = wor (C (3 + k) 0) (nI (pN C k - d)) (C (3 + k) 2) := fun k hk => (hp.1 k hk).1 3 (by omega)
  have s0 : ∀ q, q < ns → cPassSt nl ns d C (19 + q) 0 = C (19 + q) 0 := fun q hq => hp.2 q hq 0 (by omega)
  have s2 : ∀ q, q < ns → cPassSt nl ns d C (19 + q) 2 = C (19 + q) 2 := fun q hq => hp.2 q hq 2 (by omega)
  have s3 : ∀ q, q < ns → cPassSt nl ns d C (19 + q) 3 = nI (pQ C q - d) := fun q hq => hp.2 q hq 3 (by omega)
  have s4 : ∀ q, q < ns → cPassSt nl ns d C (19 + q) 4 = C (19 + q) 4 := fun q hq => hp.2 q hq 4 (by omega)
  have s5 : ∀ q, q < ns → cPassSt nl ns d C (19 + q) 5 = wor (C (19 + q) 2) (nI (pQ C q - d)) (C (19 + q) 4) := fun q hq => hp.2 q hq 5 (by omega)
  refine ⟨⟨⟨by rw [e0 2 (by omega)]; exact h.1.1.1, h8⟩, ⟨by rw [e0 3 (by omega)]; exact h.1.2.1.1, h.1.2.1.2⟩, fun k hk => ?_, fun k hk => by rw [l2 k hk]; exact h.1.2.2.2.1 k hk, fun q hq => by rw [s0 q hq]; exact h.1.2.2.2.2.1 q hq, fun q hq => by rw [s4 q hq]; exact h.1.2.2.2.2.2 q hq⟩, fun k hk => ?_, fun q hq => ?_, fun q hq k hk e => ?_⟩
  · rw [l1 k hk]
    have := (h.N hk).2
    exact ⟨nI_le (by omega) (by omega), nI_le (by omega) (by omega)⟩
  · rw [l0 k hk, l1 k hk, l2 k hk, l3 k hk]
    exact ⟨(h.2.1 k hk).1, rfl⟩
  · rw [s2 q hq, s3 q hq, s4 q hq, s5 q hq]
    have := (h.Q hq).2
    exact ⟨⟨nI_le (by omega) (by omega), nI_le (by omega) (by omega)⟩, rfl⟩
  · rw [s0 q hq] at e
    rw [s3 q hq, l1 k hk]
    have p1 := pH_of h.1.2.2.2.2.1 h8 hq
    have e1 : pH C q = k := (nI_eq (by omega) (by omega)).mp (p1.2.symm.trans e)
    have p2 := h.P hq
    rw [e1] at p2
    have := (h.N hk).2
    exact nI_le (by omega) (by omega)
