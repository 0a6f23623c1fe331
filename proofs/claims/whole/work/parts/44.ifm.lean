/-! IF MEASURED, PAYMENTS, RATES, RECEIPTS: class and model -/
theorem cMeas_at {k : Nat} {p n r : Int32} {V : Mem} : cMeas k p n r V k 3 = wor p n r ∧ cMeas k p n r V k 4 = mx (nI 0) (V k 4 + wor p n r - V k 3) ∧ cMeas k p n r V k 1 = n ∧ cMeas k p n r V (k + 8) 3 = V (k + 8) 3 + (wor p n r - V k 3) ∧ cMeas k p n r V (k + 8) 7 = V (k + 8) 7 + (mx (nI 0) (V k 4 + wor p n r - V k 3) - V k 4) ∧ ∀ m, m ≠ 3 → m ≠ 7 → cMeas k p n r V (k + 8) m = V (k + 8) m := by
  unfold cMeas cMv
  refine ⟨?_, ?_, ?_, ?_, ?_, fun m h1 h2 => ?_⟩ <;> simp (disch := omega) only [mset_at, mset_ne]
theorem Rl.measG {nl ns k : Nat} {p n r : Int32} {C Z : Mem} (h : Rl nl ns C Z) (h8 : nl ≤ 8) (h12 : ns ≤ 12) (hk : k < nl) (hS : SI ns C) (h1 : nI 1 ≤ n) : Rl nl ns (cMv (3 + k) 14 (cLoss C ns k n) (cCut k (cMeas (3 + k) p n r C) ns)) (rMeas k p n r ns Z) := by
  unfold rMeas
  have h0 := h.meas0 (p := p) (n := n) (r := r) h8 h12 hk
  have eq : ∀ q, cMeas (3 + k) p n r C (19 + q) = C (19 + q) := fun q => cMeas_o (by omega) (by omega)
  have hS0 : SI ns (cMeas (3 + k) p n r C) := fun q hq => by rw [eq]; exact hS q hq
  have eL : cLoss C ns k n = sF (runU (cMeas (3 + k) p n r C) k) (fun q => cMeas (3 + k) p n r C (19 + q) 5 - wor (cMeas (3 + k) p n r C (19 + q) 2) (mn (cMeas (3 + k) p n r C (19 + q) 3) n) (cMeas (3 + k) p n r C (19 + q) 4)) ns := by
    unfold cLoss
    have e1 : runU (cMeas (3 + k) p n r C) k = runU C k := by funext q; unfold runU; rw [eq]
    rw [e1]
    exact sF_congr ns (fun q _ _ => by rw [eq])
  rw [eL]
  exact h0.cut h8 h12 hk hS0 cMeas_at.2.2.1 h1 ns (Nat.le_refl _)
theorem Rl.ifm {nl ns k w : Nat} {p n r : Int32} {C Z : Mem} (h : Rl nl ns C Z) (h8 : nl ≤ 8) (h12 : ns ≤ 12) (hk : k < nl) (hS : SI ns C) (h1 : nI 1 ≤ n) (hw : w < 3) : rMsd Z k ns p n r w = cIfM C k ns p n r w := by
  have hR := h.measG (p := p) (r := r) h8 h12 hk hS h1
  have c1 := cMeas_at (k := 3 + k) (p := p) (n := n) (r := r) (V := C)
  have eK : ∀ f, cMv (3 + k) 14 (cLoss C ns k n) (cCut k (cMeas (3 + k) p n r C) ns) (3 + k) f = cMeas (3 + k) p n r C (3 + k) f := fun f => by rw [cMv_o (by omega), cCut_o ns (by omega)]
  unfold rMsd cIfM
  rcases (show w = 0 ∨ w = 1 ∨ w = 2 by omega) with rfl | rfl | rfl
  · rw [if_neg (by omega), if_pos rfl]
    exact (hR.f hk (j := 3) (by omega)).trans ((eK 3).trans c1.1)
  · rw [if_neg (by omega), if_neg (by omega), if_pos rfl]
    exact (hR.f hk (j := 4) (by omega)).trans ((eK 4).trans c1.2.1)
  · rw [if_pos rfl, if_neg (by omega), if_neg (by omega), hR.prof0 hk, h.prof0 hk]
    have eM : ∀ m, m ≠ 14 → cMv (3 + k) 14 (cLoss C ns k n) (cCut k (cMeas (3 + k) p n r C) ns) (3 + k + 8) m = cMeas (3 + k) p n r C (3 + k + 8) m := fun m hm => by
      unfold cMv
      rw [mset_ne (by omega), cCut_o ns (by omega)]
    have eM14 : cMv (3 + k) 14 (cLoss C ns k n) (cCut k (cMeas (3 + k) p n r C) ns) (3 + k + 8) 14 = cMeas (3 + k) p n r C (3 + k + 8) 14 + cLoss C ns k n := by
      unfold cMv
      rw [mset_at, cCut_o ns (by omega)]
    unfold cProf0
    dsimp only
    rw [eM14, eM 7 (by omega), eM 3 (by omega), eM 1 (by omega), eM 6 (by omega), eM 4 (by omega), eM 8 (by omega), eM 16 (by omega), eM 11 (by omega), eM 9 (by omega), eM 12 (by omega), eM 10 (by omega), c1.2.2.2.1, c1.2.2.2.2.1, c1.2.2.2.2.2 1 (by omega) (by omega), c1.2.2.2.2.2 6 (by omega) (by omega), c1.2.2.2.2.2 4 (by omega) (by omega), c1.2.2.2.2.2 8 (by omega) (by omega), c1.2.2.2.2.2 16 (by omega) (by omega), c1.2.2.2.2.2 11 (by omega) (by omega), c1.2.2.2.2.2 9 (by omega) (by omega), c1.2.2.2.2.2 12 (by omega) (by omega), c1.2.2.2.2.2 14 (by omega) (by omega), c1.2.2.2.2.2 10 (by omega) (by omega)]
    grind
theorem Rl.pay {nl ns k : Nat} {li : Int32} {C Z : Mem} (h : Rl nl ns C Z) (hI : CI nl ns C) (hk : k < nl) (hl : nI 0 ≤ li) : rPay Z k li = cPayF C k li := by
  unfold rPay cPayF
  rw [h.f hk (j := 1) (by omega), h.f hk (j := 2) (by omega), pay_eq (hI.2.2.1 k hk) (hI.2.2.2.1 k hk) hl]
theorem Rl.rate {nl ns k : Nat} {C Z : Mem} (h : Rl nl ns C Z) (hI : CI nl ns C) (hL : LI nl C) (hk : k < nl) : rRate Z k = cRate C k := by
  unfold rRate cRate
  rw [h.f0 hk, h.f hk (j := 1) (by omega), h.f hk (j := 4) (by omega), rate_eq (hL k hk).1 (hI.2.2.1 k hk)]
theorem Rl.recp {nl ns k : Nat} {t n : Int32} {C Z : Mem} (h : Rl nl ns C Z) (hI : CI nl ns C) (hk : k < nl) (hn : termR n) (e1 : Z 225 1 = C 0 3) : rRec Z k ns t n = cRec C k ns t n := by
  have hp : perR n := ⟨Int32.le_trans (by decide) hn.1, hn.2⟩
  have hm := h.may (t := t) hk hn.1 e1
  unfold rRec cRec
  rw [h.f hk (j := 4) (by omega), h.f hk (j := 2) (by omega)]
  by_cases hM : n ≤ C (3 + k) 1 ∧ C 0 3 < nI 12 ∧ cSub C ns k 1 + t ≤ nI 1000
  · rw [if_pos hM, ← rec_eq hp (hI.2.2.2.1 k hk)]
    by_cases h2 : prt (C (3 + k) 4) t ≤ wor (nI 100000) n (C (3 + k) 2)
    · rw [if_pos ⟨hm.mpr hM, h2⟩, if_pos h2]
    · rw [if_neg (fun z => h2 z.2), if_neg h2]
  · rw [if_neg (fun z => hM (hm.mp z.1)), if_neg hM]
