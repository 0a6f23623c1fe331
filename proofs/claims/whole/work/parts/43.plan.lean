/-! PLANS: one lease passes alone -/
def oK (k n : Nat) : Nat → Nat := fun j => if j = k then n else 0
def oS (C : Mem) (k n : Nat) : Nat → Nat := fun q => if C (19 + q) 0 = nI k then n else 0
theorem PZ.pln {C Z : Mem} {nl ns k : Nat} (h : PZ C nl ns (fun _ => 0) (fun _ => 0) Z) (hV : VI nl ns C) (hk : k < nl) : ∀ n, PZ C nl ns (oK k n) (oS C k n) (rPLn k ns Z n)
  | 0 => PF.congr h (fun j _ => by unfold oK; split <;> rfl) (fun q _ => by unfold oS; split <;> rfl)
  | n + 1 => by
    have ih := PZ.pln h hV hk n
    have h8 := hV.1.1.2
    have st := ih.pl h8 hk (hV.N hk).2 (fun q hq => (hV.Q hq).2) (fun he q hq hq2 => by
      have p1 := pH_of hV.1.2.2.2.2.1 h8 hq
      have e1 : pH C q = k := (nI_eq (by omega) (by omega)).mp (p1.2.symm.trans hq2)
      have p2 := hV.P hq
      rw [e1] at p2
      unfold oK at he
      rw [if_pos rfl] at he
      unfold oS
      rw [if_pos hq2]
      omega)
    refine PF.congr st (fun j hj => ?_) (fun q hq => ?_)
    · unfold up1 oK
      by_cases e : j = k
      · rw [if_pos e, if_pos e, if_pos e]
      · rw [if_neg e, if_neg e, if_neg e]
    · unfold upS oS
      by_cases e : C (19 + q) 0 = nI k
      · rw [if_pos e, if_pos ⟨hq, e⟩, if_pos e]
      · rw [if_neg e, if_neg (fun z => e z.2), if_neg e]
theorem PZ.sub5 {C Z : Mem} {nl ns k n : Nat} {e : Nat → Nat} (h : PZ C nl ns e (oS C k n) Z) (hV : VI nl ns C) (hn : n ≤ 2000) : ∀ i, i ≤ ns → rSubs Z k (nI 5) i = sF (runU C k) (fun q => wor (C (19 + q) 2) (C (19 + q) 3 - nI n) (C (19 + q) 4)) i
  | 0, _ => rfl
  | i + 1, hi => by
    have ih := PZ.sub5 h hV hn i (by omega)
    have g0 : Z 225 (179 + 6 * i) = C (19 + i) 0 := h.2 i (by omega) 0 (by omega)
    have g5 : Z 225 (179 + 6 * i + 5) = pRec C i (oS C k n i) := h.2 i (by omega) 5 (by omega)
    have q1 := hV.Q (show i < ns by omega)
    rw [rSubs, sF, ih, g0, g5, if_pos (rfl : nI 5 = nI 5)]
    unfold runU
    by_cases h1 : C (19 + i) 0 = nI k
    · rw [if_pos h1]
      have e1 : oS C k n i = n := if_pos h1
      have e2 : wor (C (19 + i) 2) (C (19 + i) 3 - nI n) (C (19 + i) 4) = pRec C i n := by rw [q1.1, wor_sub (by omega) (by omega)]; rfl
      rw [e1, e2]
      by_cases h2 : 0 < C (19 + i) 3
      · rw [if_pos (decide_eq_true ⟨h1, h2⟩)]
      · rw [if_neg (fun z => h2 (of_decide_eq_true z).2)]
        have e3 : pQ C i = 0 := by
          rw [q1.1] at h2
          rcases Nat.eq_zero_or_pos (pQ C i) with a | a
          · exact a
          · exact absurd (Int32.not_le.mp (nI_nle a (by omega))) h2
        have e4 : pRec C i n = nI 0 := by unfold pRec; rw [e3, Nat.zero_sub]; exact wor_0 (by decide)
        rw [e4, i_add0]
    · rw [if_neg h1, if_neg (fun z => h1 (of_decide_eq_true z).1)]
theorem Rl.plan {C Z : Mem} {nl ns k n w : Nat} (h : Rl nl ns C Z) (hV : VI nl ns C) (hk : k < nl) (hn : n ≤ 60) (hw : w < 4) : rPlan Z k ns n w = cPlan C k ns n w := by
  have h0 := h.pz hV.pc
  have hp := fun j => h0.pln hV hk j
  have n1 := hV.N hk
  have eN : (C (3 + k) 1).toNatClampNeg = pN C k := rfl
  unfold rPlan cPlan rLeaseOf
  rcases (show w = 0 ∨ w = 1 ∨ w = 2 ∨ w = 3 by omega) with rfl | rfl | rfl | rfl
  · rw [if_neg (by omega), if_pos (by omega), if_pos rfl, n1.1, wor_sub (by omega) (by omega)]
    exact (((hp n).1 k hk).1 3 (by omega)).trans (by unfold oK; rw [if_pos rfl]; rfl)
  · rw [if_neg (by omega), if_pos (by omega), if_neg (by omega), if_pos rfl, eN]
    exact (((hp n).1 k hk).1 4 (by omega)).trans (by unfold oK; rw [if_pos rfl]; rfl)
  · rw [if_neg (by omega), if_neg (by omega), if_neg (by omega), if_neg (by omega), if_neg (by omega), if_pos rfl]
    exact (hp n).sub5 hV (by omega) ns (Nat.le_refl _)
  · rw [if_pos rfl, if_neg (by omega), if_neg (by omega), if_neg (by omega)]
    have mv : ∀ j, rMoved (rPLn k ns Z j) k 1 = C (3 + k + 8) 1 + (pL C k j 3 - C (3 + k) 3 + C (3 + k) 0 * nI (min j (pN C k))) := fun j => (((hp j).1 k hk).2 1 (by omega)).trans (by unfold oK; rw [if_pos rfl]; rfl)
    cases n with
    | zero =>
      rw [if_neg (fun z => absurd z.1 (by decide))]
      show rMoved (rPLn k ns Z 0) k 1 - rMoved Z k 1 = nI 0
      exact Int32.sub_self _
    | succ j =>
      show rMoved (rPLn k ns Z (j + 1)) k 1 - rMoved (rPLn k ns Z j) k 1 = _
      have e1 : nI (j + 1) - nI 1 = nI j := by rw [pk_sub (by omega)]; rfl
      rw [mv, mv, e1, n1.1, wor_sub (by omega) (by omega), wor_sub (by omega) (by omega)]
      by_cases hj : j + 1 ≤ pN C k
      · rw [if_pos ⟨nI_le (by omega) (by omega), nI_le hj (by omega)⟩, show min (j + 1) (pN C k) = min j (pN C k) + 1 by omega, nI_succ]
        show _ = pL C k (j + 1) 3 - pL C k j 3 + C (3 + k) 0
        grind
      · rw [if_neg (fun z => hj (i_ge (by omega) (by omega) z.2)), show min (j + 1) (pN C k) = min j (pN C k) by omega]
        have e2 : pL C k (j + 1) 3 = pL C k j 3 := by
          show wor _ (nI (pN C k - (j + 1))) _ = wor _ (nI (pN C k - j)) _
          rw [show pN C k - (j + 1) = pN C k - j by omega]
        rw [e2]
        exact Int32.sub_self _
