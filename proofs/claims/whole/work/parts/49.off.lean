/-! SHARES: class and model -/
theorem wor_of {p n z : Int32} (hp : money p) (hn : perR n) (hz : rateR z) : ∃ w, w ≤ 6000000 ∧ wor p n z = nI w := by
  obtain ⟨P, h1, rfl⟩ := mon_of hp
  obtain ⟨N, h2, rfl⟩ := per_of hn
  obtain ⟨R, h3, rfl⟩ := rate_of hz
  exact ⟨wN P R N, wN_b h1 h2, wor_N h1 h2 h3⟩
theorem VI.sum3 {nl ns : Nat} {C : Mem} (h : VI nl ns C) : ∀ j, j ≤ nl → ∃ S, S ≤ 6000000 * j ∧ cSumL C j ns 3 = nI S
  | 0, _ => ⟨0, by omega, rfl⟩
  | j + 1, hj => by
    obtain ⟨S, h1, h2⟩ := VI.sum3 h j (by omega)
    have hL := h.2.1 j (by omega)
    obtain ⟨w, h3, h4⟩ := wor_of hL.1 (h.1.2.2.1 j (by omega)) (h.1.2.2.2.1 j (by omega))
    refine ⟨S + w, by omega, ?_⟩
    unfold cSumL at h2 ⊢
    rw [sF, if_pos rfl, h2, show cProp C ns j 3 = C (3 + j) 3 from rfl, hL.2, h4, nI_add]
theorem Rl.off {nl ns : Nat} {C Z : Mem} (h : Rl nl ns C Z) (hV : VI nl ns C) : rOff Z nl ns = cOff C nl ns := by
  have h8 := hV.1.1.2
  obtain ⟨S, h1, h2⟩ := hV.sum3 nl (Nat.le_refl _)
  unfold rOff cOff
  rw [h.ofL hV.2.2.1 (by omega) nl (Nat.le_refl _), h.ofL hV.2.2.1 (by omega) nl (Nat.le_refl _), h2]
  by_cases hS : S = 0
  · rw [hS, if_pos (by decide), if_neg (by decide)]
  · rw [if_neg (nI_ne0 (by omega) (by omega)), if_pos (Int32.not_le.mp (nI_nle (by omega) (by omega)))]
