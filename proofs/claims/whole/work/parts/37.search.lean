/-! SEARCHES: bit by bit, by halves, by counting down: the same bound -/
theorem top_of {f : Nat → Prop} [DecidablePred f] (hm : ∀ a b, a ≤ b → f b → f a) (h0 : f 0) : ∀ n : Nat, ¬ f n → ∃ M, M < n ∧ ∀ b, f b ↔ b ≤ M
  | 0, hn => absurd h0 hn
  | n + 1, hn => by
    by_cases h : f n
    · exact ⟨n, by omega, fun b => ⟨fun hb => by
        rcases Nat.lt_or_ge n b with q | q
        · exact absurd (hm _ _ q hb) hn
        · exact q, fun hb => hm _ _ hb h⟩⟩
    · obtain ⟨M, h1, h2⟩ := top_of hm h0 n h
      exact ⟨M, by omega, h2⟩
theorem gpF_top {f : Nat → Bool} {M : Nat} (hf : ∀ b, f b = true ↔ b ≤ M) : ∀ j a, a ≤ M → M < a + 2 ^ j → gpF f j a = M
  | 0, a, h1, h2 => by rw [gpF]; omega
  | j + 1, a, h1, h2 => by
    have h3 : 2 ^ (j + 1) = 2 ^ j + 2 ^ j := by rw [Nat.pow_succ]; omega
    rw [gpF]
    by_cases h : f (a + 2 ^ j) = true
    · rw [if_pos h]; exact gpF_top hf j _ ((hf _).mp h) (by omega)
    · rw [if_neg h]
      have := mt (hf (a + 2 ^ j)).mpr h
      exact gpF_top hf j a h1 (by omega)
theorem rBs_top {f : Nat → Bool} {M H : Nat} (hf : ∀ b, b ≤ H → (f b = true ↔ b ≤ M)) : ∀ n lo hi, lo ≤ M → M ≤ hi → hi ≤ H → hi - lo ≤ n → rBs f n lo hi = M
  | 0, lo, hi, h1, h2, h3, h4 => by rw [rBs]; omega
  | n + 1, lo, hi, h1, h2, h3, h4 => by
    rw [rBs]
    by_cases hlt : lo < hi
    · rw [if_pos hlt]
      by_cases h : f ((lo + hi + 1) / 2) = true
      · rw [if_pos h]; exact rBs_top hf n _ _ ((hf _ (by omega)).mp h) h2 h3 (by omega)
      · rw [if_neg h]
        have := mt (hf ((lo + hi + 1) / 2) (by omega)).mpr h
        exact rBs_top hf n _ _ h1 (by omega) (by omega) (by omega)
    · rw [if_neg hlt]; omega
theorem rBl_top {f : Nat → Bool} {M H : Nat} (hf : ∀ b, b ≤ H → (f b = true ↔ M ≤ b)) : ∀ n lo hi, lo ≤ M → M ≤ hi → hi ≤ H → hi - lo ≤ n → rBl f n lo hi = M
  | 0, lo, hi, h1, h2, h3, h4 => by rw [rBl]; omega
  | n + 1, lo, hi, h1, h2, h3, h4 => by
    rw [rBl]
    by_cases hlt : lo < hi
    · rw [if_pos hlt]
      by_cases h : f ((lo + hi) / 2) = true
      · rw [if_pos h]; exact rBl_top hf n _ _ h1 ((hf _ (by omega)).mp h) (by omega) (by omega)
      · rw [if_neg h]
        have := mt (hf ((lo + hi) / 2) (by omega)).mpr h
        exact rBl_top hf n _ _ (by omega) h2 h3 (by omega)
    · rw [if_neg hlt]; omega
theorem rSc_top {f : Nat → Bool} {M : Nat} : ∀ n, M < n → (∀ b, b < n → (f b = true ↔ b ≤ M)) → rSc f n = nI M
  | 0, h, _ => absurd h (by omega)
  | n + 1, h, hf => by
    rw [rSc]
    by_cases e : f n = true
    · rw [if_pos e]
      have := (hf n (by omega)).mp e
      rw [show n = M by omega]
    · rw [if_neg e]
      have : ¬ n ≤ M := mt (hf n (by omega)).mpr e
      exact rSc_top n (by omega) (fun b hb => hf b (by omega))
theorem rSc_none {f : Nat → Bool} : ∀ n, (∀ b, b < n → ¬ f b = true) → rSc f n = -1
  | 0, _ => rfl
  | n + 1, hf => by rw [rSc, if_neg (hf n (by omega))]; exact rSc_none n (fun b hb => hf b (by omega))
/-! worths as natural numbers -/
def wN (P z : Nat) : Nat → Nat
  | 0 => 0
  | i + 1 => ((wN P z i + P) * 20000 + (10000 + z)) / (2 * (10000 + z))
theorem wN_step {P z w : Nat} : ((w + P) * 20000 + (10000 + z)) / (2 * (10000 + z)) ≤ w + P := by
  rw [Nat.div_le_iff_le_mul_add_pred (by omega)]
  have : 2 * (10000 + z) * (w + P) = (w + P) * 20000 + 2 * z * (w + P) := by rw [Nat.mul_add 2, Nat.add_mul, Nat.mul_comm (2 * 10000)]
  omega
theorem wN_le {P z : Nat} : ∀ i, wN P z i ≤ P * i
  | 0 => Nat.le_refl _
  | i + 1 => by
    have h1 := wN_le (P := P) (z := z) i
    have h2 : P * (i + 1) = P * i + P := Nat.mul_succ P i
    rw [wN]
    exact Nat.le_trans wN_step (by omega)
theorem wN_mono {P P' z : Nat} (h : P ≤ P') : ∀ i, wN P z i ≤ wN P' z i
  | 0 => Nat.le_refl _
  | i + 1 => by
    have h1 := wN_mono (z := z) h i
    rw [wN, wN]
    exact Nat.div_le_div_right (Nat.add_le_add_right (Nat.mul_le_mul_right _ (Nat.add_le_add h1 h)) _)
theorem wN_anti {P z z' : Nat} (h : z ≤ z') : ∀ i, wN P z' i ≤ wN P z i
  | 0 => Nat.le_refl _
  | i + 1 => by
    have h1 := wN_anti (P := P) h i
    rw [wN, wN]
    rw [Nat.le_div_iff_mul_le (by omega)]
    have e1 := Nat.div_mul_le_self ((wN P z' i + P) * 20000 + (10000 + z')) (2 * (10000 + z'))
    generalize ((wN P z' i + P) * 20000 + (10000 + z')) / (2 * (10000 + z')) = x at e1 ⊢
    have e2 : x * (2 * (10000 + z')) = x * (2 * (10000 + z)) + x * (2 * (z' - z)) := by rw [← Nat.mul_add]; congr 1; omega
    by_cases hx : x = 0
    · subst hx; omega
    · have e3 : 2 * (z' - z) ≤ x * (2 * (z' - z)) := Nat.le_mul_of_pos_left _ (by omega)
      have e4 : (wN P z' i + P) * 20000 ≤ (wN P z i + P) * 20000 := Nat.mul_le_mul_right _ (by omega)
      omega
