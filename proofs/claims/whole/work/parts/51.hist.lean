/-! HISTORY: what a copied state holds -/
theorem cCpy_f {k j : Nat} {V : Mem} (h : k ≠ j) : (∀ f, f < 5 → cCpy k j V k f = V j f) ∧ ((h2 : k ≠ j + 8) → (h3 : k + 8 ≠ j + 8) → ∀ m, m < 17 → cCpy k j V (k + 8) m = V (j + 8) m) := by
  have e5 : ∀ f, f < 5 → cCpy5 k j V k f = V j f := fun f hf => by
    unfold cCpy5
    rcases (show f = 0 ∨ f = 1 ∨ f = 2 ∨ f = 3 ∨ f = 4 by omega) with rfl | rfl | rfl | rfl | rfl <;> simp (disch := omega) only [mset_at, mset_ne]
  refine ⟨fun f hf => ?_, fun h2 h3 m hm => ?_⟩
  · unfold cCpy
    rw [rcpy_ne (by omega)]
    exact e5 f hf
  · unfold cCpy rcpy
    rw [if_pos ⟨rfl, hm⟩]
    unfold cCpy5
    simp (disch := omega) only [mset_ne]
theorem sCpy_f {k j : Nat} {V : Mem} (h : k ≠ j) : ∀ f, f < 6 → sCpy k j V k f = V j f := fun f hf => by
  unfold sCpy
  rcases (show f = 0 ∨ f = 1 ∨ f = 2 ∨ f = 3 ∨ f = 4 ∨ f = 5 by omega) with rfl | rfl | rfl | rfl | rfl | rfl <;> simp (disch := omega) only [mset_at, mset_ne]
theorem stL_f {b b2 : Nat} {V : Mem} (hb : b % 31 = 0) (hb2 : b2 % 31 = 0) (hne : b ≠ b2) : ∀ i, i ≤ 8 → ∀ k, k < i → (∀ f, f < 5 → stL b b2 V i (b + 3 + k) f = V (b2 + 3 + k) f) ∧ ∀ m, m < 17 → stL b b2 V i (b + 3 + k + 8) m = V (b2 + 3 + k + 8) m
  | 0, _, k, h => absurd h (by omega)
  | i + 1, hi, k, hk => by
    have src : ∀ r, (∀ j, j < 8 → r ≠ b + 3 + j ∧ r ≠ b + 3 + j + 8) → stL b b2 V i r = V r := fun r hr => stL_o i (by omega) hr
    by_cases e : k = i
    · subst e
      have c := cCpy_f (k := b + 3 + k) (j := b2 + 3 + k) (V := stL b b2 V k) (by omega)
      refine ⟨fun f hf => ?_, fun m hm => ?_⟩
      · exact (c.1 f hf).trans (by rw [src _ (fun j hj => by omega)])
      · exact (c.2 (by omega) (by omega) m hm).trans (by rw [src _ (fun j hj => by omega)])
    · have ih := stL_f (V := V) hb hb2 hne i (by omega) k (by omega)
      refine ⟨fun f hf => ?_, fun m hm => ?_⟩
      · show cCpy (b + 3 + i) (b2 + 3 + i) (stL b b2 V i) (b + 3 + k) f = _
        rw [cCpy_o (by omega) (by omega)]; exact ih.1 f hf
      · show cCpy (b + 3 + i) (b2 + 3 + i) (stL b b2 V i) (b + 3 + k + 8) m = _
        rw [cCpy_o (by omega) (by omega)]; exact ih.2 m hm
theorem stS_f {b b2 : Nat} {V : Mem} (hb : b % 31 = 0) (hb2 : b2 % 31 = 0) (hne : b ≠ b2) : ∀ i, i ≤ 12 → ∀ q, q < i → ∀ f, f < 6 → stS b b2 V i (b + 19 + q) f = V (b2 + 19 + q) f
  | 0, _, q, h, _, _ => absurd h (by omega)
  | i + 1, hi, q, hq, f, hf => by
    show sCpy (b + 19 + i) (b2 + 19 + i) (stS b b2 V i) (b + 19 + q) f = _
    by_cases e : q = i
    · subst e
      exact (sCpy_f (by omega) f hf).trans (by rw [stS_o q (by omega) (fun j hj => by omega)])
    · rw [sCpy_o (by omega)]
      exact stS_f hb hb2 hne i (by omega) q (by omega) f hf
theorem cpySt_f {b b2 nl ns : Nat} {V : Mem} (hb : b % 31 = 0) (hb2 : b2 % 31 = 0) (hne : b ≠ b2) (h8 : nl ≤ 8) (h12 : ns ≤ 12) : (∀ f, 2 ≤ f → f < 5 → cpySt b b2 nl ns V b f = V b2 f) ∧ (∀ k, k < nl → (∀ f, f < 5 → cpySt b b2 nl ns V (b + 3 + k) f = V (b2 + 3 + k) f) ∧ ∀ m, m < 17 → cpySt b b2 nl ns V (b + 3 + k + 8) m = V (b2 + 3 + k + 8) m) ∧ ∀ q, q < ns → ∀ f, f < 6 → cpySt b b2 nl ns V (b + 19 + q) f = V (b2 + 19 + q) f := by
  unfold cpySt
  have s3 := st3_b (b := b) (b2 := b2) (V := V) (by omega)
  refine ⟨fun f h2 h5 => ?_, fun k hk => ⟨fun f hf => ?_, fun m hm => ?_⟩, fun q hq f hf => ?_⟩
  · rw [stS_o ns h12 (fun j hj => by omega), stL_o nl h8 (fun j hj => by omega)]
    rcases (show f = 2 ∨ f = 3 ∨ f = 4 by omega) with rfl | rfl | rfl
    · exact s3.1
    · exact s3.2.1
    · exact s3.2.2
  · rw [stS_o ns h12 (fun j hj => by omega), (stL_f hb hb2 hne nl h8 k hk).1 f hf, st3_o (by omega)]
  · rw [stS_o ns h12 (fun j hj => by omega), (stL_f hb hb2 hne nl h8 k hk).2 m hm, st3_o (by omega)]
  · rw [stS_f hb hb2 hne ns h12 q hq f hf, stL_o nl h8 (fun j hj => by omega), st3_o (by omega)]
