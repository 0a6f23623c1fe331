/-! THE MODEL: more specs -/
theorem pAre_stop {B : Nat → Int32} {bm f : Nat} {r : Bool × Nat × Nat × (Nat → Int32)} (h : ¬ (r.1 = true ∧ nx B bm r.2.1 = nI 59)) : pAre B bm f r = r := by
  cases f with
  | zero => rfl
  | succ f => exact if_neg h
theorem pAre_go {B : Nat → Int32} {bm f : Nat} {r : Bool × Nat × Nat × (Nat → Int32)} (h : r.1 = true ∧ nx B bm r.2.1 = nI 59) : pAre B bm (f + 1) r = pAre B bm f (pPart B bm r.2.2.1 (r.2.1 + 1) r.2.2.2) := if_pos h
theorem pS_start {V : Mem} : pS V 0 0 (V 229) = mset (mset V 224 7 (nI 0)) 224 8 (nI 0) := by
  funext a b
  simp only [pS, mset]
  by_cases h : a = 224 ∧ b = 7
  · rw [if_pos h, if_neg (by omega), if_pos h]
  · rw [if_neg h]
    by_cases h2 : a = 224 ∧ b = 8
    · rw [if_pos h2, if_pos h2]
    · rw [if_neg h2, if_neg h2, if_neg h]
      by_cases h3 : a = 229
      · subst h3; rw [if_pos rfl]
      · rw [if_neg h3]
theorem pS_row {V : Mem} {pl m a : Nat} {T : Nat → Int32} (h : a ≠ 224) (h2 : a ≠ 229) : pS V pl m T a = V a := by
  funext b
  exact pS_o h2 (fun z => h z.1)
theorem rOpn_row {k a : Nat} {p n r c : Int32} {V : Mem} (h : a ≠ 225) : rOpn k p n r c V a = V a := by
  funext b
  unfold rOpn
  simp only [rMv, mset, rZero, h, false_and, if_false]
theorem rZero_ne {V : Mem} {k n a b : Nat} (h : ¬ (a = 225 ∧ 3 + 22 * k ≤ b ∧ b < 3 + 22 * k + n)) : rZero V k n a b = V a b := if_neg h
/-- places of other leases, and behind the leases, aren't touched by an opening -/
theorem rOpn_ne {k b : Nat} {p n r c : Int32} {V : Mem} (h : b ≠ 0) (h2 : b < 3 + 22 * k ∨ 3 + 22 * k + 22 ≤ b) : rOpn k p n r c V 225 b = V 225 b := by
  unfold rOpn rMv
  rw [mset_ne (by omega), mset_ne (by omega), mset_ne (by omega), mset_ne (by omega), mset_ne (by omega), mset_ne (by omega), mset_ne (by omega), mset_ne (by omega), rZero_ne (by omega), mset_ne (by omega)]
theorem rOpn_0 {k : Nat} {p n r c : Int32} {V : Mem} : rOpn k p n r c V 225 0 = V 225 0 + nI 1 := by
  unfold rOpn rMv
  rw [mset_ne (by omega), mset_ne (by omega), mset_ne (by omega), mset_ne (by omega), mset_ne (by omega), mset_ne (by omega), mset_ne (by omega), mset_ne (by omega), rZero_ne (by omega), mset_at]
theorem rOpn_2 {k : Nat} {p n r c : Int32} {V : Mem} : rOpn k p n r c V 225 (3 + 22 * k + 2) = r := by
  unfold rOpn rMv
  rw [mset_ne (by omega), mset_ne (by omega), mset_ne (by omega), mset_ne (by omega), mset_ne (by omega), mset_at]
theorem RR.opn {nl ns : Nat} {p n r c : Int32} {V : Mem} (h : RR nl ns V) (hl : nl < 8) (hr : rateR r) : RR (nl + 1) ns (rOpn nl p n r c V) := by
  refine ⟨by omega, h.2.1, by rw [rOpn_0, h.2.2.1, nI_add], by rw [rOpn_ne (by omega) (by omega)]; exact h.2.2.2.1, fun k hk => ?_, fun q hq => ?_⟩
  · by_cases hkn : k = nl
    · subst hkn; rw [rOpn_2]; exact hr
    · rw [rOpn_ne (by omega) (by omega)]; exact h.2.2.2.2.1 k (by omega)
  · have := h.2.1
    rw [rOpn_ne (by omega) (by omega)]; exact h.2.2.2.2.2 q hq
def rOA (T : Nat → Int32) (nl : Nat) (W : Mem) : Nat → Mem
  | 0 => W
  | i + 1 => rOpn (nl + i) (T (4 * i)) (T (4 * i + 1)) (T (4 * i + 2)) (T (4 * i + 3)) (rOA T nl W i)
theorem rOA_row {T : Nat → Int32} {nl a : Nat} {W : Mem} (h : a ≠ 225) : ∀ i, rOA T nl W i a = W a
  | 0 => rfl
  | i + 1 => (rOpn_row h).trans (rOA_row h i)
theorem RR.oa {T : Nat → Int32} {nl ns : Nat} {W : Mem} (h : RR nl ns W) : ∀ i, nl + i ≤ 8 → (∀ j, j < i → rateR (T (4 * j + 2))) → RR (nl + i) ns (rOA T nl W i)
  | 0, _, _ => h
  | i + 1, h8, hT => (RR.oa h i (by omega) (fun j hj => hT j (by omega))).opn (by omega) (hT i (by omega))
/-- the saved row s is z again, n places done -/
abbrev rRes (V : Mem) (s n : Nat) : Mem := rcpy V 225 (fun b => V 226 (251 * s + b)) n
theorem pAre_le {B : Nat → Int32} {bm : Nat} : ∀ (f : Nat) (r : Bool × Nat × Nat × (Nat → Int32)), r.2.1 ≤ bm → (pAre B bm f r).2.1 ≤ bm
  | 0, r, h => h
  | f + 1, r, h => by
    by_cases hc : r.1 = true ∧ nx B bm r.2.1 = nI 59
    · rw [pAre_go hc]
      have h2 := nx_lt (n := 59) hc.2 (by omega) (by omega)
      exact pAre_le f _ (pPart_le h2).1
    · rw [pAre_stop hc]; exact h
theorem pAll_le {B : Nat → Int32} {bm : Nat} {T : Nat → Int32} (h : bm ≤ 60) : (pAll B bm T).2.1 ≤ bm ∧ True := ⟨pAre_le 11 _ (pPart_le (Nat.zero_le _)).1, trivial⟩
