/-! CONSERVATION: the register's profit is what there is, and what is had less what is paid -/
def KC (nl ns : Nat) (Z : Mem) : Prop := ∀ k, k < nl → Z 224 (27 + k) = Z 224 (11 + k) + lOf Z k 5 ns - Z 224 (3 + k) + Z 224 (19 + k)
theorem sF_c2 {c c' : Nat → Bool} {f f' : Nat → Int32} : ∀ n, (∀ q, q < n → c' q = c q) → (∀ q, q < n → c q = true → f' q = f q) → sF c' f' n = sF c f n
  | 0, _, _ => rfl
  | n + 1, h1, h2 => by
    rw [sF, sF, sF_c2 n (fun q hq => h1 q (by omega)) (fun q hq => h2 q (by omega)), h1 n (by omega)]
    by_cases hc : c n = true
    · rw [if_pos hc, if_pos hc, h2 n (by omega) hc]
    · rw [if_neg hc, if_neg hc]
theorem lOf5_c {Z Z' : Mem} {k ns : Nat} (h1 : ∀ q, q < ns → Z' 226 (4 * q) = Z 226 (4 * q)) (h2 : ∀ q, q < ns → Z 226 (4 * q) = nI k → Z' 227 (12 + q) = Z 227 (12 + q)) : lOf Z' k 5 ns = lOf Z k 5 ns :=
  sF_c2 ns (fun q hq => by show decide _ = decide _; rw [h1 q hq]) (fun q hq hc => h2 q hq (of_decide_eq_true hc))
theorem KC.lease {nl ns k : Nat} {Z Z' : Mem} (h : KC nl ns Z) (h12 : ns ≤ 12)
    (eZ : ∀ a b, 224 ≤ a → a < 228 → a ≠ 225 → ¬ (a = 224 ∧ (b < 3 ∨ b = 3 + k ∨ b = 11 + k ∨ b = 19 + k ∨ b = 27 + k)) → Z' a b = Z a b) (h8 : nl ≤ 8) (hk : k < 8)
    (e : Z' 224 (27 + k) = Z' 224 (11 + k) + lOf Z k 5 ns - Z' 224 (3 + k) + Z' 224 (19 + k)) : KC nl ns Z' := by
  intro j hj
  have e5 : lOf Z' j 5 ns = lOf Z j 5 ns := lOf5_c (fun q hq => eZ _ _ (by omega) (by omega) (by omega) (by omega)) (fun q hq _ => eZ _ _ (by omega) (by omega) (by omega) (by omega))
  rw [e5]
  by_cases ej : j = k
  · subst ej; exact e
  · rw [eZ 224 (27 + j) (by omega) (by omega) (by omega) (by omega), eZ 224 (11 + j) (by omega) (by omega) (by omega) (by omega), eZ 224 (3 + j) (by omega) (by omega) (by omega) (by omega), eZ 224 (19 + j) (by omega) (by omega) (by omega) (by omega)]
    exact h j hj
theorem KC.sub {nl ns k q : Nat} {Z Z' : Mem} (h : KC nl ns Z) (h8 : nl ≤ 8) (hk : k < 8) (hq : q < ns) (hh : Z 226 (4 * q) = nI k)
    (eZ : ∀ a b, ¬ (a = 226 ∧ b % 4 = 3) → ¬ (a = 227 ∧ b = 12 + q) → ¬ (a = 224 ∧ (b = 27 + k ∨ b = 19 + k)) → Z' a b = Z a b)
    (e : Z' 224 (27 + k) = Z 224 (27 + k) + (Z' 227 (12 + q) - Z 227 (12 + q)) + (Z' 224 (19 + k) - Z 224 (19 + k))) : KC nl ns Z' := by
  intro j hj
  by_cases ej : j = k
  · subst ej
    have e5 : lOf Z' j 5 ns = lOf Z j 5 ns + (Z' 227 (12 + q) - Z 227 (12 + q)) := by
      have ec : (fun i => decide (Z' 226 (4 * i) = nI j)) = fun i => decide (Z 226 (4 * i) = nI j) := by
        funext i
        rw [eZ 226 (4 * i) (by omega) (by omega) (by omega)]
      unfold lOf
      rw [ec]
      refine sF_up (q := q) (decide_eq_true hh) ?_ ns hq (fun i _ hne => ?_)
      · show Z' 227 (12 + q) = Z 227 (12 + q) + _
        grind
      · show Z' 227 (12 + i) = Z 227 (12 + i)
        exact eZ _ _ (by omega) (by omega) (by omega)
    rw [e5, e, eZ 224 (11 + j) (by omega) (by omega) (by omega), eZ 224 (3 + j) (by omega) (by omega) (by omega), h j hj]
    grind
  · have e5 : lOf Z' j 5 ns = lOf Z j 5 ns := lOf5_c (fun i _ => eZ _ _ (by omega) (by omega) (by omega)) (fun i hi hc => by
      refine eZ _ _ (by omega) (fun z => ?_) (by omega)
      have e6 : i = q := by omega
      rw [e6, hh] at hc
      exact ej ((nI_eq (by omega) (by omega)).mp hc).symm)
    rw [e5, eZ 224 (27 + j) (by omega) (by omega) (by omega), eZ 224 (11 + j) (by omega) (by omega) (by omega), eZ 224 (3 + j) (by omega) (by omega) (by omega), eZ 224 (19 + j) (by omega) (by omega) (by omega)]
    exact h j hj
theorem KC.imp {nl ns k : Nat} {a : Int32} {Z : Mem} (h : KC nl ns Z) (h8 : nl ≤ 8) (h12 : ns ≤ 12) (hk : k < nl) : KC nl ns (lImp k a Z) := by
  have hK := h k hk
  refine h.lease (k := k) h12 (fun a b _ _ h1 h2 => ?_) h8 (by omega) ?_
  · unfold lImp; simp (disch := omega) only [mset_ne]
  · unfold lImp; simp (disch := omega) only [mset_at, mset_ne]; rw [hK]; grind
theorem KC.meas0 {nl ns k : Nat} {p n r : Int32} {Z : Mem} (h : KC nl ns Z) (h8 : nl ≤ 8) (h12 : ns ≤ 12) (hk : k < nl) : KC nl ns (lMeas0 k p n r Z) := by
  have hK := h k hk
  refine h.lease (k := k) h12 (fun a b _ _ h1 h2 => lMeas0_u (by omega)) h8 (by omega) ?_
  unfold lMeas0; simp (disch := omega) only [mset_at, mset_ne]; rw [hK]; grind
theorem KC.endp {nl ns k : Nat} {t fee : Int32} {Z : Mem} (h : KC nl ns Z) (h8 : nl ≤ 8) (h12 : ns ≤ 12) (hk : k < nl) : KC nl ns (lEnd k t fee Z) := by
  have hK := h k hk
  refine h.lease (k := k) h12 (fun a b _ _ h1 h2 => ?_) h8 (by omega) ?_
  · unfold lEnd; simp (disch := omega) only [mset_ne]
  · unfold lEnd lEndB; simp (disch := omega) only [mset_at, mset_ne]; rw [hK]; grind
theorem KC.cut {nl ns k : Nat} {n : Int32} {Z : Mem} (h : KC nl ns Z) (h8 : nl ≤ 8) (hk : k < 8) : ∀ i, i ≤ ns → KC nl ns (lCut k n Z i)
  | 0, _ => h
  | i + 1, hi => by
    have ih := h.cut (n := n) h8 hk i (by omega)
    show KC nl ns (lCS k n i (lCut k n Z i))
    generalize lCut k n Z i = W at ih
    unfold lCS
    by_cases hc : W 226 (4 * i) = nI k ∧ n < W 226 (4 * i + 3)
    · rw [if_pos hc]
      refine ih.sub h8 hk (show i < ns by omega) hc.1 (fun a b h1 h2 h3 => ?_) ?_
      · simp (disch := omega) only [mset_ne]
      · simp (disch := omega) only [mset_at, mset_ne]; grind
    · rw [if_neg hc]; exact ih
theorem KC.meas {nl ns k : Nat} {p n r : Int32} {Z : Mem} (h : KC nl ns Z) (h8 : nl ≤ 8) (h12 : ns ≤ 12) (hk : k < nl) : KC nl ns (lMeas k p n r ns Z) := (h.meas0 h8 h12 hk).cut h8 (by omega) ns (Nat.le_refl _)
theorem KC.p0 {nl ns k : Nat} {Z : Mem} (h : KC nl ns Z) (h8 : nl ≤ 8) (h12 : ns ≤ 12) (hk : k < nl) : KC nl ns (lP0 k Z) := by
  have hK := h k hk
  refine h.lease (k := k) h12 (fun a b _ _ h1 h2 => lP0_u (by omega)) h8 (by omega) ?_
  unfold lP0; simp (disch := omega) only [mset_at, mset_ne]; rw [hK]; grind
theorem KC.psub {nl ns k : Nat} {Z : Mem} (h : KC nl ns Z) (h8 : nl ≤ 8) (hk : k < 8) : ∀ i, i ≤ ns → KC nl ns (lPSub k Z i)
  | 0, _ => h
  | i + 1, hi => by
    have ih := h.psub h8 hk i (by omega)
    show KC nl ns (lPS k i (lPSub k Z i))
    generalize lPSub k Z i = W at ih
    unfold lPS
    by_cases hc : W 226 (4 * i) = nI k ∧ ¬ W 226 (4 * i + 3) = 0
    · rw [if_pos hc]
      refine ih.sub h8 hk (show i < ns by omega) hc.1 (fun a b h1 h2 h3 => ?_) ?_
      · simp (disch := omega) only [mset_ne]
      · simp (disch := omega) only [mset_at, mset_ne]; grind
    · rw [if_neg hc]; exact ih
theorem KC.pl {nl ns k : Nat} {Z : Mem} (h : KC nl ns Z) (h8 : nl ≤ 8) (h12 : ns ≤ 12) (hk : k < nl) : KC nl ns (lPL k ns Z) := by
  unfold lPL
  split
  · exact h
  · exact (h.p0 h8 h12 hk).psub h8 (by omega) ns (Nat.le_refl _)
theorem KC.pall {nl ns : Nat} {Z : Mem} (h : KC nl ns Z) (h8 : nl ≤ 8) (h12 : ns ≤ 12) : ∀ k, k ≤ nl → KC nl ns (lPAll ns Z k)
  | 0, _ => h
  | k + 1, hk => (h.pall h8 h12 k (by omega)).pl h8 h12 (by omega)
theorem KC.pass {nl ns : Nat} {Z : Mem} (h : KC nl ns Z) (h8 : nl ≤ 8) (h12 : ns ≤ 12) : ∀ j, KC nl ns (lPass nl ns Z j)
  | 0 => h
  | j + 1 => (h.pass h8 h12 j).pall h8 h12 nl (Nat.le_refl _)
theorem lOf_none {Z : Mem} {k ns : Nat} (h : ∀ q, q < ns → ¬ Z 226 (4 * q) = nI k) : ∀ n, n ≤ ns → lOf Z k 5 n = nI 0
  | 0, _ => rfl
  | n + 1, hn => by
    unfold lOf
    rw [sF, if_neg (fun z => h n (by omega) (of_decide_eq_true z))]
    exact lOf_none h n (by omega)
theorem KC.add {nl ns : Nat} {p n r c : Int32} {Z : Mem} (h : KC nl ns Z) (h8 : nl < 8) (h12 : ns ≤ 12) (hh : ∀ q, q < ns → ∃ k, k < nl ∧ Z 226 (4 * q) = nI k) : KC (nl + 1) ns (lAdd nl p n r c Z) := by
  have eZ : ∀ a b, a ≠ 225 → ¬ (a = 224 ∧ (b < 3 ∨ b = 3 + nl ∨ b = 11 + nl ∨ b = 19 + nl ∨ b = 27 + nl)) → lAdd nl p n r c Z a b = Z a b := fun a b h1 h2 => by
    unfold lAdd; simp (disch := omega) only [mset_ne]
  intro j hj
  have e5 : lOf (lAdd nl p n r c Z) j 5 ns = lOf Z j 5 ns := lOf5_c (fun q hq => eZ _ _ (by omega) (by omega)) (fun q hq _ => eZ _ _ (by omega) (by omega))
  rw [e5]
  by_cases ej : j = nl
  · subst ej
    have e0 : lOf Z j 5 ns = nI 0 := lOf_none (fun q hq z => by
      obtain ⟨k, hk, e⟩ := hh q hq
      rw [e] at z
      exact absurd ((nI_eq (by omega) (by omega)).mp z) (by omega)) ns (Nat.le_refl _)
    rw [e0]
    unfold lAdd; simp (disch := omega) only [mset_at, mset_ne]; rw [nI_0]; grind
  · rw [eZ 224 (27 + j) (by omega) (by omega), eZ 224 (11 + j) (by omega) (by omega), eZ 224 (3 + j) (by omega) (by omega), eZ 224 (19 + j) (by omega) (by omega)]
    exact h j (by omega)
theorem KC.subl {nl ns k : Nat} {t rc n : Int32} {Z : Mem} (h : KC nl ns Z) (h8 : nl ≤ 8) (h12 : ns < 12) (hk : k < nl) : KC nl (ns + 1) (lSubl k ns t rc n Z) := by
  have eZ : ∀ a b, ¬ (a = 226 ∧ 4 * ns ≤ b ∧ b < 4 * ns + 4) → ¬ (a = 227 ∧ (b = ns ∨ b = 12 + ns)) → ¬ (a = 224 ∧ (b < 3 ∨ b = 11 + k ∨ b = 27 + k)) → lSubl k ns t rc n Z a b = Z a b := fun a b h1 h2 h3 => by
    unfold lSubl; simp (disch := omega) only [mset_ne]
  intro j hj
  have e5 : lOf (lSubl k ns t rc n Z) j 5 ns = lOf Z j 5 ns := lOf5_c (fun q hq => eZ _ _ (by omega) (by omega) (by omega)) (fun q hq _ => eZ _ _ (by omega) (by omega) (by omega))
  have eh : lSubl k ns t rc n Z 226 (4 * ns) = nI k := by unfold lSubl; simp (disch := omega) only [mset_at, mset_ne]
  have e6 : lOf (lSubl k ns t rc n Z) j 5 (ns + 1) = if j = k then lOf Z j 5 ns + lSubl k ns t rc n Z 227 (12 + ns) else lOf Z j 5 ns := by
    unfold lOf at e5 ⊢
    rw [sF, e5]
    show (if decide (lSubl k ns t rc n Z 226 (4 * ns) = nI j) = true then _ else _) = _
    rw [eh]
    by_cases ej : j = k
    · rw [if_pos ej, if_pos (decide_eq_true (by rw [ej]))]; rfl
    · rw [if_neg ej, if_neg (fun z => ej ((nI_eq (by omega) (by omega)).mp (of_decide_eq_true z)).symm)]
  rw [e6]
  by_cases ej : j = k
  · subst ej
    rw [if_pos rfl]
    have hK := h j hj
    unfold lSubl; simp (disch := omega) only [mset_at, mset_ne]; rw [hK]; grind
  · rw [if_neg ej, eZ 224 (27 + j) (by omega) (by omega) (by omega), eZ 224 (11 + j) (by omega) (by omega) (by omega), eZ 224 (3 + j) (by omega) (by omega) (by omega), eZ 224 (19 + j) (by omega) (by omega) (by omega)]
    exact h j hj
