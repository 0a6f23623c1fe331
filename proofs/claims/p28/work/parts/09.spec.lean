/-! SPECS: what each method does, as plain functions over the memory. -/
abbrev money (x : Int32) : Prop := nI 0 ≤ x ∧ x ≤ nI 100000
abbrev termR (x : Int32) : Prop := nI 1 ≤ x ∧ x ≤ nI 60
abbrev rateR (x : Int32) : Prop := nI 0 ≤ x ∧ x ≤ nI 2000
abbrev partR (x : Int32) : Prop := nI 1 ≤ x ∧ x ≤ nI 1000
def wl (p z : Int32) : Nat → Int64
  | 0 => 0
  | n + 1 => ((wl p z n + p.toInt64) * 20000 + (10000 + z.toInt64)) / (2 * (10000 + z.toInt64))
/-- the worth of n payments p by the rate z -/
def wor (p n z : Int32) : Int32 := (wl p z n.toNatClampNeg).toInt32
def prt (v t : Int32) : Int32 := (v.toInt64 * t.toInt64 / 1000).toInt32
theorem rate_div {z : Int32} (h : rateR z) : ¬ (2 * (10000 + z.toInt64) : Int64) = 0 ∧ (nI 10000 + z).toInt64 = 10000 + z.toInt64 ∧ (0 : Int64) < 10000 + z.toInt64 := by
  obtain ⟨j, hj, rfl⟩ := nI_of2 (n := 2000) (by decide) (fun q => absurd h.1 (Int32.not_le.mpr q)) h.2
  have e1 : (nI j).toInt64 = lN j := nI_l (by omega)
  have e2 : (10000 : Int64) + lN j = lN (10000 + j) := lN_add 10000 j
  have e3 : (2 : Int64) * lN (10000 + j) = lN (2 * (10000 + j)) := lN_mul 2 _
  refine ⟨?_, ?_, ?_⟩
  · rw [e1, e2, e3]
    intro q
    have q2 : lN (2 * (10000 + j)) = lN 0 := q
    rw [lN_eq (by omega) (by omega)] at q2
    omega
  · rw [nI_add, nI_l (by omega), e1, e2]
  · rw [e1, e2]
    exact (lN_lt (a := 0) (by omega) (by omega)).mpr (by omega)
theorem clampN (x : Int32) : x.toNatClampNeg < 2 ^ 31 := by
  have h1 : x.toNatClampNeg = x.toInt.toNat := rfl
  have h2 := Int32.toInt_lt x
  omega
theorem clamp_lt {i : Nat} {x : Int32} (hi : i < 2 ^ 31) (h : ¬ x ≤ nI i) : i < x.toNatClampNeg := by
  have h1 : nI i < x := Int32.not_le.mp h
  rw [Int32.lt_iff_toInt_lt, nI_toInt hi] at h1
  have h2 : x.toNatClampNeg = x.toInt.toNat := rfl
  omega
theorem clamp_ge {i : Nat} {x : Int32} (hi : i < 2 ^ 31) (h : x ≤ nI i) : x.toNatClampNeg ≤ i := by
  rw [Int32.le_iff_toInt_le, nI_toInt hi] at h
  have h2 : x.toNatClampNeg = x.toInt.toNat := rfl
  omega
/-- copies of rows -/
def rset (V : Mem) (k : Nat) (f : Nat → Int32) : Mem := fun a => if a = k then f else V a
/-- the first n places of row k from f -/
def rcpy (V : Mem) (k : Nat) (f : Nat → Int32) (n : Nat) : Mem := fun a b => if a = k ∧ b < n then f b else V a b
theorem rcpy_0 {V : Mem} {k : Nat} {f : Nat → Int32} : rcpy V k f 0 = V := by
  funext a b
  simp [rcpy]
theorem rcpy_step {V : Mem} {k n : Nat} {f : Nat → Int32} : mset (rcpy V k f n) k n (f n) = rcpy V k f (n + 1) := by
  funext a b
  simp only [mset, rcpy]
  by_cases h1 : a = k
  · by_cases h2 : b = n
    · subst h1; subst h2; simp
    · rw [if_neg (by omega)]
      by_cases h3 : b < n
      · rw [if_pos ⟨h1, h3⟩, if_pos ⟨h1, by omega⟩]
      · rw [if_neg (by omega), if_neg (by omega)]
  · rw [if_neg (by omega), if_neg (by omega), if_neg (by omega)]
theorem rcpy_ne {V : Mem} {k n j : Nat} {f : Nat → Int32} (h : j ≠ k) : rcpy V k f n j = V j := by
  funext b
  simp [rcpy, h]
theorem i_ge {a b : Nat} (ha : a < 2 ^ 31) (hb : b < 2 ^ 31) (h : nI a ≤ nI b) : a ≤ b := (nI_leI ha hb).mp h
theorem i_lt {a b : Nat} (ha : a < 2 ^ 31) (hb : b < 2 ^ 31) (h : nI a < nI b) : a < b := (nI_ltI ha hb).mp h
theorem rateN {n : Nat} (h : n ≤ 2000) : rateR (nI n) := ⟨nI_le (by omega) (by omega), nI_le h (by omega)⟩
theorem inN {a b c : Nat} (h1 : a ≤ b) (h2 : b ≤ c) (h3 : c < 2 ^ 31) : nI a ≤ nI b ∧ nI b ≤ nI c := ⟨nI_le h1 (by omega), nI_le h2 h3⟩
