/-! THE BITS OF A DOUBLE: the share is 0 or a normal number -/
theorem lead_b {a b : Nat} (ha : 0 < a) (hb : 0 < b) (ha2 : a < 2147483648) (hb2 : b < 2147483648) : -32 ≤ FP.Core.leading a b ∧ FP.Core.leading a b ≤ 31 := by
  have h1 : a.log2 < 31 := (Nat.log2_lt (by omega)).mpr ha2
  have h2 : b.log2 < 31 := (Nat.log2_lt (by omega)).mpr hb2
  unfold FP.Core.leading
  dsimp only
  split <;> omega
theorem quant_b {a b : Nat} (ha : 0 < a) (hb : 0 < b) (ha2 : a < 2147483648) (hb2 : b < 2147483648) : -84 ≤ FP.Core.quantum FP.Core.b64 a b 0 ∧ FP.Core.quantum FP.Core.b64 a b 0 ≤ -21 := by
  have h := lead_b ha hb ha2 hb2
  have e2 : FP.Core.b64.qmin = -1074 := by decide
  have e3 : (FP.Core.b64.p : Int) = 53 := by decide
  unfold FP.Core.quantum
  rw [e2, e3]
  omega
theorem rr_NV {a b : Nat} (ha : 0 < a) (hb : 0 < b) (ha2 : a < 2147483648) (hb2 : b < 2147483648) : ∃ (c : Nat) (q : Int), FP.Core.roundRatio FP.Core.b64 false a b 0 = DF false c q ∧ 4503599627370496 ≤ c ∧ c < 9007199254740992 ∧ -84 ≤ q ∧ q ≤ -20 := by
  have hQ := quant_b ha hb ha2 hb2
  have e1 : (2 : Nat) ^ FP.Core.b64.p = 9007199254740992 := by decide
  have e2 : FP.Core.b64.qmin = -1074 := by decide
  have e3 : FP.Core.b64.qmax = 971 := by decide
  have e4 : FP.Core.b64.tails = 4503599627370496 := by decide
  have hf := FP.Core.roundRatio_fits FP.Core.good_b64 false a hb 0
  have key : ∃ (c : Nat) (q : Int), FP.Core.roundRatio FP.Core.b64 false a b 0 = DF false c q ∧ -84 ≤ q ∧ q ≤ -20 := by
    unfold FP.Core.roundRatio
    rw [if_neg (by omega)]
    unfold FP.Core.roundAt FP.Core.settle FP.Core.bound
    generalize FP.Core.quantum FP.Core.b64 a b 0 = Q at hQ
    generalize FP.Core.nearest _ _ = c
    by_cases h : c < 2 ^ FP.Core.b64.p
    · rw [if_pos h, if_pos (by rw [e3]; omega)]
      exact ⟨c, Q, rfl, hQ.1, by omega⟩
    · rw [if_neg h, if_pos (by rw [e3]; omega)]
      exact ⟨_, Q + 1, rfl, by omega, by omega⟩
  obtain ⟨c, q, h1, h2, h3⟩ := key
  rw [h1] at hf
  obtain ⟨f1, f2, f3, f4⟩ := hf
  rw [e1] at f1
  rw [e2, e4] at f4
  exact ⟨c, q, h1, by omega, f1, h2, h3⟩
theorem i2d_val {a : Nat} (h : a < 2147483648) : ∃ (c : Nat) (q : Int), FP.Core.val64 (FP.i2d (nI a)) = DF false c q ∧ c * 2 ^ (q + 1074).toNat = a * 2 ^ ((0 : Int) - -1074).toNat ∧ -1074 ≤ q := by
  have e1 : (2 : Nat) ^ FP.Core.b64.p = 9007199254740992 := by decide
  have e2 : FP.Core.b64.qmin = -1074 := by decide
  have e3 : FP.Core.b64.qmax = 971 := by decide
  obtain ⟨c, q, r1, r2⟩ := FP.Core.round_exact FP.Core.good_b64 false (c := a) (q := 0) (by rw [e1]; omega) (by rw [e2]; omega) (by rw [e3]; omega)
  have ev : FP.Core.val64 (FP.i2d (nI a)) = DF false c q := by
    rw [show FP.i2d (nI a) = FP.Core.i2d (nI a) from rfl, FP.Core.val64_i2d, nI_toInt h]
    have : FP.Core.ofInt (a : Int) = DF false a 0 := by
      unfold FP.Core.ofInt
      rw [Int.natAbs_natCast, decide_eq_false (by omega)]
    rw [this]
    exact r1
  have hq : -1074 ≤ q := by
    have ft : FP.Core.fits FP.Core.b64 (DF false c q) := by rw [← ev]; exact FP.Core.val64_fits _
    have := ft.2.1
    rw [e2] at this; exact this
  refine ⟨c, q, ev, ?_, hq⟩
  have := r2
  unfold FP.Core.inUnits at this
  rw [e2] at this
  rw [show (q - -1074).toNat = (q + 1074).toNat by omega] at this
  exact this
theorem quo_NV {a b : Nat} (ha : 0 < a) (hb : 0 < b) (ha2 : a < 2147483648) (hb2 : b < 2147483648) : ∃ (c : Nat) (q : Int), NV (FP.ddiv (FP.i2d (nI a)) (FP.i2d (nI b))) c q ∧ -84 ≤ q ∧ q ≤ -20 := by
  obtain ⟨ca, qa, a1, a2, a3⟩ := i2d_val ha2
  obtain ⟨cb, qb, b1, b2, b3⟩ := i2d_val hb2
  obtain ⟨c, q, r1, r2, r3, r4, r5⟩ := rr_NV ha hb ha2 hb2
  obtain ⟨N, hN⟩ : ∃ N : Nat, N = ((0 : Int) - -1074).toNat := ⟨_, rfl⟩
  rw [← hN] at a2 b2
  have hcb : 0 < cb := by
    rcases Nat.eq_zero_or_pos cb with z | z
    · exfalso
      rw [z, Nat.zero_mul] at b2
      have := Nat.mul_pos hb (Nat.two_pow_pos N)
      omega
    · exact z
  refine ⟨c, q, ⟨?_, r2, r3, by omega, by omega⟩, r4, r5⟩
  rw [show FP.ddiv (FP.i2d (nI a)) (FP.i2d (nI b)) = FP.Core.ddiv (FP.i2d (nI a)) (FP.i2d (nI b)) from rfl, FP.Core.val64_ddiv, a1, b1, ← r1]
  show (if cb = 0 then (if ca = 0 then FP.Core.Datum.nan else FP.Core.Datum.inf (false != false)) else FP.Core.roundRatio FP.Core.b64 (false != false) ca cb (qa - qb)) = _
  rw [if_neg (by omega)]
  refine FP.Core.roundRatio_congr hcb hb ?_
  obtain ⟨x, hx⟩ : ∃ x : Nat, x = (qa + 1074).toNat := ⟨_, rfl⟩
  obtain ⟨y, hy⟩ : ∃ y : Nat, y = (qb + 1074).toNat := ⟨_, rfl⟩
  rw [← hx] at a2
  rw [← hy] at b2
  have m1 : ca * b * 2 ^ x * 2 ^ N = a * cb * 2 ^ y * 2 ^ N := by
    have l1 : ca * b * 2 ^ x * 2 ^ N = (ca * 2 ^ x) * (b * 2 ^ N) := by rw [Nat.mul_assoc, Nat.mul_assoc, Nat.mul_assoc, Nat.mul_left_comm b]
    have l2 : a * cb * 2 ^ y * 2 ^ N = (a * 2 ^ N) * (cb * 2 ^ y) := by rw [Nat.mul_assoc, Nat.mul_right_comm, ← Nat.mul_assoc, Nat.mul_assoc a, Nat.mul_comm (2 ^ y), ← Nat.mul_assoc, Nat.mul_assoc (a * 2 ^ N), Nat.mul_comm (2 ^ y)]
    rw [l1, l2, a2, b2]
  have m2 := Nat.eq_of_mul_eq_mul_right (Nat.two_pow_pos N) m1
  rcases Int.le_total qb qa with h | h
  · have d1 : x = (qa - qb).toNat + y := by omega
    rw [d1, Nat.pow_add, ← Nat.mul_assoc] at m2
    have m3 := Nat.eq_of_mul_eq_mul_right (Nat.two_pow_pos y) m2
    rw [show (qa - qb - 0).toNat = (qa - qb).toNat by omega, show (0 - (qa - qb)).toNat = 0 by omega, m3, Nat.pow_zero, Nat.mul_one]
  · have d1 : y = (qb - qa).toNat + x := by omega
    rw [d1, Nat.pow_add, ← Nat.mul_assoc] at m2
    have m3 := Nat.eq_of_mul_eq_mul_right (Nat.two_pow_pos x) m2
    rw [show (qa - qb - 0).toNat = 0 by omega, show (0 - (qa - qb)).toNat = (qb - qa).toNat by omega, ← m3, Nat.pow_zero, Nat.mul_one]
theorem quo_0 {b : Nat} (hb : 0 < b) (hb2 : b < 2147483648) : FP.ddiv (FP.i2d (nI 0)) (FP.i2d (nI b)) = FP.dconst0 := by
  obtain ⟨cb, qb, b1, b2, b3⟩ := i2d_val hb2
  have a1 : FP.Core.val64 (FP.i2d (nI 0)) = DF false 0 (-1074) := by decide +kernel
  have hcb : cb ≠ 0 := by
    intro z
    rw [z, Nat.zero_mul] at b2
    have := Nat.mul_pos hb (Nat.two_pow_pos ((0 : Int) - -1074).toNat)
    omega
  have ev : FP.Core.val64 (FP.ddiv (FP.i2d (nI 0)) (FP.i2d (nI b))) = DF false 0 (-1074) := by
    rw [show FP.ddiv (FP.i2d (nI 0)) (FP.i2d (nI b)) = FP.Core.ddiv (FP.i2d (nI 0)) (FP.i2d (nI b)) from rfl, FP.Core.val64_ddiv, a1, b1]
    show (if cb = 0 then (if (0 : Nat) = 0 then FP.Core.Datum.nan else FP.Core.Datum.inf (false != false)) else FP.Core.roundRatio FP.Core.b64 (false != false) 0 cb (-1074 - qb)) = _
    rw [if_neg hcb]
    unfold FP.Core.roundRatio
    rw [if_pos rfl]
    rfl
  exact FP.Core.val64_inj (by rw [ev]; intro z; cases z) (ev.trans v_zero.symm)
theorem sh_eq {E F : Nat} {d : UInt64} (hE : E < 2048) (hF : F < 4503599627370496) (hd : d.toNat = E * 4503599627370496 + F) : (nI E).toInt64 <<< ((nI 52).toInt64 &&& 63) + Int64.ofInt (F : Int) = d.toInt64 := by
  have h1 : ((nI 52).toInt64 &&& 63) = 52 := by decide
  have h2 : (nI E).toInt64 = Int64.ofInt (E : Int) := by
    rw [← nI_toInt (n := E) (by omega)]
    exact (Int64.ofInt_int32ToInt _).symm
  rw [h1, h2]
  apply Int64.toBitVec_inj.mp
  apply BitVec.eq_of_toNat_eq
  rw [Int64.toBitVec_add, Int64.toBitVec_shiftLeft]
  have h3 : (Int64.ofInt (F : Int)).toBitVec.toNat = F := by
    show (BitVec.ofInt 64 (F : Int)).toNat = F
    rw [BitVec.ofInt_natCast, BitVec.toNat_ofNat]
    omega
  have h4 : (Int64.ofInt (E : Int)).toBitVec.toNat = E := by
    show (BitVec.ofInt 64 (E : Int)).toNat = E
    rw [BitVec.ofInt_natCast, BitVec.toNat_ofNat]
    omega
  have h5 : d.toInt64.toBitVec.toNat = E * 4503599627370496 + F := hd
  have h6 : ((52 : Int64).toBitVec.smod 64).toNat = 52 := by decide
  rw [h5, BitVec.toNat_add, h3, BitVec.shiftLeft_eq', h6, BitVec.toNat_shiftLeft, h4, Nat.shiftLeft_eq]
  have e52 : (2 : Nat) ^ 52 = 4503599627370496 := by decide
  rw [e52]
  omega
