/-! THE BITS OF A DOUBLE: the softfloat's side -/
abbrev two64 : UInt64 := 0x4000000000000000
abbrev big64 : UInt64 := 0x4330000000000000
abbrev DF (s : Bool) (c : Nat) (q : Int) : FP.Core.Datum := .fin s c q
theorem v_two : FP.Core.val64 two64 = DF false 4503599627370496 (-51) := by decide +kernel
theorem v_one : FP.Core.val64 FP.dconst1 = DF false 4503599627370496 (-52) := by decide +kernel
theorem v_big : FP.Core.val64 big64 = DF false 4503599627370496 0 := by decide +kernel
theorem v_zero : FP.Core.val64 FP.dconst0 = DF false 0 (-1074) := by decide +kernel
theorem n64_of {r : UInt64} (h : FP.Core.val64 r ≠ .nan) : vf_n64 r := by
  have h1 := (FP.Core.ne_nan r).mp h
  show r &&& 0x7fffffffffffffff ≤ 0x7ff0000000000000
  rw [UInt64.le_iff_toNat_le, UInt64.toNat_and]
  have h2 : (0x7fffffffffffffff : UInt64).toNat = 2 ^ 63 - 1 := by decide
  have h3 : (0x7ff0000000000000 : UInt64).toNat = 9218868437227405312 := by decide
  rw [h2, h3, Nat.and_two_pow_sub_one_eq_mod]
  exact h1
theorem n64_f {r : UInt64} {s : Bool} {c : Nat} {q : Int} (h : FP.Core.val64 r = DF s c q) : vf_n64 r := n64_of (by rw [h]; intro z; cases z)
theorem fitsN {c : Nat} {q : Int} (h1 : 4503599627370496 ≤ c) (h2 : c < 9007199254740992) (h3 : -200 ≤ q) (h4 : q ≤ 200) : FP.Core.fits FP.Core.b64 (DF false c q) := by
  have e1 : (2 : Nat) ^ FP.Core.b64.p = 9007199254740992 := by decide
  have e2 : FP.Core.b64.qmin = -1074 := by decide
  have e3 : FP.Core.b64.qmax = 971 := by decide
  have e4 : FP.Core.b64.tails = 4503599627370496 := by decide
  refine ⟨by rw [e1]; exact h2, by rw [e2]; omega, by rw [e3]; omega, Or.inr (by rw [e4]; exact h1)⟩
/-- a positive number that is normal, of moderate size -/
def NV (d : UInt64) (c : Nat) (q : Int) : Prop := FP.Core.val64 d = DF false c q ∧ 4503599627370496 ≤ c ∧ c < 9007199254740992 ∧ -150 ≤ q ∧ q ≤ 50
theorem cmpI {o : Option Ordering} {op : CmpOp} : (o = some .lt → Op.cmpValue o op = -1) ∧ (o = some .eq → Op.cmpValue o op = 0) ∧ (o = some .gt → Op.cmpValue o op = 1) := by
  refine ⟨fun h => ?_, fun h => ?_, fun h => ?_⟩ <;> subst h <;> cases op <;> rfl
theorem NV.gt0 {d : UInt64} {c : Nat} {q : Int} (h : NV d c q) {op : CmpOp} : 0 < Op.cmpValue (FP.dcmp d FP.dconst0) op := by
  have e : FP.dcmp d FP.dconst0 = some .gt := by
    show FP.Core.order (FP.Core.val64 d) (FP.Core.val64 FP.dconst0) = _
    rw [h.1, v_zero]
    show some (compare (FP.Core.signed false (FP.Core.inUnits c q (min q (-1074)))) (FP.Core.signed false (FP.Core.inUnits 0 (-1074) (min q (-1074))))) = _
    unfold FP.Core.signed FP.Core.inUnits
    rw [if_neg (by decide), if_neg (by decide), Nat.zero_mul]
    have hp : 0 < c * 2 ^ (q - min q (-1074)).toNat := Nat.mul_pos (by have := h.2.1; omega) (Nat.two_pow_pos _)
    congr 1
    rw [Int.compare_eq_gt]
    omega
  rw [cmpI.2.2 e]; decide
/-- against 2^(r+52) -/
theorem NV.cmp {d x : UInt64} {c : Nat} {q r : Int} (h : NV d c q) (hx : FP.Core.val64 x = DF false 4503599627370496 r) {op : CmpOp} : Op.cmpValue (FP.dcmp d x) op < 0 ↔ q < r := by
  obtain ⟨h1, h2, h3, h4, h5⟩ := h
  have e0 : FP.dcmp d x = some (compare ((c * 2 ^ (q - min q r).toNat : Nat) : Int) ((4503599627370496 * 2 ^ (r - min q r).toNat : Nat) : Int)) := by
    show FP.Core.order (FP.Core.val64 d) (FP.Core.val64 x) = _
    rw [h1, hx]
    rfl
  by_cases hq : q < r
  · have e : FP.dcmp d x = some .lt := by
      rw [e0]
      congr 1
      rw [Int.compare_eq_lt, show min q r = q by omega, Int.sub_self]
      obtain ⟨k, hk⟩ : ∃ k : Nat, (r - q).toNat = k + 1 := ⟨(r - q).toNat - 1, by omega⟩
      rw [hk, Nat.pow_succ]
      have hp := Nat.two_pow_pos k
      have : c * 2 ^ (0 : Int).toNat = c := by simp
      rw [this]
      have h6 : 4503599627370496 * (2 ^ k * 2) = 9007199254740992 * 2 ^ k := by omega
      rw [h6]
      have h7 : 9007199254740992 * 1 ≤ 9007199254740992 * 2 ^ k := Nat.mul_le_mul_left _ hp
      omega
    rw [cmpI.1 e]
    exact ⟨fun _ => hq, fun _ => by decide⟩
  · refine ⟨fun hh => ?_, fun z => absurd z hq⟩
    exfalso
    have hge : ((4503599627370496 * 2 ^ (r - min q r).toNat : Nat) : Int) ≤ ((c * 2 ^ (q - min q r).toNat : Nat) : Int) := by
      rw [show min q r = r by omega, Int.sub_self]
      have hp := Nat.two_pow_pos (q - r).toNat
      have h6 : 4503599627370496 * 2 ^ (0 : Int).toNat = 4503599627370496 := by simp
      rw [h6]
      have h7 : c * 1 ≤ c * 2 ^ (q - r).toNat := Nat.mul_le_mul_left _ hp
      omega
    rcases Int.lt_or_eq_of_le hge with z | z
    · rw [cmpI.2.2 (by rw [e0]; congr 1; rw [Int.compare_eq_gt]; exact z)] at hh
      exact absurd hh (by decide)
    · rw [cmpI.2.1 (by rw [e0]; congr 1; rw [Int.compare_eq_eq]; exact z.symm)] at hh
      exact absurd hh (by decide)
theorem NV.half {d : UInt64} {c : Nat} {q : Int} (h : NV d c q) (hq : -150 ≤ q - 1) : NV (FP.ddiv d two64) c (q - 1) := by
  obtain ⟨h1, h2, h3, h4, h5⟩ := h
  refine ⟨?_, h2, h3, hq, by omega⟩
  rw [show FP.ddiv d two64 = FP.Core.ddiv d two64 from rfl, FP.Core.val64_ddiv, h1, v_two]
  show (if (4503599627370496 : Nat) = 0 then (if c = 0 then FP.Core.Datum.nan else FP.Core.Datum.inf (false != false)) else FP.Core.roundRatio FP.Core.b64 (false != false) c 4503599627370496 (q - -51)) = _
  rw [if_neg (by decide)]
  refine FP.Core.roundRatio_exact FP.Core.good_b64 (by decide) (fitsN h2 h3 (by omega) (by omega)) ?_
  rw [show (q - -51 - (q - 1)).toNat = 52 by omega, show (q - 1 - (q - -51)).toNat = 0 by omega]
  show c * 2 ^ 52 = c * 4503599627370496 * 2 ^ 0
  omega
theorem NV.dbl {d : UInt64} {c : Nat} {q : Int} (h : NV d c q) (hq : q + 1 ≤ 50) : NV (FP.dmul d two64) c (q + 1) := by
  obtain ⟨h1, h2, h3, h4, h5⟩ := h
  refine ⟨?_, h2, h3, by omega, hq⟩
  rw [show FP.dmul d two64 = FP.Core.dmul d two64 from rfl, FP.Core.val64_dmul, h1, v_two]
  show FP.Core.roundRatio FP.Core.b64 (false != false) (c * 4503599627370496) 1 (q + -51) = _
  refine FP.Core.roundRatio_exact FP.Core.good_b64 (by decide) (fitsN h2 h3 (by omega) (by omega)) ?_
  rw [show (q + -51 - (q + 1)).toNat = 0 by omega, show (q + 1 - (q + -51)).toNat = 52 by omega]
  show c * 4503599627370496 * 2 ^ 0 = c * 1 * 2 ^ 52
  omega
theorem mm_id {x : Nat} (h : x < 4503599627370496) : max (-2 ^ 63) (min (2 ^ 63 - 1) (x : Int)) = (x : Int) := by omega
/-- what is behind the leading digit, as a whole number -/
theorem NV.tail {d : UInt64} {c : Nat} (h : NV d c (-52)) : ∃ t u : UInt64, FP.dsub d FP.dconst1 = t ∧ vf_n64 t ∧ FP.dmul t big64 = u ∧ vf_n64 u ∧ FP.d2l u = Int64.ofInt ((c - 4503599627370496 : Nat) : Int) := by
  obtain ⟨h1, h2, h3, h4, h5⟩ := h
  have hb : c - 4503599627370496 < 2 ^ FP.Core.b64.p := by
    have e1 : (2 : Nat) ^ FP.Core.b64.p = 9007199254740992 := by decide
    rw [e1]; omega
  have e2 : FP.Core.b64.qmin = -1074 := by decide
  have e3 : FP.Core.b64.qmax = 971 := by decide
  have es : FP.Core.val64 (FP.dsub d FP.dconst1) = FP.Core.round FP.Core.b64 (DF false (c - 4503599627370496) (-52)) := by
    rw [show FP.dsub d FP.dconst1 = FP.Core.dsub d FP.dconst1 from rfl, FP.Core.val64_dsub, h1, v_one]
    congr 1
    show FP.Core.Datum.fin (FP.Core.sumSign false true (FP.Core.sumUnits false c (-52) true 4503599627370496 (-52) (-52))) (FP.Core.sumUnits false c (-52) true 4503599627370496 (-52) (-52)).natAbs (-52) = _
    have eu : FP.Core.sumUnits false c (-52) true 4503599627370496 (-52) (-52) = ((c - 4503599627370496 : Nat) : Int) := by
      unfold FP.Core.sumUnits FP.Core.signed FP.Core.inUnits
      rw [if_neg (by decide), if_pos rfl, Int.sub_self, Int.toNat_zero, Nat.pow_zero, Nat.mul_one, Nat.mul_one, Int.natCast_sub h2]
      exact Int.sub_eq_add_neg.symm
    have esg : FP.Core.sumSign false true ((c - 4503599627370496 : Nat) : Int) = false := by
      unfold FP.Core.sumSign
      split
      · rfl
      · exact decide_eq_false (by omega)
    rw [eu, Int.natAbs_natCast, esg]
  obtain ⟨c', q', r1, r2⟩ := FP.Core.round_exact FP.Core.good_b64 false hb (q := -52) (by rw [e2]; omega) (by rw [e3]; omega)
  have et : FP.Core.val64 (FP.dsub d FP.dconst1) = DF false c' q' := es.trans r1
  have ft : FP.Core.fits FP.Core.b64 (DF false c' q') := by rw [← et]; exact FP.Core.val64_fits _
  obtain ⟨f1, f2, f3, f4⟩ := ft
  have hq' : -1074 ≤ q' := by rw [e2] at f2; exact f2
  -- the value: c' * 2^q' = (c - 2^52) * 2^-52
  obtain ⟨N1, hN1⟩ : ∃ N1 : Nat, N1 = ((-52 : Int) - -1074).toNat := ⟨_, rfl⟩
  obtain ⟨N2, hN2⟩ : ∃ N2 : Nat, N2 = ((0 : Int) - -1074).toNat := ⟨_, rfl⟩
  have hN1' : N1 = 1022 := hN1
  have hN2' : N2 = N1 + 52 := by rw [hN1']; exact hN2
  have hval : c' * 2 ^ (q' + 1074).toNat = (c - 4503599627370496) * 2 ^ N1 := by
    have := r2
    unfold FP.Core.inUnits at this
    rw [e2, ← hN1] at this
    rw [show (q' - -1074).toNat = (q' + 1074).toNat by omega] at this
    exact this
  have e52 : (4503599627370496 : Nat) = 2 ^ 52 := by decide
  have hu : FP.Core.val64 (FP.dmul (FP.dsub d FP.dconst1) big64) = FP.Core.round FP.Core.b64 (DF false (c' * 4503599627370496) (q' + 0)) := by
    rw [show FP.dmul (FP.dsub d FP.dconst1) big64 = FP.Core.dmul (FP.dsub d FP.dconst1) big64 from rfl, FP.Core.val64_dmul, et, v_big]
    rfl
  have hlt : c - 4503599627370496 < 2 ^ 52 := by rw [← e52]; omega
  have hq0 : c' = 0 ∨ q' ≤ 0 := by
    rcases Int.lt_or_le 0 q' with hz | hz
    · left
      rcases Nat.eq_zero_or_pos c' with z | z
      · exact z
      · exfalso
        have h10 : c' * 2 ^ (q' + 1074).toNat < 2 ^ (52 + N1) := by
          rw [hval, Nat.pow_add]
          exact Nat.mul_lt_mul_of_pos_right hlt (Nat.two_pow_pos _)
        have h11 : 2 ^ (52 + N1) ≤ 2 ^ (q' + 1074).toNat := Nat.pow_le_pow_right (by decide) (by omega)
        have h12 : 1 * 2 ^ (q' + 1074).toNat ≤ c' * 2 ^ (q' + 1074).toNat := Nat.mul_le_mul_right _ z
        omega
    · exact Or.inr hz
  have hu2 : FP.Core.round FP.Core.b64 (DF false (c' * 4503599627370496) (q' + 0)) = FP.Core.round FP.Core.b64 (DF false (c - 4503599627370496) 0) := by
    show FP.Core.roundRatio _ _ _ _ _ = FP.Core.roundRatio _ _ _ _ _
    rcases hq0 with hz | hz
    · have h13 : c - 4503599627370496 = 0 := by
        rw [hz, Nat.zero_mul] at hval
        rcases Nat.mul_eq_zero.mp hval.symm with z | z
        · exact z
        · exact absurd z (Nat.pos_iff_ne_zero.mp (Nat.two_pow_pos _))
      rw [hz, h13, Nat.zero_mul]
      unfold FP.Core.roundRatio
      rw [if_pos rfl, if_pos rfl]
    · refine FP.Core.roundRatio_congr (by decide) (by decide) ?_
      rw [show (q' + 0 - 0).toNat = 0 by omega, show (0 - (q' + 0)).toNat = (-q').toNat by omega]
      have h6 : N1 + 52 = (-q').toNat + (q' + 1074).toNat := by omega
      have h7 : c' * 4503599627370496 * 2 ^ (q' + 1074).toNat = (c - 4503599627370496) * 2 ^ (-q').toNat * 2 ^ (q' + 1074).toNat := by
        rw [Nat.mul_right_comm, hval, Nat.mul_assoc, Nat.mul_assoc, ← Nat.pow_add, ← h6, e52, ← Nat.pow_add]
      have h8 := Nat.eq_of_mul_eq_mul_right (Nat.two_pow_pos _) h7
      rw [h8]
      simp
  obtain ⟨c2, q2, w1, w2⟩ := FP.Core.round_exact FP.Core.good_b64 false hb (q := 0) (by rw [e2]; omega) (by rw [e3]; omega)
  have ev : FP.Core.val64 (FP.dmul (FP.dsub d FP.dconst1) big64) = DF false c2 q2 := (hu.trans hu2).trans w1
  refine ⟨_, _, rfl, n64_f et, rfl, n64_f ev, ?_⟩
  have hq2 : -1074 ≤ q2 := by
    have ft : FP.Core.fits FP.Core.b64 (DF false c2 q2) := by rw [← ev]; exact FP.Core.val64_fits _
    have := ft.2.1
    rw [e2] at this; exact this
  have hval2 : c2 * 2 ^ (q2 + 1074).toNat = (c - 4503599627370496) * 2 ^ N2 := by
    have := w2
    unfold FP.Core.inUnits at this
    rw [e2, ← hN2] at this
    rw [show (q2 - -1074).toNat = (q2 + 1074).toNat by omega] at this
    exact this
  have ht : c2 * 2 ^ q2.toNat / 2 ^ (-q2).toNat = c - 4503599627370496 := by
    refine Nat.div_eq_of_eq_mul_left (Nat.two_pow_pos _) ?_
    rcases Int.le_total q2 0 with hz | hz
    · have h6 : N2 = (-q2).toNat + (q2 + 1074).toNat := by omega
      have h7 : c2 * 2 ^ (q2 + 1074).toNat = (c - 4503599627370496) * 2 ^ (-q2).toNat * 2 ^ (q2 + 1074).toNat := by
        rw [hval2, Nat.mul_assoc, ← Nat.pow_add, ← h6]
      rw [show q2.toNat = 0 by omega, Nat.pow_zero, Nat.mul_one]
      exact Nat.eq_of_mul_eq_mul_right (Nat.two_pow_pos _) h7
    · have h6 : (q2 + 1074).toNat = q2.toNat + N2 := by omega
      rw [h6, Nat.pow_add, ← Nat.mul_assoc] at hval2
      have h8 := Nat.eq_of_mul_eq_mul_right (Nat.two_pow_pos _) hval2
      rw [h8, show (-q2).toNat = 0 by omega, Nat.pow_zero, Nat.mul_one]
  show FP.Core.toL (FP.Core.val64 _) = _
  rw [ev]
  have e9 : FP.Core.truncate false c2 q2 = ((c - 4503599627370496 : Nat) : Int) := by
    unfold FP.Core.truncate FP.Core.signed
    rw [if_neg (by decide), ht]
  have e10 : ∀ lo hi : Int, FP.Core.toInt lo hi (DF false c2 q2) = max lo (min hi (FP.Core.truncate false c2 q2)) := fun _ _ => rfl
  unfold FP.Core.toL
  have e11 : max (-2 ^ 63) (min (2 ^ 63 - 1) ((c - 4503599627370496 : Nat) : Int)) = ((c - 4503599627370496 : Nat) : Int) := mm_id (by omega)
  rw [e10, e9, e11]
/-- the bits themselves -/
theorem NV.bits {d : UInt64} {c : Nat} {q : Int} (h : NV d c q) : d.toNat = (q + 1075).toNat * 4503599627370496 + (c - 4503599627370496) := by
  obtain ⟨h1, h2, h3, h4, h5⟩ := h
  have h6 : FP.Core.of64 (FP.Core.val64 d) = d := FP.Core.of64_val64 (by rw [h1]; intro z; cases z)
  have e4 : FP.Core.b64.tails = 4503599627370496 := by decide
  have e2 : FP.Core.b64.qmin = -1074 := by decide
  have e5 : FP.Core.b64.exps = 2048 := by decide
  have h7 : (FP.Core.of64 (FP.Core.val64 d)).toNat = FP.Core.encode FP.Core.b64 (FP.Core.val64 d) := FP.Core.toNat_of64 (FP.Core.val64_fits _)
  rw [h6, h1] at h7
  rw [h7]
  show (if c < FP.Core.b64.tails then _ else FP.Core.assemble FP.Core.b64 false ((q - FP.Core.b64.qmin).toNat + 1) (c - FP.Core.b64.tails)) = _
  rw [if_neg (by rw [e4]; omega)]
  unfold FP.Core.assemble
  rw [e4, e2, e5, show (q - -1074).toNat + 1 = (q + 1075).toNat by omega, show Bool.toNat false = 0 from rfl, Nat.zero_mul, Nat.zero_add]
