/-! WHAT THE LAW LOOKS AT: pure -/
/-- all that holds between the class and the register -/
def TI (nl ns : Nat) (V : Mem) : Prop := VI nl ns V ∧ Lw nl ns V V ∧ KC nl ns V ∧ V 224 0 = nI nl ∧ V 224 1 = nI ns ∧ V 224 2 = V 0 4
theorem per_pos {x : Int32} (h : perR x) : 0 < x ↔ ¬ x = 0 := by
  obtain ⟨j, hj, rfl⟩ := per_of h
  constructor
  · intro z e
    rw [e] at z
    exact absurd z (by decide)
  · intro z
    refine Int32.not_le.mp (nI_nle ?_ (by omega))
    rcases Nat.eq_zero_or_pos j with e | e
    · subst e; exact absurd rfl z
    · exact e
section
variable {nl ns k : Nat} {C Z : Mem}
theorem Lw.o5 (h : Lw nl ns C Z) (hS : SI ns C) : ∀ q, q ≤ ns → sF (fun q => decide (Z 226 (4 * q) = nI k)) (lF Z 5) q = sF (runU C k) (fun q => C (19 + q) 5) q
  | 0, _ => rfl
  | q + 1, hq => by
    rw [sF, sF, Lw.o5 h hS q (by omega), lF5, h.s0 (by omega), h.rc (by omega)]
    unfold runU
    by_cases h1 : C (19 + q) 0 = nI k
    · rw [if_pos (decide_eq_true h1)]
      by_cases h2 : 0 < C (19 + q) 3
      · rw [if_pos (decide_eq_true ⟨h1, h2⟩)]
      · rw [if_neg (fun z => h2 (of_decide_eq_true z).2), (hS q (by omega)).2, wor_0 h2, i_add0]
    · rw [if_neg (fun z => h1 (of_decide_eq_true z)), if_neg (fun z => h1 (of_decide_eq_true z).1)]
theorem Lw.o7 (h : Lw nl ns C Z) (hS : SI ns C) : ∀ q, q ≤ ns → sF (fun q => decide (Z 226 (4 * q) = nI k)) (lF Z 7) q = sF (runU C k) (fun q => C (19 + q) 1) q
  | 0, _ => rfl
  | q + 1, hq => by
    have e3 : Z 226 (4 * q + 3) = C (19 + q) 3 := h.s (by omega) (by omega)
    rw [sF, sF, Lw.o7 h hS q (by omega), h.s0 (by omega)]
    unfold runU
    by_cases h1 : C (19 + q) 0 = nI k
    · rw [if_pos (decide_eq_true h1)]
      by_cases h2 : 0 < C (19 + q) 3
      · rw [if_pos (decide_eq_true ⟨h1, h2⟩), lF7 (by rw [e3]; exact (per_pos (hS q (by omega)).1).mp h2), h.s (by omega) (by omega)]
      · rw [if_neg (fun z => h2 (of_decide_eq_true z).2), lF0 (by omega) (by rw [e3]; exact Decidable.not_not.mp (fun z => h2 ((per_pos (hS q (by omega)).1).mpr z))), i_add0]
    · rw [if_neg (fun z => h1 (of_decide_eq_true z)), if_neg (fun z => h1 (of_decide_eq_true z).1)]
theorem Lw.o8 (h : Lw nl ns C Z) (hS : SI ns C) : ∀ q, q ≤ ns → sF (fun q => decide (Z 226 (4 * q) = nI k)) (lF Z 8) q = sF (runU C k) (fun _ => nI 1) q
  | 0, _ => rfl
  | q + 1, hq => by
    have e3 : Z 226 (4 * q + 3) = C (19 + q) 3 := h.s (by omega) (by omega)
    rw [sF, sF, Lw.o8 h hS q (by omega), h.s0 (by omega)]
    unfold runU
    by_cases h1 : C (19 + q) 0 = nI k
    · rw [if_pos (decide_eq_true h1)]
      by_cases h2 : 0 < C (19 + q) 3
      · rw [if_pos (decide_eq_true ⟨h1, h2⟩), lF8 (by rw [e3]; exact (per_pos (hS q (by omega)).1).mp h2)]
      · rw [if_neg (fun z => h2 (of_decide_eq_true z).2), lF0 (by omega) (by rw [e3]; exact Decidable.not_not.mp (fun z => h2 ((per_pos (hS q (by omega)).1).mpr z))), i_add0]
    · rw [if_neg (fun z => h1 (of_decide_eq_true z)), if_neg (fun z => h1 (of_decide_eq_true z).1)]
theorem Lw.p5 (h : Lw nl ns C Z) (hS : SI ns C) : lOf Z k 5 ns = cProp C ns k 5 := h.o5 hS ns (Nat.le_refl _)
theorem Lw.p7 (h : Lw nl ns C Z) (hS : SI ns C) : lOf Z k 7 ns = cProp C ns k 7 := h.o7 hS ns (Nat.le_refl _)
theorem Lw.p8 (h : Lw nl ns C Z) (hS : SI ns C) : lOf Z k 8 ns = cProp C ns k 8 := h.o8 hS ns (Nat.le_refl _)
theorem Lw.p6 (h : Lw nl ns C Z) (hk : k < nl) : Z 224 (3 + k) - cProp C ns k 5 = cProp C ns k 6 := by rw [h.li hk]; rfl
/-- the profit by what is had and paid -/
theorem Lw.p1 (h : Lw nl ns C Z) (hk : k < nl) : Z 224 (11 + k) + cProp C ns k 5 - Z 224 (3 + k) + Z 224 (19 + k) = cProf1 (3 + k) (cSub C ns k 5) C := by
  rw [h.as hk, h.li hk, h.cs hk]
  show C (3 + k) 4 + cSub C ns k 5 - C (3 + k) 3 + (C (3 + k + 8) 13 - C (3 + k + 8) 2 - C (3 + k + 8) 15 - C (3 + k + 8) 16) = C (3 + k) 4 + cSub C ns k 5 - C (3 + k) 3 + C (3 + k + 8) 13 - C (3 + k + 8) 2 - C (3 + k + 8) 15 - C (3 + k + 8) 16
  grind
end
theorem TI.pp {nl ns k : Nat} {V : Mem} (h : TI nl ns V) (hk : k < nl) : cProf1 (3 + k) (cSub V ns k 5) V = cProf0 (3 + k) V := by
  rw [← h.2.1.p1 hk, cProf0_pr, ← h.2.1.pr hk, h.2.2.1 k hk, h.2.1.p5 h.1.2.2.1]
/-! the lease with the fewest periods left -/
theorem cEF_or {V : Mem} : ∀ i, cEF V i = (-1, nI 61) ∨ ∃ b, b < i ∧ cEF V i = (nI b, V (3 + b) 1)
  | 0 => Or.inl rfl
  | i + 1 => by
    rw [cEF]
    split
    · exact Or.inr ⟨i, by omega, rfl⟩
    · rcases cEF_or (V := V) i with e | ⟨b, hb, e⟩
      · exact Or.inl e
      · exact Or.inr ⟨b, by omega, e⟩
theorem cEF_nn {V : Mem} {i : Nat} (h : ¬ (cEF V i).1 < 0) : ∃ b, b < i ∧ (cEF V i).1 = nI b ∧ (cEF V i).2 = V (3 + b) 1 := by
  rcases cEF_or (V := V) i with e | ⟨b, hb, e⟩
  · rw [e] at h
    exact absurd (show ((-1 : Int32) < 0) by decide) h
  · exact ⟨b, hb, by rw [e], by rw [e]⟩
theorem cEF_neg {V : Mem} {i : Nat} (hi : i ≤ 8) (h : (cEF V i).1 < 0) : (cEF V i).2 = nI 61 := by
  rcases cEF_or (V := V) i with e | ⟨b, hb, e⟩
  · rw [e]
  · rw [e] at h
    exact absurd h (nI_pos (by omega))
theorem cEF_a {V : Mem} {i : Nat} (h : V (3 + i) 1 ≤ 0) : (cEF V i).1 = (cEF V (i + 1)).1 := by
  rw [cEF, if_neg (fun z => absurd z.1 (Int32.not_lt.mpr h))]
theorem cEF_b {V : Mem} {i : Nat} (hi : i ≤ 8) (hp : perR (V (3 + i) 1)) (h0 : ¬ V (3 + i) 1 ≤ 0) (h : (cEF V i).1 < 0) : nI i = (cEF V (i + 1)).1 := by
  have hlt : V (3 + i) 1 < (cEF V i).2 := by
    rw [cEF_neg hi h]
    have h60 := hp.2
    have h2 : nI 60 < nI 61 := by decide
    rw [Int32.lt_iff_toInt_lt] at h2 ⊢
    rw [Int32.le_iff_toInt_le] at h60
    omega
  rw [cEF, if_pos ⟨Int32.not_le.mp h0, hlt⟩]
theorem cEF_c {V : Mem} {i b : Nat} (h0 : ¬ V (3 + i) 1 ≤ 0) (e : (cEF V i).2 = V (3 + b) 1) (h : ¬ V (3 + b) 1 ≤ V (3 + i) 1) : nI i = (cEF V (i + 1)).1 := by
  rw [cEF, if_pos ⟨Int32.not_le.mp h0, by rw [e]; exact Int32.not_le.mp h⟩]
theorem cEF_d {V : Mem} {i b : Nat} (e : (cEF V i).2 = V (3 + b) 1) (h : V (3 + b) 1 ≤ V (3 + i) 1) : (cEF V i).1 = (cEF V (i + 1)).1 := by
  rw [cEF, if_neg (fun z => absurd z.2 (by rw [e]; exact Int32.not_lt.mpr h))]
/-! subleases that run: by leases, and at once -/
def cRS (V : Mem) (n : Nat) : Int32 := sF (fun q => decide (0 < V (19 + q) 3)) (fun _ => nI 1) n
theorem sF_add {f g : Nat → Int32} : ∀ n, sF (fun _ => true) (fun k => f k + g k) n = sF (fun _ => true) f n + sF (fun _ => true) g n
  | 0 => rfl
  | n + 1 => by
    rw [sF, sF, sF, if_pos rfl, if_pos rfl, if_pos rfl, sF_add n]
    grind
theorem sF_one {k0 : Nat} {x : Int32} : ∀ n, sF (fun _ => true) (fun k => if k = k0 then x else nI 0) n = if k0 < n then x else nI 0
  | 0 => by rw [if_neg (by omega)]; rfl
  | n + 1 => by
    rw [sF, if_pos rfl, sF_one n]
    by_cases e : n = k0
    · subst e
      rw [if_neg (by omega), if_pos rfl, if_pos (by omega), nI_0, Int32.zero_add]
    · rw [if_neg e, i_add0]
      by_cases h : k0 < n
      · rw [if_pos h, if_pos (by omega)]
      · rw [if_neg h, if_neg (by omega)]
theorem cRS_of {V : Mem} {nl ns : Nat} (h8 : nl ≤ 8) (hh : hdR nl ns V) : ∀ q, q ≤ ns → sF (fun _ => true) (fun k => sF (runU V k) (fun _ => nI 1) q) nl = cRS V q
  | 0, _ => by
    have z : ∀ n, sF (fun _ => true) (fun _ => nI 0) n = nI 0 := by
      intro n
      induction n with
      | zero => rfl
      | succ n ih => rw [sF, if_pos rfl, ih, i_add0]
    exact z nl
  | q + 1, hq => by
    obtain ⟨k0, hk0, e0⟩ := hh q (by omega)
    have ih := cRS_of h8 hh q (by omega)
    have e1 : sF (fun _ => true) (fun k => sF (runU V k) (fun _ => nI 1) (q + 1)) nl = sF (fun _ => true) (fun k => sF (runU V k) (fun _ => nI 1) q + (if k = k0 then (if 0 < V (19 + q) 3 then nI 1 else nI 0) else nI 0)) nl := by
      refine sF_congr nl (fun k hk _ => ?_)
      show (if runU V k q = true then _ else _) = _
      by_cases ek : k = k0
      · subst ek
        rw [if_pos rfl]
        by_cases hr : 0 < V (19 + q) 3
        · rw [if_pos (runU_t ⟨e0, hr⟩), if_pos hr]
        · rw [if_neg (runU_f (fun z => hr z.2)), if_neg hr, i_add0]
      · rw [if_neg ek, if_neg (runU_f (fun z => ek ((nI_eq (by omega) (by omega)).mp (e0.symm.trans z.1)).symm)), i_add0]
    rw [e1, sF_add, ih, sF_one, if_pos hk0]
    unfold cRS
    rw [sF]
    by_cases hr : 0 < V (19 + q) 3
    · rw [if_pos hr, if_pos (decide_eq_true hr)]
    · rw [if_neg hr, if_neg (mt of_decide_eq_true hr), i_add0]
theorem cRS_eq {V : Mem} {nl ns : Nat} (h : CI nl ns V) : cCount V nl ns 4 = cRS V ns := cRS_of h.1.2 h.2.2.2.2.1 ns (Nat.le_refl _)
/-! the share -/
theorem n64_to {r : UInt64} (h : vf_n64 r) : FP.Core.val64 r ≠ .nan := by
  refine (FP.Core.ne_nan r).mpr ?_
  have h1 : r &&& 0x7fffffffffffffff ≤ 0x7ff0000000000000 := h
  rw [UInt64.le_iff_toNat_le, UInt64.toNat_and] at h1
  have h2 : (0x7fffffffffffffff : UInt64).toNat = 2 ^ 63 - 1 := by decide
  have h3 : (0x7ff0000000000000 : UInt64).toNat = 9218868437227405312 := by decide
  rw [h2, h3, Nat.and_two_pow_sub_one_eq_mod] at h1
  exact h1
theorem i2d_n64 {a : Int32} : vf_n64 (FP.i2d a) := (Jvm.Free.Fl.i2d_fin a).noNaN
theorem i2d_one {a : Int32} : FP.dmul (FP.i2d a) FP.dconst1 = FP.i2d a := FP.Core.dmul_one (n64_to i2d_n64)
theorem dcmp_same {r : UInt64} (h : vf_n64 r) : Op.cmpValue (FP.dcmp r r) .l = 0 := by
  have e : FP.dcmp r r = some .eq := FP.Core.dcmp_self (n64_to h)
  rw [e]; rfl
theorem d0_n64 : vf_n64 FP.dconst0 := by
  show FP.dconst0 &&& 0x7fffffffffffffff ≤ 0x7ff0000000000000
  decide +kernel
theorem VI.sum3 {nl ns : Nat} {C : Mem} (h : VI nl ns C) : ∀ j, j ≤ nl → ∃ S, S ≤ 6000000 * j ∧ cSumL C j ns 3 = nI S
  | 0, _ => ⟨0, by omega, rfl⟩
  | j + 1, hj => by
    obtain ⟨S, h1, h2⟩ := VI.sum3 h j (by omega)
    have hL := h.2.1 j (by omega)
    obtain ⟨w, h3, h4⟩ := wor_of hL.1 (h.1.2.2.1 j (by omega)) (h.1.2.2.2.1 j (by omega))
    refine ⟨S + w, by omega, ?_⟩
    unfold cSumL at h2 ⊢
    rw [sF, if_pos rfl, h2, show cProp C ns j 3 = C (3 + j) 3 from rfl, hL.2, h4, nI_add]
theorem VI.off0 {nl ns : Nat} {C : Mem} (_ : VI nl ns C) (h0 : cSumL C nl ns 3 = 0) : cOff C nl ns = FP.dconst0 := by
  unfold cOff
  rw [h0, if_neg (by decide)]
theorem VI.off1 {nl ns : Nat} {C : Mem} (h : VI nl ns C) (h0 : ¬ cSumL C nl ns 3 = 0) : cOff C nl ns = FP.ddiv (FP.i2d (cSumL C nl ns 5)) (FP.i2d (cSumL C nl ns 3)) := by
  have h8 := h.1.1.2
  obtain ⟨S, h1, h2⟩ := h.sum3 nl (Nat.le_refl _)
  unfold cOff
  rw [if_pos]
  rw [h2] at h0 ⊢
  refine Int32.not_le.mp (nI_nle ?_ (by omega))
  rcases Nat.eq_zero_or_pos S with e | e
  · subst e; exact absurd rfl h0
  · exact e
