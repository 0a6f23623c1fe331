/-! THE REGISTER BESIDE THE CLASS -/
/-- the profit by movements, and what is had less what is paid, out of the sums M -/
def pr0 (M : Nat → Int32) : Int32 := M 7 - M 3 - M 1 - M 6 + M 4 - M 8 - M 16 + M 11 - M 9 + M 12 - M 14 - M 10
def csh (M : Nat → Int32) : Int32 := M 13 - M 2 - M 15 - M 16
theorem cProf0_pr {k : Nat} {V : Mem} : cProf0 k V = pr0 (V (k + 8)) := rfl
/-- C: the class's rows; Z: the law's -/
def Lw (nl ns : Nat) (C Z : Mem) : Prop :=
  (∀ k, k < nl → (∀ j, j < 3 → Z 225 (3 * k + j) = C (3 + k) j) ∧ Z 224 (3 + k) = C (3 + k) 3 ∧ Z 224 (11 + k) = C (3 + k) 4 ∧ Z 224 (27 + k) = pr0 (C (3 + k + 8)) ∧ Z 224 (19 + k) = csh (C (3 + k + 8))) ∧
  ∀ q, q < ns → (∀ j, j < 4 → Z 226 (4 * q + j) = C (19 + q) j) ∧ Z 227 q = C (19 + q) 4 ∧ Z 227 (12 + q) = C (19 + q) 5
section
variable {nl ns k q : Nat} {C Z : Mem}
theorem Lw.f (h : Lw nl ns C Z) (hk : k < nl) {j : Nat} (hj : j < 3) : Z 225 (3 * k + j) = C (3 + k) j := (h.1 k hk).1 j hj
theorem Lw.f0 (h : Lw nl ns C Z) (hk : k < nl) : Z 225 (3 * k) = C (3 + k) 0 := (h.1 k hk).1 0 (by omega)
theorem Lw.li (h : Lw nl ns C Z) (hk : k < nl) : Z 224 (3 + k) = C (3 + k) 3 := (h.1 k hk).2.1
theorem Lw.as (h : Lw nl ns C Z) (hk : k < nl) : Z 224 (11 + k) = C (3 + k) 4 := (h.1 k hk).2.2.1
theorem Lw.pr (h : Lw nl ns C Z) (hk : k < nl) : Z 224 (27 + k) = pr0 (C (3 + k + 8)) := (h.1 k hk).2.2.2.1
theorem Lw.cs (h : Lw nl ns C Z) (hk : k < nl) : Z 224 (19 + k) = csh (C (3 + k + 8)) := (h.1 k hk).2.2.2.2
theorem Lw.s (h : Lw nl ns C Z) (hq : q < ns) {j : Nat} (hj : j < 4) : Z 226 (4 * q + j) = C (19 + q) j := (h.2 q hq).1 j hj
theorem Lw.s0 (h : Lw nl ns C Z) (hq : q < ns) : Z 226 (4 * q) = C (19 + q) 0 := (h.2 q hq).1 0 (by omega)
theorem Lw.rt (h : Lw nl ns C Z) (hq : q < ns) : Z 227 q = C (19 + q) 4 := (h.2 q hq).2.1
theorem Lw.rc (h : Lw nl ns C Z) (hq : q < ns) : Z 227 (12 + q) = C (19 + q) 5 := (h.2 q hq).2.2
theorem Lw.rows {C' Z' : Mem} (h : Lw nl ns C Z) (h8 : nl ≤ 8) (h12 : ns ≤ 12) (e1 : ∀ r, 2 < r → r < 31 → C' r = C r) (e2 : ∀ a b, ¬ (a = 224 ∧ b < 3) → 224 ≤ a → a < 228 → Z' a b = Z a b) : Lw nl ns C' Z' :=
  ⟨fun k hk => ⟨fun j hj => by rw [e2 _ _ (by omega) (by omega) (by omega), e1 _ (by omega) (by omega)]; exact h.f hk hj, by rw [e2 _ _ (by omega) (by omega) (by omega), e1 _ (by omega) (by omega)]; exact h.li hk, by rw [e2 _ _ (by omega) (by omega) (by omega), e1 _ (by omega) (by omega)]; exact h.as hk, by rw [e2 _ _ (by omega) (by omega) (by omega), e1 _ (by omega) (by omega)]; exact h.pr hk, by rw [e2 _ _ (by omega) (by omega) (by omega), e1 _ (by omega) (by omega)]; exact h.cs hk⟩,
   fun q hq => ⟨fun j hj => by rw [e2 _ _ (by omega) (by omega) (by omega), e1 _ (by omega) (by omega)]; exact h.s hq hj, by rw [e2 _ _ (by omega) (by omega) (by omega), e1 _ (by omega) (by omega)]; exact h.rt hq, by rw [e2 _ _ (by omega) (by omega) (by omega), e1 _ (by omega) (by omega)]; exact h.rc hq⟩⟩
/-- lease k alone changes -/
theorem Lw.lease {C' Z' : Mem} (h : Lw nl ns C Z) (h8 : nl ≤ 8) (h12 : ns ≤ 12) (hk : k < nl) (eC : ∀ r, 2 < r → r < 31 → r ≠ 3 + k → r ≠ 3 + k + 8 → C' r = C r)
    (eZ : ∀ a b, ¬ (a = 225 ∧ 3 * k ≤ b ∧ b < 3 * k + 3) → ¬ (a = 224 ∧ (b < 3 ∨ b = 3 + k ∨ b = 11 + k ∨ b = 19 + k ∨ b = 27 + k)) → Z' a b = Z a b)
    (g0 : Z' 225 (3 * k) = C' (3 + k) 0) (g1 : Z' 225 (3 * k + 1) = C' (3 + k) 1) (g2 : Z' 225 (3 * k + 2) = C' (3 + k) 2) (g3 : Z' 224 (3 + k) = C' (3 + k) 3) (g4 : Z' 224 (11 + k) = C' (3 + k) 4) (g5 : Z' 224 (27 + k) = pr0 (C' (3 + k + 8))) (g6 : Z' 224 (19 + k) = csh (C' (3 + k + 8))) : Lw nl ns C' Z' := by
  refine ⟨fun j hj => ?_, fun q hq => ?_⟩
  · by_cases e : j = k
    · subst e
      refine ⟨fun i hi => ?_, g3, g4, g5, g6⟩
      rcases (show i = 0 ∨ i = 1 ∨ i = 2 by omega) with rfl | rfl | rfl
      · exact g0
      · exact g1
      · exact g2
    · refine ⟨fun i hi => ?_, ?_, ?_, ?_, ?_⟩
      · rw [eZ _ _ (by omega) (by omega), eC _ (by omega) (by omega) (by omega) (by omega)]; exact h.f hj hi
      · rw [eZ _ _ (by omega) (by omega), eC _ (by omega) (by omega) (by omega) (by omega)]; exact h.li hj
      · rw [eZ _ _ (by omega) (by omega), eC _ (by omega) (by omega) (by omega) (by omega)]; exact h.as hj
      · rw [eZ _ _ (by omega) (by omega), eC _ (by omega) (by omega) (by omega) (by omega)]; exact h.pr hj
      · rw [eZ _ _ (by omega) (by omega), eC _ (by omega) (by omega) (by omega) (by omega)]; exact h.cs hj
  · refine ⟨fun i hi => ?_, ?_, ?_⟩
    · rw [eZ _ _ (by omega) (by omega), eC _ (by omega) (by omega) (by omega) (by omega)]; exact h.s hq hi
    · rw [eZ _ _ (by omega) (by omega), eC _ (by omega) (by omega) (by omega) (by omega)]; exact h.rt hq
    · rw [eZ _ _ (by omega) (by omega), eC _ (by omega) (by omega) (by omega) (by omega)]; exact h.rc hq
end
/-! lease ops -/
def lImp (k : Nat) (a : Int32) (Z : Mem) : Mem :=
  let Z1 := mset Z 224 (11 + k) (Z 224 (11 + k) - a)
  mset Z1 224 (27 + k) (Z1 224 (27 + k) - a)
theorem Lw.imp {nl ns k : Nat} {C Z : Mem} {a : Int32} (h : Lw nl ns C Z) (h8 : nl ≤ 8) (h12 : ns ≤ 12) (hk : k < nl) : Lw nl ns (cImp (3 + k) a C) (lImp k a Z) := by
  have g0 := h.f0 hk
  have g1 := h.f hk (j := 1) (by omega)
  have g2 := h.f hk (j := 2) (by omega)
  have g3 := h.li hk
  have g4 := h.as hk
  have g5 := h.pr hk
  have g6 := h.cs hk
  unfold pr0 at g5
  unfold csh at g6
  refine h.lease h8 h12 hk (fun r h1 h2 h3 h4 => ?_) (fun a b h1 h2 => ?_) ?_ ?_ ?_ ?_ ?_ ?_ ?_
  · unfold cImp; rw [cMv_o (by omega), mset_o (by omega)]
  · unfold lImp; simp (disch := omega) only [mset_ne]
  · unfold lImp cImp cMv; simp (disch := omega) only [mset_at, mset_ne]; exact g0
  · unfold lImp cImp cMv; simp (disch := omega) only [mset_at, mset_ne]; exact g1
  · unfold lImp cImp cMv; simp (disch := omega) only [mset_at, mset_ne]; exact g2
  · unfold lImp cImp cMv; simp (disch := omega) only [mset_at, mset_ne]; exact g3
  · unfold lImp cImp cMv; simp (disch := omega) only [mset_at, mset_ne]; rw [g4]
  · unfold lImp cImp cMv pr0; simp (disch := omega) only [mset_at, mset_ne]; rw [g5]; grind
  · unfold lImp cImp cMv csh; simp (disch := omega) only [mset_at, mset_ne]; exact g6
theorem mx_eq {x : Int32} : (if x < 0 then nI 0 else x) = mx (nI 0) x := by
  unfold mx
  by_cases h : x < 0
  · rw [if_pos h, if_neg (show ¬ nI 0 < x from Int32.not_lt.mpr (Int32.le_of_lt h))]
  · rw [if_neg h]
    by_cases h2 : nI 0 < x
    · rw [if_pos h2]
    · rw [if_neg h2]
      exact Int32.le_antisymm (Int32.not_lt.mp h2) (Int32.not_lt.mp h)
theorem Lw.asv {nl ns k : Nat} {C Z : Mem} {th : Int32} (h : Lw nl ns C Z) (hk : k < nl) : lAs k th Z = mx (nI 0) (C (3 + k) 4 + th - C (3 + k) 3) := by
  unfold lAs
  rw [h.as hk, h.li hk, mx_eq]
theorem Lw.meas0 {nl ns k : Nat} {C Z : Mem} {p n r : Int32} (h : Lw nl ns C Z) (h8 : nl ≤ 8) (h12 : ns ≤ 12) (hk : k < nl) : Lw nl ns (cMeas (3 + k) p n r C) (lMeas0 k p n r Z) := by
  have g3 := h.li hk
  have g4 := h.as hk
  have g5 := h.pr hk
  have g6 := h.cs hk
  have ga := h.asv (th := wor p n r) hk
  unfold pr0 at g5
  unfold csh at g6
  refine h.lease h8 h12 hk (fun r h1 h2 h3 h4 => cMeas_o (by omega) (by omega)) (fun a b h1 h2 => lMeas0_u (by omega)) ?_ ?_ ?_ ?_ ?_ ?_ ?_
  · unfold lMeas0 cMeas cMv; simp (disch := omega) only [mset_at, mset_ne]
  · unfold lMeas0 cMeas cMv; simp (disch := omega) only [mset_at, mset_ne]
  · unfold lMeas0 cMeas cMv; simp (disch := omega) only [mset_at, mset_ne]
  · unfold lMeas0 cMeas cMv; simp (disch := omega) only [mset_at, mset_ne]
  · unfold lMeas0 cMeas cMv; simp (disch := omega) only [mset_at, mset_ne]; exact ga
  · unfold lMeas0 cMeas cMv pr0; simp (disch := omega) only [mset_at, mset_ne]; rw [ga, g3, g4, g5]; grind
  · unfold lMeas0 cMeas cMv csh; simp (disch := omega) only [mset_at, mset_ne]; exact g6
/-- the law's part of endPart: fee f, thousandths t -/
def lEndB (k : Nat) (t fee : Int32) (Z : Mem) : Int32 :=
  let Z1 := mset Z 225 (3 * k) (Z 225 (3 * k) - prt (Z 225 (3 * k)) t)
  Z1 224 (3 + k) - wor (Z1 225 (3 * k)) (Z1 225 (3 * k + 1)) (Z1 225 (3 * k + 2)) - prt (Z 224 (11 + k)) t - fee
def lEnd (k : Nat) (t fee : Int32) (Z : Mem) : Mem :=
  let gone := prt (Z 224 (11 + k)) t
  let Z1 := mset Z 225 (3 * k) (Z 225 (3 * k) - prt (Z 225 (3 * k)) t)
  let now := wor (Z1 225 (3 * k)) (Z1 225 (3 * k + 1)) (Z1 225 (3 * k + 2))
  let Z2 := mset Z1 224 (3 + k) now
  let Z3 := mset Z2 224 (11 + k) (Z2 224 (11 + k) - gone)
  let Z4 := mset Z3 224 (19 + k) (Z3 224 (19 + k) - fee)
  mset Z4 224 (27 + k) (Z4 224 (27 + k) + lEndB k t fee Z)
theorem sub_sub_self32 {a b : Int32} : a - (a - b) = b := by grind
theorem Lw.endp {nl ns k : Nat} {C Z : Mem} {t fee : Int32} (h : Lw nl ns C Z) (h8 : nl ≤ 8) (h12 : ns ≤ 12) (hk : k < nl) : Lw nl ns (cEnd (3 + k) t fee C) (lEnd k t fee Z) ∧ cEndL (3 + k) t C - cEndA (3 + k) t C - fee = lEndB k t fee Z := by
  have g0 := h.f0 hk
  have g1 := h.f hk (j := 1) (by omega)
  have g2 := h.f hk (j := 2) (by omega)
  have g3 := h.li hk
  have g4 := h.as hk
  have g5 := h.pr hk
  have g6 := h.cs hk
  unfold pr0 at g5
  unfold csh at g6
  have eA : cEndA (3 + k) t C = prt (C (3 + k) 4) t := by unfold cEndA; rw [mset_ne (by omega)]
  have eL : cEndL (3 + k) t C = C (3 + k) 3 - wor (C (3 + k) 0 - prt (C (3 + k) 0) t) (C (3 + k) 1) (C (3 + k) 2) := by
    unfold cEndL; simp (disch := omega) only [mset_at, mset_ne]
  have eB : lEndB k t fee Z = C (3 + k) 3 - wor (C (3 + k) 0 - prt (C (3 + k) 0) t) (C (3 + k) 1) (C (3 + k) 2) - prt (C (3 + k) 4) t - fee := by
    unfold lEndB; simp (disch := omega) only [mset_at, mset_ne]; rw [g0, g1, g2, g3, g4]
  refine ⟨?_, by rw [eA, eL, eB]⟩
  refine h.lease h8 h12 hk (fun r h1 h2 h3 h4 => ?_) (fun a b h1 h2 => ?_) ?_ ?_ ?_ ?_ ?_ ?_ ?_
  · unfold cEnd; rw [cMv_o (by omega), cMv_o (by omega), cMv_o (by omega), mset_o (by omega), mset_o (by omega), mset_o (by omega)]
  · unfold lEnd; simp (disch := omega) only [mset_ne]
  · unfold lEnd cEnd cMv; simp (disch := omega) only [mset_at, mset_ne]; rw [g0]
  · unfold lEnd cEnd cMv; simp (disch := omega) only [mset_at, mset_ne]; exact g1
  · unfold lEnd cEnd cMv; simp (disch := omega) only [mset_at, mset_ne]; exact g2
  · unfold lEnd cEnd cMv; simp (disch := omega) only [mset_at, mset_ne]; rw [eL, g0, g1, g2, sub_sub_self32]
  · unfold lEnd cEnd cMv; simp (disch := omega) only [mset_at, mset_ne]; rw [eA, g4]
  · unfold lEnd cEnd cMv pr0; simp (disch := omega) only [mset_at, mset_ne]; rw [eA, eL, eB, g5]; grind
  · unfold lEnd cEnd cMv csh; simp (disch := omega) only [mset_at, mset_ne]; rw [g6]; grind
/-! new rows -/
theorem rcpy_at {V : Mem} {k n j : Nat} {f : Nat → Int32} (h : j < n) : rcpy V k f n k j = f j := by unfold rcpy; rw [if_pos ⟨rfl, h⟩]
theorem Lw.opn {nl ns : Nat} {C Z : Mem} {p n r c : Int32} (h : Lw nl ns C Z) (h8 : nl < 8) (h12 : ns ≤ 12) : Lw (nl + 1) ns (cAddL nl p n r c C) (lAdd nl p n r c Z) := by
  have eC : ∀ q, 2 < q → q ≠ 3 + nl → q ≠ 3 + nl + 8 → cAddL nl p n r c C q = C q := fun q h1 h2 h3 => by
    unfold cAddL cBeg
    rw [cMv_o h3, cMv_o h3, cMv_o h3, mset_o h2, mset_o h2, mset_o h2, mset_o h2, mset_o h2, rcpy_ne h3, mset_o (by omega)]
  have eZ : ∀ a b, ¬ (a = 225 ∧ 3 * nl ≤ b ∧ b < 3 * nl + 3) → ¬ (a = 224 ∧ (b < 3 ∨ b = 3 + nl ∨ b = 11 + nl ∨ b = 19 + nl ∨ b = 27 + nl)) → lAdd nl p n r c Z a b = Z a b := fun a b h1 h2 => by
    unfold lAdd; simp (disch := omega) only [mset_ne]
  refine ⟨fun j hj => ?_, fun q hq => ?_⟩
  · by_cases e : j = nl
    · subst e
      refine ⟨fun i hi => ?_, ?_, ?_, ?_, ?_⟩
      · rcases (show i = 0 ∨ i = 1 ∨ i = 2 by omega) with rfl | rfl | rfl <;> (unfold lAdd cAddL cBeg cMv; simp (disch := omega) only [mset_at, mset_ne, Nat.add_zero])
      · unfold lAdd cAddL cBeg cMv; simp (disch := omega) only [mset_at, mset_ne]
      · unfold lAdd cAddL cBeg cMv; simp (disch := omega) only [mset_at, mset_ne]
      · unfold lAdd cAddL cBeg cMv pr0; simp (disch := omega) only [mset_at, mset_ne, rcpy_at]; decide
      · unfold lAdd cAddL cBeg cMv csh; simp (disch := omega) only [mset_at, mset_ne, rcpy_at]; rw [nI_0]; grind
    · refine ⟨fun i hi => ?_, ?_, ?_, ?_, ?_⟩
      · rw [eZ _ _ (by omega) (by omega), eC _ (by omega) (by omega) (by omega)]; exact h.f (by omega) hi
      · rw [eZ _ _ (by omega) (by omega), eC _ (by omega) (by omega) (by omega)]; exact h.li (by omega)
      · rw [eZ _ _ (by omega) (by omega), eC _ (by omega) (by omega) (by omega)]; exact h.as (by omega)
      · rw [eZ _ _ (by omega) (by omega), eC _ (by omega) (by omega) (by omega)]; exact h.pr (by omega)
      · rw [eZ _ _ (by omega) (by omega), eC _ (by omega) (by omega) (by omega)]; exact h.cs (by omega)
  · refine ⟨fun i hi => ?_, ?_, ?_⟩
    · rw [eZ _ _ (by omega) (by omega), eC _ (by omega) (by omega) (by omega)]; exact h.s hq hi
    · rw [eZ _ _ (by omega) (by omega), eC _ (by omega) (by omega) (by omega)]; exact h.rt hq
    · rw [eZ _ _ (by omega) (by omega), eC _ (by omega) (by omega) (by omega)]; exact h.rc hq
def lSubl (k ns : Nat) (t rc n : Int32) (Z : Mem) : Mem :=
  let gone := prt (Z 224 (11 + k)) t
  let Z4 := mset (mset (mset (mset Z 226 (4 * ns) (nI k)) 226 (4 * ns + 1) t) 226 (4 * ns + 2) rc) 226 (4 * ns + 3) n
  let Z5 := mset Z4 227 ns (Z4 225 (3 * k + 2))
  let Z6 := mset Z5 227 (12 + ns) (wor rc n (Z5 227 ns))
  let Z7 := mset Z6 224 (11 + k) (Z6 224 (11 + k) - gone)
  let Z8 := mset Z7 224 (27 + k) (Z7 224 (27 + k) + (Z7 227 (12 + ns) - gone))
  mset Z8 224 1 (Z8 224 1 + nI 1)
theorem Lw.subl {nl ns k : Nat} {C Z : Mem} {t rc n : Int32} (h : Lw nl ns C Z) (h8 : nl ≤ 8) (h12 : ns < 12) (hk : k < nl) : Lw nl (ns + 1) (cAddS k ns t rc n C) (lSubl k ns t rc n Z) := by
  have g0 := h.f0 hk
  have g1 := h.f hk (j := 1) (by omega)
  have g2 := h.f hk (j := 2) (by omega)
  have g3 := h.li hk
  have g4 := h.as hk
  have g5 := h.pr hk
  have g6 := h.cs hk
  unfold pr0 at g5
  unfold csh at g6
  have eC : ∀ r, 2 < r → r ≠ 19 + ns → r ≠ 3 + k → r ≠ 3 + k + 8 → cAddS k ns t rc n C r = C r := fun r h0 h1 h2 h3 => by
    unfold cAddS cSubT
    rw [cMv_o h3, cMv_o h3, mset_o h2, mset_o h1, mset_o h1, mset_o h1, mset_o h1, mset_o h1, mset_o h1, mset_o (by omega)]
  have eZ : ∀ a b, ¬ (a = 226 ∧ 4 * ns ≤ b ∧ b < 4 * ns + 4) → ¬ (a = 227 ∧ (b = ns ∨ b = 12 + ns)) → ¬ (a = 224 ∧ (b < 3 ∨ b = 11 + k ∨ b = 27 + k)) → lSubl k ns t rc n Z a b = Z a b := fun a b h1 h2 h3 => by
    unfold lSubl; simp (disch := omega) only [mset_ne]
  refine ⟨fun j hj => ?_, fun q hq => ?_⟩
  · by_cases e : j = k
    · subst e
      refine ⟨fun i hi => ?_, ?_, ?_, ?_, ?_⟩
      · rw [eZ _ _ (by omega) (by omega) (by omega), h.f hj hi]
        unfold cAddS cSubT cMv; simp (disch := omega) only [mset_ne]
      · rw [eZ _ _ (by omega) (by omega) (by omega), g3]
        unfold cAddS cSubT cMv; simp (disch := omega) only [mset_ne]
      · unfold lSubl cAddS cSubT cMv; simp (disch := omega) only [mset_at, mset_ne]; rw [g4]
      · unfold lSubl cAddS cSubT cMv pr0; simp (disch := omega) only [mset_at, mset_ne]; rw [g4, g5, g2]; grind
      · unfold lSubl cAddS cSubT cMv csh; simp (disch := omega) only [mset_at, mset_ne]; exact g6
    · refine ⟨fun i hi => ?_, ?_, ?_, ?_, ?_⟩
      · rw [eZ _ _ (by omega) (by omega) (by omega), eC _ (by omega) (by omega) (by omega) (by omega)]; exact h.f (by omega) hi
      · rw [eZ _ _ (by omega) (by omega) (by omega), eC _ (by omega) (by omega) (by omega) (by omega)]; exact h.li (by omega)
      · rw [eZ _ _ (by omega) (by omega) (by omega), eC _ (by omega) (by omega) (by omega) (by omega)]; exact h.as (by omega)
      · rw [eZ _ _ (by omega) (by omega) (by omega), eC _ (by omega) (by omega) (by omega) (by omega)]; exact h.pr (by omega)
      · rw [eZ _ _ (by omega) (by omega) (by omega), eC _ (by omega) (by omega) (by omega) (by omega)]; exact h.cs (by omega)
  · by_cases e : q = ns
    · subst e
      refine ⟨fun i hi => ?_, ?_, ?_⟩
      · rcases (show i = 0 ∨ i = 1 ∨ i = 2 ∨ i = 3 by omega) with rfl | rfl | rfl | rfl <;> (unfold lSubl cAddS cSubT cMv; simp (disch := omega) only [mset_at, mset_ne, Nat.add_zero])
      · unfold lSubl cAddS cSubT cMv; simp (disch := omega) only [mset_at, mset_ne]; exact g2
      · unfold lSubl cAddS cSubT cMv; simp (disch := omega) only [mset_at, mset_ne]; rw [g2]
    · refine ⟨fun i hi => ?_, ?_, ?_⟩
      · rw [eZ _ _ (by omega) (by omega) (by omega), eC _ (by omega) (by omega) (by omega) (by omega)]; exact h.s (by omega) hi
      · rw [eZ _ _ (by omega) (by omega) (by omega), eC _ (by omega) (by omega) (by omega) (by omega)]; exact h.rt (by omega)
      · rw [eZ _ _ (by omega) (by omega) (by omega), eC _ (by omega) (by omega) (by omega) (by omega)]; exact h.rc (by omega)
/-! cut-offs -/
theorem Lw.mv14 {nl ns k : Nat} {C Z : Mem} {x : Int32} (h : Lw nl ns C Z) (h8 : nl ≤ 8) (h12 : ns ≤ 12) (hk : k < nl) : Lw nl ns (cMv (3 + k) 14 x C) (mset Z 224 (27 + k) (Z 224 (27 + k) - x)) := by
  have g5 := h.pr hk
  have g6 := h.cs hk
  unfold pr0 at g5
  unfold csh at g6
  refine h.lease h8 h12 hk (fun r h1 h2 h3 h4 => cMv_o h4) (fun a b h1 h2 => mset_ne (by omega)) ?_ ?_ ?_ ?_ ?_ ?_ ?_
  · rw [mset_ne (by omega), cMv_o (by omega)]; exact h.f0 hk
  · rw [mset_ne (by omega), cMv_o (by omega)]; exact h.f hk (by omega)
  · rw [mset_ne (by omega), cMv_o (by omega)]; exact h.f hk (by omega)
  · rw [mset_ne (by omega), cMv_o (by omega)]; exact h.li hk
  · rw [mset_ne (by omega), cMv_o (by omega)]; exact h.as hk
  · unfold cMv pr0; simp (disch := omega) only [mset_at, mset_ne]; rw [g5]; grind
  · unfold cMv csh; simp (disch := omega) only [mset_at, mset_ne]; exact g6
theorem Lw.sput3 {nl ns q : Nat} {C Z : Mem} {x : Int32} (h : Lw nl ns C Z) (h8 : nl ≤ 8) (h12 : ns ≤ 12) (hq : q < 12) : Lw nl ns (mset C (19 + q) 3 x) (mset Z 226 (4 * q + 3) x) := by
  refine ⟨fun j hj => ⟨fun i hi => ?_, ?_, ?_, ?_, ?_⟩, fun j hj => ⟨fun i hi => ?_, ?_, ?_⟩⟩
  · rw [mset_ne (by omega), mset_ne (by omega)]; exact h.f hj hi
  · rw [mset_ne (by omega), mset_ne (by omega)]; exact h.li hj
  · rw [mset_ne (by omega), mset_ne (by omega)]; exact h.as hj
  · rw [mset_ne (by omega), mset_o (by omega)]; exact h.pr hj
  · rw [mset_ne (by omega), mset_o (by omega)]; exact h.cs hj
  · by_cases e : j = q ∧ i = 3
    · obtain ⟨rfl, rfl⟩ := e; rw [mset_at, mset_at]
    · rw [mset_ne (by omega), mset_ne (by omega)]; exact h.s hj hi
  · rw [mset_ne (by omega), mset_ne (by omega)]; exact h.rt hj
  · rw [mset_ne (by omega), mset_ne (by omega)]; exact h.rc hj
theorem Lw.sput5 {nl ns q : Nat} {C Z : Mem} {x : Int32} (h : Lw nl ns C Z) (h8 : nl ≤ 8) (h12 : ns ≤ 12) (hq : q < 12) : Lw nl ns (mset C (19 + q) 5 x) (mset Z 227 (12 + q) x) := by
  refine ⟨fun j hj => ⟨fun i hi => ?_, ?_, ?_, ?_, ?_⟩, fun j hj => ⟨fun i hi => ?_, ?_, ?_⟩⟩
  · rw [mset_ne (by omega), mset_ne (by omega)]; exact h.f hj hi
  · rw [mset_ne (by omega), mset_ne (by omega)]; exact h.li hj
  · rw [mset_ne (by omega), mset_ne (by omega)]; exact h.as hj
  · rw [mset_ne (by omega), mset_o (by omega)]; exact h.pr hj
  · rw [mset_ne (by omega), mset_o (by omega)]; exact h.cs hj
  · rw [mset_ne (by omega), mset_ne (by omega)]; exact h.s hj hi
  · rw [mset_ne (by omega), mset_ne (by omega)]; exact h.rt hj
  · by_cases e : j = q
    · subst e; rw [mset_at, mset_at]
    · rw [mset_ne (by omega), mset_ne (by omega)]; exact h.rc hj
