/-! CLASS AND MODEL: the live rows of `now` and of z are the same -/
def Rl (nl ns : Nat) (C Z : Mem) : Prop := (∀ k, k < nl → (∀ j, j < 5 → Z 225 (3 + 22 * k + j) = C (3 + k) j) ∧ ∀ j, j < 17 → Z 225 (3 + 22 * k + 5 + j) = C (3 + k + 8) j) ∧ ∀ q, q < ns → ∀ j, j < 6 → Z 225 (179 + 6 * q + j) = C (19 + q) j
theorem Rl.f {nl ns k j : Nat} {C Z : Mem} (h : Rl nl ns C Z) (hk : k < nl) (hj : j < 5) : Z 225 (3 + 22 * k + j) = C (3 + k) j := (h.1 k hk).1 j hj
theorem Rl.f0 {nl ns k : Nat} {C Z : Mem} (h : Rl nl ns C Z) (hk : k < nl) : Z 225 (3 + 22 * k) = C (3 + k) 0 := (h.1 k hk).1 0 (by omega)
theorem Rl.m {nl ns k j : Nat} {C Z : Mem} (h : Rl nl ns C Z) (hk : k < nl) (hj : j < 17) : Z 225 (3 + 22 * k + 5 + j) = C (3 + k + 8) j := (h.1 k hk).2 j hj
theorem Rl.s {nl ns q j : Nat} {C Z : Mem} (h : Rl nl ns C Z) (hq : q < ns) (hj : j < 6) : Z 225 (179 + 6 * q + j) = C (19 + q) j := h.2 q hq j hj
theorem Rl.s0 {nl ns q : Nat} {C Z : Mem} (h : Rl nl ns C Z) (hq : q < ns) : Z 225 (179 + 6 * q) = C (19 + q) 0 := h.2 q hq 0 (by omega)
theorem Rl.rows {nl ns : Nat} {C C' Z Z' : Mem} (h : Rl nl ns C Z) (h8 : nl ≤ 8) (h12 : ns ≤ 12) (e1 : ∀ r, r < 31 → C' r = C r) (e2 : Z' 225 = Z 225) : Rl nl ns C' Z' :=
  ⟨fun k hk => ⟨fun j hj => by rw [e2, e1 _ (by omega)]; exact h.f hk hj, fun j hj => by rw [e2, e1 _ (by omega)]; exact h.m hk hj⟩, fun q hq j hj => by rw [e2, e1 _ (by omega)]; exact h.s hq hj⟩
theorem Rl.put {nl ns k j : Nat} {C Z : Mem} {x y : Int32} (h : Rl nl ns C Z) (h8 : nl ≤ 8) (h12 : ns ≤ 12) (hk : k < 8) (hj : j < 5) (e : x = y) : Rl nl ns (mset C (3 + k) j x) (mset Z 225 (3 + 22 * k + j) y) := by
  subst e
  refine ⟨fun k1 hk1 => ⟨fun j1 hj1 => ?_, fun j1 hj1 => ?_⟩, fun q hq j1 hj1 => ?_⟩
  · by_cases e1 : k1 = k ∧ j1 = j
    · obtain ⟨rfl, rfl⟩ := e1
      rw [mset_at, mset_at]
    · rw [mset_ne (by omega), mset_ne (by omega)]; exact h.f hk1 hj1
  · rw [mset_ne (by omega), mset_ne (by omega)]; exact h.m hk1 hj1
  · rw [mset_ne (by omega), mset_ne (by omega)]; exact h.s hq hj1
theorem Rl.put0 {nl ns k : Nat} {C Z : Mem} {x y : Int32} (h : Rl nl ns C Z) (h8 : nl ≤ 8) (h12 : ns ≤ 12) (hk : k < 8) (e : x = y) : Rl nl ns (mset C (3 + k) 0 x) (mset Z 225 (3 + 22 * k) y) := h.put (j := 0) h8 h12 hk (by omega) e
theorem Rl.sput {nl ns q j : Nat} {C Z : Mem} {x y : Int32} (h : Rl nl ns C Z) (h8 : nl ≤ 8) (h12 : ns ≤ 12) (hq : q < 12) (hj : j < 6) (e : x = y) : Rl nl ns (mset C (19 + q) j x) (mset Z 225 (179 + 6 * q + j) y) := by
  subst e
  refine ⟨fun k1 hk1 => ⟨fun j1 hj1 => ?_, fun j1 hj1 => ?_⟩, fun q1 hq1 j1 hj1 => ?_⟩
  · rw [mset_ne (by omega), mset_ne (by omega)]; exact h.f hk1 hj1
  · rw [mset_ne (by omega), mset_ne (by omega)]; exact h.m hk1 hj1
  · by_cases e1 : q1 = q ∧ j1 = j
    · obtain ⟨rfl, rfl⟩ := e1
      rw [mset_at, mset_at]
    · rw [mset_ne (by omega), mset_ne (by omega)]; exact h.s hq1 hj1
theorem Rl.sput0 {nl ns q : Nat} {C Z : Mem} {x y : Int32} (h : Rl nl ns C Z) (h8 : nl ≤ 8) (h12 : ns ≤ 12) (hq : q < 12) (e : x = y) : Rl nl ns (mset C (19 + q) 0 x) (mset Z 225 (179 + 6 * q) y) := h.sput (j := 0) h8 h12 hq (by omega) e
theorem Rl.mv {nl ns k m : Nat} {C Z : Mem} {x y : Int32} (h : Rl nl ns C Z) (h8 : nl ≤ 8) (h12 : ns ≤ 12) (hk : k < nl) (hm : m < 17) (e : x = y) : Rl nl ns (cMv (3 + k) m x C) (rMv k m y Z) := by
  subst e
  unfold cMv rMv
  rw [h.m hk hm]
  refine ⟨fun k1 hk1 => ⟨fun j1 hj1 => ?_, fun j1 hj1 => ?_⟩, fun q hq j1 hj1 => ?_⟩
  · rw [mset_ne (by omega), mset_ne (by omega)]; exact h.f hk1 hj1
  · by_cases e1 : k1 = k ∧ j1 = m
    · obtain ⟨rfl, rfl⟩ := e1
      rw [mset_at, mset_at]
    · rw [mset_ne (by omega), mset_ne (by omega)]; exact h.m hk1 hj1
  · rw [mset_ne (by omega), mset_ne (by omega)]; exact h.s hq hj1
theorem sub_sub_self32 {a b : Int32} : a - (a - b) = b := by
  rw [Int32.sub_eq_add_neg, Int32.sub_eq_add_neg a b, Int32.neg_add, Int32.sub_eq_add_neg, Int32.neg_neg, ← Int32.add_assoc, Int32.add_right_neg, Int32.zero_add]
theorem mx_eq {x : Int32} : (if x < 0 then nI 0 else x) = mx (nI 0) x := by
  unfold mx
  by_cases h : x < 0
  · rw [if_pos h, if_neg (show ¬ nI 0 < x from Int32.not_lt.mpr (Int32.le_of_lt h))]
  · rw [if_neg h]
    by_cases h2 : nI 0 < x
    · rw [if_pos h2]
    · rw [if_neg h2]
      exact Int32.le_antisymm (Int32.not_lt.mp h2) (Int32.not_lt.mp h)
theorem Rl.as {nl ns k : Nat} {C Z : Mem} {th : Int32} (h : Rl nl ns C Z) (hk : k < nl) : mx (nI 0) (C (3 + k) 4 + th - C (3 + k) 3) = rAs k th Z := by
  unfold rAs
  rw [h.f hk (j := 4) (by omega), h.f hk (j := 3) (by omega), mx_eq]
  congr 1
  rw [Int32.sub_eq_add_neg, Int32.sub_eq_add_neg, Int32.add_assoc]
theorem Rl.meas0 {nl ns k : Nat} {C Z : Mem} {p n r : Int32} (h : Rl nl ns C Z) (h8 : nl ≤ 8) (h12 : ns ≤ 12) (hk : k < nl) : Rl nl ns (cMeas (3 + k) p n r C) (rMeas0 k p n r Z) := by
  have hk8 : k < 8 := by omega
  unfold rMeas0 rMeasA cMeas
  have h1 := h.mv (m := 3) (x := wor p n r - C (3 + k) 3) (y := wor p n r - Z 225 (3 + 22 * k + 3)) h8 h12 hk (by omega) (by rw [h.f hk (j := 3) (by omega)])
  have h2 := h1.mv (m := 7) (x := mx (nI 0) (C (3 + k) 4 + wor p n r - C (3 + k) 3) - cMv (3 + k) 3 (wor p n r - C (3 + k) 3) C (3 + k) 4) (y := rAs k (wor p n r) Z - rMv k 3 (wor p n r - Z 225 (3 + 22 * k + 3)) Z 225 (3 + 22 * k + 4)) h8 h12 hk (by omega) (by rw [h1.f hk (j := 4) (by omega), h.as hk])
  exact ((((h2.put0 h8 h12 hk8 rfl).put (j := 1) h8 h12 hk8 (by omega) rfl).put (j := 2) h8 h12 hk8 (by omega) rfl).put (j := 3) h8 h12 hk8 (by omega) rfl).put (j := 4) h8 h12 hk8 (by omega) (h.as hk)
theorem Rl.imp {nl ns k : Nat} {C Z : Mem} {a : Int32} (h : Rl nl ns C Z) (h8 : nl ≤ 8) (h12 : ns ≤ 12) (hk : k < nl) : Rl nl ns (cImp (3 + k) a C) (rImp k a Z) := by
  unfold cImp rImp
  exact (h.put (j := 4) h8 h12 (by omega) (by omega) (by rw [h.f hk (j := 4) (by omega)])).mv h8 h12 hk (by omega) rfl
theorem Rl.endp {nl ns k : Nat} {C Z : Mem} {t fee : Int32} (h : Rl nl ns C Z) (h8 : nl ≤ 8) (h12 : ns ≤ 12) (hk : k < nl) : Rl nl ns (cEnd (3 + k) t fee C) (rEnd k t fee Z) ∧ cEndL (3 + k) t C - cEndA (3 + k) t C - fee = rEndR k t fee Z := by
  have hk8 : k < 8 := by omega
  have h1 := h.put0 (k := k) (x := C (3 + k) 0 - prt (C (3 + k) 0) t) (y := Z 225 (3 + 22 * k) - prt (Z 225 (3 + 22 * k)) t) h8 h12 hk8 (by rw [h.f0 hk])
  have eA : cEndA (3 + k) t C = prt (Z 225 (3 + 22 * k + 4)) t := by unfold cEndA; rw [mset_ne (by omega), h.f hk (j := 4) (by omega)]
  have eL : cEndL (3 + k) t C = mset Z 225 (3 + 22 * k) (Z 225 (3 + 22 * k) - prt (Z 225 (3 + 22 * k)) t) 225 (3 + 22 * k + 3) - wor (mset Z 225 (3 + 22 * k) (Z 225 (3 + 22 * k) - prt (Z 225 (3 + 22 * k)) t) 225 (3 + 22 * k)) (mset Z 225 (3 + 22 * k) (Z 225 (3 + 22 * k) - prt (Z 225 (3 + 22 * k)) t) 225 (3 + 22 * k + 1)) (mset Z 225 (3 + 22 * k) (Z 225 (3 + 22 * k) - prt (Z 225 (3 + 22 * k)) t) 225 (3 + 22 * k + 2)) := by
    unfold cEndL
    rw [h1.f hk (j := 3) (by omega), h1.f0 hk, h1.f hk (j := 1) (by omega), h1.f hk (j := 2) (by omega)]
  constructor
  · unfold cEnd rEnd
    have h2 := h1.put (j := 3) (x := mset C (3 + k) 0 (C (3 + k) 0 - prt (C (3 + k) 0) t) (3 + k) 3 - cEndL (3 + k) t C) (y := wor (mset Z 225 (3 + 22 * k) (Z 225 (3 + 22 * k) - prt (Z 225 (3 + 22 * k)) t) 225 (3 + 22 * k)) (mset Z 225 (3 + 22 * k) (Z 225 (3 + 22 * k) - prt (Z 225 (3 + 22 * k)) t) 225 (3 + 22 * k + 1)) (mset Z 225 (3 + 22 * k) (Z 225 (3 + 22 * k) - prt (Z 225 (3 + 22 * k)) t) 225 (3 + 22 * k + 2))) h8 h12 hk8 (by omega) (by rw [eL, ← h1.f hk (j := 3) (by omega)]; exact sub_sub_self32)
    have h3 := h2.put (j := 4) (x := mset (mset C (3 + k) 0 (C (3 + k) 0 - prt (C (3 + k) 0) t)) (3 + k) 3 (mset C (3 + k) 0 (C (3 + k) 0 - prt (C (3 + k) 0) t) (3 + k) 3 - cEndL (3 + k) t C) (3 + k) 4 - cEndA (3 + k) t C) (y := mset (mset Z 225 (3 + 22 * k) (Z 225 (3 + 22 * k) - prt (Z 225 (3 + 22 * k)) t)) 225 (3 + 22 * k + 3) (wor (mset Z 225 (3 + 22 * k) (Z 225 (3 + 22 * k) - prt (Z 225 (3 + 22 * k)) t) 225 (3 + 22 * k)) (mset Z 225 (3 + 22 * k) (Z 225 (3 + 22 * k) - prt (Z 225 (3 + 22 * k)) t) 225 (3 + 22 * k + 1)) (mset Z 225 (3 + 22 * k) (Z 225 (3 + 22 * k) - prt (Z 225 (3 + 22 * k)) t) 225 (3 + 22 * k + 2))) 225 (3 + 22 * k + 4) - prt (Z 225 (3 + 22 * k + 4)) t) h8 h12 hk8 (by omega) (by rw [h2.f hk (j := 4) (by omega), eA])
    exact ((h3.mv h8 h12 hk (by omega) eL).mv h8 h12 hk (by omega) eA).mv h8 h12 hk (by omega) rfl
  · rw [eA, eL]; rfl
/-! what the rows keep -/
def SI (ns : Nat) (C : Mem) : Prop := ∀ q, q < ns → perR (C (19 + q) 3) ∧ C (19 + q) 5 = wor (C (19 + q) 2) (C (19 + q) 3) (C (19 + q) 4)
def LI (nl : Nat) (C : Mem) : Prop := ∀ k, k < nl → money (C (3 + k) 0) ∧ C (3 + k) 3 = wor (C (3 + k) 0) (C (3 + k) 1) (C (3 + k) 2)
def PSI (nl ns : Nat) (C : Mem) : Prop := ∀ q, q < ns → ∀ k, k < nl → C (19 + q) 0 = nI k → C (19 + q) 3 ≤ C (3 + k) 1
theorem wor_0 {p z n : Int32} (h : ¬ 0 < n) : wor p n z = nI 0 := by
  have h1 : n.toNatClampNeg = 0 := by
    have h2 : n.toNatClampNeg = n.toInt.toNat := rfl
    have h3 : n.toInt ≤ (0 : Int32).toInt := Int32.le_iff_toInt_le.mp (Int32.not_lt.mp h)
    have h4 : (0 : Int32).toInt = 0 := rfl
    omega
  unfold wor
  rw [h1]
  rfl
theorem i_add0 {x : Int32} : x + nI 0 = x := Int32.add_zero x
theorem Rl.sub5 {nl ns k : Nat} {C Z : Mem} (h : Rl nl ns C Z) (hS : SI ns C) : ∀ q, q ≤ ns → rSubs Z k (nI 5) q = sF (runU C k) (fun q => C (19 + q) 5) q
  | 0, _ => rfl
  | q + 1, hq => by
    rw [rSubs, sF, Rl.sub5 h hS q (by omega), h.s0 (by omega), h.s (j := 5) (by omega) (by omega), if_pos (rfl : nI 5 = nI 5)]
    unfold runU
    by_cases h1 : C (19 + q) 0 = nI k
    · rw [if_pos h1]
      by_cases h2 : 0 < C (19 + q) 3
      · rw [if_pos (decide_eq_true ⟨h1, h2⟩)]
      · rw [if_neg (fun z => h2 (of_decide_eq_true z).2), (hS q (by omega)).2, wor_0 h2, i_add0]
    · rw [if_neg h1, if_neg (fun z => h1 (of_decide_eq_true z).1)]
theorem Rl.sub7 {nl ns k : Nat} {C Z : Mem} (h : Rl nl ns C Z) : ∀ q, q ≤ ns → rSubs Z k (nI 7) q = sF (runU C k) (fun q => C (19 + q) 1) q
  | 0, _ => rfl
  | q + 1, hq => by
    rw [rSubs, sF, Rl.sub7 h q (by omega), h.s0 (by omega), h.s (j := 3) (by omega) (by omega), h.s (j := 1) (by omega) (by omega), if_neg (by decide : ¬ nI 7 = nI 5), if_pos (rfl : nI 7 = nI 7)]
    unfold runU
    by_cases h1 : C (19 + q) 0 = nI k
    · rw [if_pos h1]
      by_cases h2 : 0 < C (19 + q) 3
      · rw [if_pos (decide_eq_true ⟨h1, h2⟩), if_neg (fun z => z h2)]
      · rw [if_pos h2, if_neg (fun z => h2 (of_decide_eq_true z).2), i_add0]
    · rw [if_neg h1, if_neg (fun z => h1 (of_decide_eq_true z).1)]
theorem Rl.sub8 {nl ns k : Nat} {C Z : Mem} (h : Rl nl ns C Z) : ∀ q, q ≤ ns → rSubs Z k (nI 8) q = sF (runU C k) (fun _ => nI 1) q
  | 0, _ => rfl
  | q + 1, hq => by
    rw [rSubs, sF, Rl.sub8 h q (by omega), h.s0 (by omega), h.s (j := 3) (by omega) (by omega), if_neg (by decide : ¬ nI 8 = nI 5), if_neg (by decide : ¬ nI 8 = nI 7)]
    unfold runU
    by_cases h1 : C (19 + q) 0 = nI k
    · rw [if_pos h1]
      by_cases h2 : 0 < C (19 + q) 3
      · rw [if_pos (decide_eq_true ⟨h1, h2⟩), if_neg (fun z => z h2)]
      · rw [if_pos h2, if_neg (fun z => h2 (of_decide_eq_true z).2), i_add0]
    · rw [if_neg h1, if_neg (fun z => h1 (of_decide_eq_true z).1)]
theorem Rl.prop {nl ns k w : Nat} {C Z : Mem} (h : Rl nl ns C Z) (hS : SI ns C) (hk : k < nl) (hw : w < 9) : rLeaseOf Z k ns w = cProp C ns k w := by
  unfold rLeaseOf cProp cSub cRunOf
  rcases (show w < 5 ∨ w = 5 ∨ w = 6 ∨ w = 7 ∨ w = 8 by omega) with h1 | rfl | rfl | rfl | rfl
  · rw [if_pos h1, if_pos h1, h.f hk h1]
  · exact h.sub5 hS ns (Nat.le_refl _)
  · rw [if_neg (by omega), if_pos rfl, if_neg (by omega), if_neg (by omega), if_pos rfl, h.f (j := 3) hk (by omega), h.sub5 hS ns (Nat.le_refl _)]
  · exact h.sub7 ns (Nat.le_refl _)
  · exact h.sub8 ns (Nat.le_refl _)
theorem Rl.prof0 {nl ns k : Nat} {C Z : Mem} (h : Rl nl ns C Z) (hk : k < nl) : rProf0 Z k = cProf0 (3 + k) C := by
  unfold rProf0 cProf0 rMoved
  rw [h.m hk (j := 16) (by omega), h.m hk (j := 1) (by omega), h.m hk (j := 3) (by omega), h.m hk (j := 4) (by omega), h.m hk (j := 6) (by omega), h.m hk (j := 7) (by omega), h.m hk (j := 8) (by omega), h.m hk (j := 9) (by omega), h.m hk (j := 10) (by omega), h.m hk (j := 11) (by omega), h.m hk (j := 12) (by omega), h.m hk (j := 14) (by omega)]
  grind
theorem Rl.prof1 {nl ns k : Nat} {C Z : Mem} (h : Rl nl ns C Z) (hS : SI ns C) (hk : k < nl) : rProf1 Z k ns = cProf1 (3 + k) (cSub C ns k 5) C := by
  unfold rProf1 cProf1 rMoved cSub
  rw [h.sub5 hS ns (Nat.le_refl _), h.f hk (j := 4) (by omega), h.f hk (j := 3) (by omega), h.m hk (j := 16) (by omega), h.m hk (j := 13) (by omega), h.m hk (j := 2) (by omega), h.m hk (j := 15) (by omega)]
  grind
theorem Rl.running {nl ns : Nat} {C Z : Mem} (h : Rl nl ns C Z) : ∀ k, k ≤ nl → rRunning Z k = cRunL C k
  | 0, _ => rfl
  | k + 1, hk => by
    have ih := Rl.running h k (by omega)
    unfold cRunL at ih ⊢
    rw [rRunning, sF, ih, h.f (k := k) (j := 1) (by omega) (by omega)]
    by_cases h1 : 0 < C (3 + k) 1
    · rw [if_pos h1, if_pos (decide_eq_true h1)]
    · rw [if_neg h1, if_neg (mt of_decide_eq_true h1), i_add0]
theorem Rl.ofL {nl ns w : Nat} {C Z : Mem} (h : Rl nl ns C Z) (hS : SI ns C) (hw : w < 9) : ∀ k, k ≤ nl → rOfL Z ns w k = cSumL C k ns w
  | 0, _ => rfl
  | k + 1, hk => by
    have ih := Rl.ofL h hS hw k (by omega)
    unfold cSumL at ih ⊢
    rw [rOfL, sF, if_pos rfl, ih, h.prop hS (by omega) hw]
theorem Rl.profs {nl ns : Nat} {C Z : Mem} (h : Rl nl ns C Z) : ∀ k, k ≤ nl → rProfs Z k = cAllP C k
  | 0, _ => rfl
  | k + 1, hk => by
    have ih := Rl.profs h k (by omega)
    unfold cAllP at ih ⊢
    rw [rProfs, sF, if_pos rfl, ih, h.prof0 (by omega)]
theorem Rl.short {nl ns : Nat} {C Z : Mem} (h : Rl nl ns C Z) (h8 : nl ≤ 8) (hp : ∀ k, k < nl → perR (C (3 + k) 1)) : ∀ k, k ≤ nl → (cEF C k).1 = oI (rShort Z k) ∧ (cEF C k).2 = (match rShort Z k with | none => nI 61 | some b => C (3 + b) 1)
  | 0, _ => ⟨rfl, rfl⟩
  | k + 1, hk => by
    have ih := Rl.short h h8 hp k (by omega)
    have e1 : Z 225 (3 + 22 * k + 1) = C (3 + k) 1 := h.f (by omega) (by omega)
    have hc : (0 < Z 225 (3 + 22 * k + 1) ∧ ((rShort Z k).all fun b => decide (Z 225 (3 + 22 * k + 1) < Z 225 (3 + 22 * b + 1))) = true) ↔ (0 < C (3 + k) 1 ∧ C (3 + k) 1 < (cEF C k).2) := by
      rw [e1, ih.2]
      cases hr : rShort Z k with
      | none =>
        have h60 := (hp k (by omega)).2
        have h61 : C (3 + k) 1 < nI 61 := by
          have h2 : nI 60 < nI 61 := by decide
          rw [Int32.lt_iff_toInt_lt] at h2 ⊢
          rw [Int32.le_iff_toInt_le] at h60
          omega
        simp only [Option.all_none, and_true]
        exact ⟨fun z => ⟨z, h61⟩, fun z => z.1⟩
      | some b =>
        have hb := rShort_lt hr
        rw [Option.all_some, h.f (k := b) (j := 1) (by omega) (by omega)]
        simp only [decide_eq_true_eq]
    rw [cEF, rShort]
    by_cases h1 : 0 < C (3 + k) 1 ∧ C (3 + k) 1 < (cEF C k).2
    · rw [if_pos h1, if_pos (hc.mpr h1)]
      exact ⟨rfl, rfl⟩
    · rw [if_neg h1, if_neg (fun z => h1 (hc.mp z))]
      exact ih
theorem Rl.count {nl ns w : Nat} {C Z : Mem} (h : Rl nl ns C Z) (h8 : nl ≤ 8) (hS : SI ns C) (hp : ∀ k, k < nl → perR (C (3 + k) 1)) (hw : w < 11) (e0 : Z 225 0 = C 0 2) (e1 : Z 225 1 = C 0 3) (e2 : Z 225 2 = C 0 4) (e3 : Z 224 3 = C 217 2) : rCount Z nl ns w = cCount C nl ns w := by
  unfold rCount cCount
  rcases (show w = 0 ∨ w = 1 ∨ w = 2 ∨ w = 3 ∨ w = 4 ∨ w = 5 ∨ w = 6 ∨ w = 7 ∨ w = 8 ∨ w = 9 ∨ w = 10 by omega) with rfl | rfl | rfl | rfl | rfl | rfl | rfl | rfl | rfl | rfl | rfl
  · exact e0
  · exact e1
  · exact e2
  · exact h.running nl (Nat.le_refl _)
  · exact h.ofL hS (by omega) nl (Nat.le_refl _)
  · exact h.ofL hS (by omega) nl (Nat.le_refl _)
  · exact h.ofL hS (by omega) nl (Nat.le_refl _)
  · exact h.ofL hS (by omega) nl (Nat.le_refl _)
  · exact h.profs nl (Nat.le_refl _)
  · exact (h.short h8 hp nl (Nat.le_refl _)).1.symm
  · exact e3
theorem Rl.may {nl ns k : Nat} {C Z : Mem} {t n : Int32} (h : Rl nl ns C Z) (hk : k < nl) (hn : nI 1 ≤ n) (e1 : Z 225 1 = C 0 3) : rMay Z k ns t n ↔ (n ≤ C (3 + k) 1 ∧ C 0 3 < nI 12 ∧ cSub C ns k 1 + t ≤ nI 1000) := by
  have e2 : Z 225 (3 + 22 * k + 1) = C (3 + k) 1 := h.f hk (by omega)
  have e3 : rSubs Z k (nI 7) ns = cSub C ns k 1 := h.sub7 ns (Nat.le_refl _)
  unfold rMay rRuns
  rw [e1, e2, e3]
  constructor
  · rintro ⟨⟨_, a⟩, b, c⟩; exact ⟨a, c, b⟩
  · rintro ⟨a, c, b⟩
    refine ⟨⟨?_, a⟩, b, c⟩
    have h1 : (0 : Int32) < nI 1 := by decide
    rw [Int32.lt_iff_toInt_lt] at h1 ⊢
    rw [Int32.le_iff_toInt_le] at hn a
    omega
