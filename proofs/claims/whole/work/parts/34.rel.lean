/-! CLASS AND MODEL: the live rows of `now` and of z are the same -/
def Rl (nl ns : Nat) (C Z : Mem) : Prop := (∀ k, k < nl → (∀ j, j < 5 → Z 225 (3 + 22 * k + j) = C (3 + k) j) ∧ ∀ j, j < 17 → Z 225 (3 + 22 * k + 5 + j) = C (3 + k + 8) j) ∧ ∀ q, q < ns → ∀ j, j < 6 → Z 225 (179 + 6 * q + j) = C (19 + q) j
theorem Rl.f {nl ns k j : Nat} {C Z : Mem} (h : Rl nl ns C Z) (hk : k < nl) (hj : j < 5) : Z 225 (3 + 22 * k + j) = C (3 + k) j := (h.1 k hk).1 j hj
theorem Rl.f0 {nl ns k : Nat} {C Z : Mem} (h : Rl nl ns C Z) (hk : k < nl) : Z 225 (3 + 22 * k) = C (3 + k) 0 := (h.1 k hk).1 0 (by omega)
theorem Rl.m {nl ns k j : Nat} {C Z : Mem} (h : Rl nl ns C Z) (hk : k < nl) (hj : j < 17) : Z 225 (3 + 22 * k + 5 + j) = C (3 + k + 8) j := (h.1 k hk).2 j hj
theorem Rl.s {nl ns q j : Nat} {C Z : Mem} (h : Rl nl ns C Z) (hq : q < ns) (hj : j < 6) : Z 225 (179 + 6 * q + j) = C (19 + q) j := h.2 q hq j hj
theorem Rl.s0 {nl ns q : Nat} {C Z : Mem} (h : Rl nl ns C Z) (hq : q < ns) : Z 225 (179 + 6 * q) = C (19 + q) 0 := h.2 q hq 0 (by omega)
theorem Rl.rows {nl ns : Nat} {C C' Z Z' : Mem} (h : Rl nl ns C Z) (h8 : nl ≤ 8) (h12 : ns ≤ 12) (e1 : ∀ r, r < 31 → C' r = C r) (e2 : Z' 225 = Z 225) : Rl nl ns C' Z' :=
  ⟨fun k hk => ⟨fun j hj => by rw [e2, e1 _ (by omega)]; exact h.f hk hj, fun j hj => by rw [e2, e1 _ (by omega)]; exact h.m hk hj⟩, fun q hq j hj => by rw [e2, e1 _ (by omega)]; exact h.s hq hj⟩
theorem Rl.put {nl ns k j : Nat} {C Z : Mem} {x y : Int32} (h : Rl nl ns C Z) (h8 : nl ≤ 8) (h12 : ns ≤ 12) (hk : k < 8) (hj : j < 5) (e : x = y) : Rl nl ns (mset C (3 + k) j x) (mset Z 225 (3 + 22 * k + j) y) := by
  subst e
  refine ⟨fun k1 hk1 => ⟨fun j1 hj1 => ?_, fun j1 hj1 => ?_⟩, fun q hq j1 hj1 => ?_⟩
  · by_cases e1 : k1 = k ∧ j1 = j
    · obtain ⟨rfl, rfl⟩ := e1
      rw [mset_at, mset_at]
    · rw [mset_ne (by omega), mset_ne (by omega)]; exact h.f hk1 hj1
  · rw [mset_ne (by omega), mset_ne (by omega)]; exact h.m hk1 hj1
  · rw [mset_ne (by omega), mset_ne (by omega)]; exact h.s hq hj1
theorem Rl.put0 {nl ns k : Nat} {C Z : Mem} {x y : Int32} (h : Rl nl ns C Z) (h8 : nl ≤ 8) (h12 : ns ≤ 12) (hk : k < 8) (e : x = y) : Rl nl ns (mset C (3 + k) 0 x) (mset Z 225 (3 + 22 * k) y) := h.put (j := 0) h8 h12 hk (by omega) e
theorem Rl.sput {nl ns q j : Nat} {C Z : Mem} {x y : Int32} (h : Rl nl ns C Z) (h8 : nl ≤ 8) (h12 : ns ≤ 12) (hq : q < 12) (hj : j < 6) (e : x = y) : Rl nl ns (mset C (19 + q) j x) (mset Z 225 (179 + 6 * q + j) y) := by
  subst e
  refine ⟨fun k1 hk1 => ⟨fun j1 hj1 => ?_, fun j1 hj1 => ?_⟩, fun q1 hq1 j1 hj1 => ?_⟩
  · rw [mset_ne (by omega), mset_ne (by omega)]; exact h.f hk1 hj1
  · rw [mset_ne (by omega), mset_ne (by omega)]; exact h.m hk1 hj1
  · by_cases e1 : q1 = q ∧ j1 = j
    · obtain ⟨rfl, rfl⟩ := e1
      rw [mset_at, mset_at]
    · rw [mset_ne (by omega), mset_ne (by omega)]; exact h.s hq1 hj1
theorem Rl.sput0 {nl ns q : Nat} {C Z : Mem} {x y : Int32} (h : Rl nl ns C Z) (h8 : nl ≤ 8) (h12 : ns ≤ 12) (hq : q < 12) (e : x = y) : Rl nl ns (mset C (19 + q) 0 x) (mset Z 225 (179 + 6 * q) y) := h.sput (j := 0) h8 h12 hq (by omega) e
theorem Rl.mv {nl ns k m : Nat} {C Z : Mem} {x y : Int32} (h : Rl nl ns C Z) (h8 : nl ≤ 8) (h12 : ns ≤ 12) (hk : k < nl) (hm : m < 17) (e : x = y) : Rl nl ns (cMv (3 + k) m x C) (rMv k m y Z) := by
  subst e
  unfold cMv rMv
  rw [h.m hk hm]
  refine ⟨fun k1 hk1 => ⟨fun j1 hj1 => ?_, fun j1 hj1 => ?_⟩, fun q hq j1 hj1 => ?_⟩
  · rw [mset_ne (by omega), mset_ne (by omega)]; exact h.f hk1 hj1
  · by_cases e1 : k1 = k ∧ j1 = m
    · obtain ⟨rfl, rfl⟩ := e1
      rw [mset_at, mset_at]
    · rw [mset_ne (by omega), mset_ne (by omega)]; exact h.m hk1 hj1
  · rw [mset_ne (by omega), mset_ne (by omega)]; exact h.s hq hj1
theorem sub_sub_self32 {a b : Int32} : a - (a - b) = b := by
  rw [Int32.sub_eq_add_neg, Int32.sub_eq_add_neg a b, Int32.neg_add, Int32.sub_eq_add_neg, Int32.neg_neg, ← Int32.add_assoc, Int32.add_right_neg, Int32.zero_add]
theorem mx_eq {x : Int32} : (if x < 0 then nI 0 else x) = mx (nI 0) x := by
  unfold mx
  by_cases h : x < 0
  · rw [if_pos h, if_neg (show ¬ nI 0 < x from Int32.not_lt.mpr (Int32.le_of_lt h))]
  · rw [if_neg h]
    by_cases h2 : nI 0 < x
    · rw [if_pos h2]
    · rw [if_neg h2]
      exact Int32.le_antisymm (Int32.not_lt.mp h2) (Int32.not_lt.mp h)
theorem Rl.as {nl ns k : Nat} {C Z : Mem} {th : Int32} (h : Rl nl ns C Z) (hk : k < nl) : mx (nI 0) (C (3 + k) 4 + th - C (3 + k) 3) = rAs k th Z := by
  unfold rAs
  rw [h.f hk (j := 4) (by omega), h.f hk (j := 3) (by omega), mx_eq]
  congr 1
  rw [Int32.sub_eq_add_neg, Int32.sub_eq_add_neg, Int32.add_assoc]
theorem Rl.meas0 {nl ns k : Nat} {C Z : Mem} {p n r : Int32} (h : Rl nl ns C Z) (h8 : nl ≤ 8) (h12 : ns ≤ 12) (hk : k < nl) : Rl nl ns (cMeas (3 + k) p n r C) (rMeas0 k p n r Z) := by
  have hk8 : k < 8 := by omega
  unfold rMeas0 rMeasA cMeas
  have h1 := h.mv (m := 3) (x := wor p n r - C (3 + k) 3) (y := wor p n r - Z 225 (3 + 22 * k + 3)) h8 h12 hk (by omega) (by rw [h.f hk (j := 3) (by omega)])
  have h2 := h1.mv (m := 7) (x := mx (nI 0) (C (3 + k) 4 + wor p n r - C (3 + k) 3) - cMv (3 + k) 3 (wor p n r - C (3 + k) 3) C (3 + k) 4) (y := rAs k (wor p n r) Z - rMv k 3 (wor p n r - Z 225 (3 + 22 * k + 3)) Z 225 (3 + 22 * k + 4)) h8 h12 hk (by omega) (by rw [h1.f hk (j := 4) (by omega), h.as hk])
  exact ((((h2.put0 h8 h12 hk8 rfl).put (j := 1) h8 h12 hk8 (by omega) rfl).put (j := 2) h8 h12 hk8 (by omega) rfl).put (j := 3) h8 h12 hk8 (by omega) rfl).put (j := 4) h8 h12 hk8 (by omega) (h.as hk)
theorem Rl.imp {nl ns k : Nat} {C Z : Mem} {a : Int32} (h : Rl nl ns C Z) (h8 : nl ≤ 8) (h12 : ns ≤ 12) (hk : k < nl) : Rl nl ns (cImp (3 + k) a C) (rImp k a Z) := by
  unfold cImp rImp
  exact (h.put (j := 4) h8 h12 (by omega) (by omega) (by rw [h.f hk (j := 4) (by omega)])).mv h8 h12 hk (by omega) rfl
theorem Rl.endp {nl ns k : Nat} {C Z : Mem} {t fee : Int32} (h : Rl nl ns C Z) (h8 : nl ≤ 8) (h12 : ns ≤ 12) (hk : k < nl) : Rl nl ns (cEnd (3 + k) t fee C) (rEnd k t fee Z) ∧ cEndL (3 + k) t C - cEndA (3 + k) t C - fee = rEndR k t fee Z := by
  have hk8 : k < 8 := by omega
  have h1 := h.put0 (k := k) (x := C (3 + k) 0 - prt (C (3 + k) 0) t) (y := Z 225 (3 + 22 * k) - prt (Z 225 (3 + 22 * k)) t) h8 h12 hk8 (by rw [h.f0 hk])
  have eA : cEndA (3 + k) t C = prt (Z 225 (3 + 22 * k + 4)) t := by unfold cEndA; rw [mset_ne (by omega), h.f hk (j := 4) (by omega)]
  have eL : cEndL (3 + k) t C = mset Z 225 (3 + 22 * k) (Z 225 (3 + 22 * k) - prt (Z 225 (3 + 22 * k)) t) 225 (3 + 22 * k + 3) - wor (mset Z 225 (3 + 22 * k) (Z 225 (3 + 22 * k) - prt (Z 225 (3 + 22 * k)) t) 225 (3 + 22 * k)) (mset Z 225 (3 + 22 * k) (Z 225 (3 + 22 * k) - prt (Z 225 (3 + 22 * k)) t) 225 (3 + 22 * k + 1)) (mset Z 225 (3 + 22 * k) (Z 225 (3 + 22 * k) - prt (Z 225 (3 + 22 * k)) t) 225 (3 + 22 * k + 2)) := by
    unfold cEndL
    rw [h1.f hk (j := 3) (by omega), h1.f0 hk, h1.f hk (j := 1) (by omega), h1.f hk (j := 2) (by omega)]
  constructor
  · unfold cEnd rEnd
    have h2 := h1.put (j := 3) (x := mset C (3 + k) 0 (C (3 + k) 0 - prt (C (3 + k) 0) t) (3 + k) 3 - cEndL (3 + k) t C) (y := wor (mset Z 225 (3 + 22 * k) (Z 225 (3 + 22 * k) - prt (Z 225 (3 + 22 * k)) t) 225 (3 + 22 * k)) (mset Z 225 (3 + 22 * k) (Z 225 (3 + 22 * k) - prt (Z 225 (3 + 22 * k)) t) 225 (3 + 22 * k + 1)) (mset Z 225 (3 + 22 * k) (Z 225 (3 + 22 * k) - prt (Z 225 (3 + 22 * k)) t) 225 (3 + 22 * k + 2))) h8 h12 hk8 (by omega) (by rw [eL, ← h1.f hk (j := 3) (by omega)]; exact sub_sub_self32)
    have h3 := h2.put (j := 4) (x := mset (mset C (3 + k) 0 (C (3 + k) 0 - prt (C (3 + k) 0) t)) (3 + k) 3 (mset C (3 + k) 0 (C (3 + k) 0 - prt (C (3 + k) 0) t) (3 + k) 3 - cEndL (3 + k) t C) (3 + k) 4 - cEndA (3 + k) t C) (y := mset (mset Z 225 (3 + 22 * k) (Z 225 (3 + 22 * k) - prt (Z 225 (3 + 22 * k)) t)) 225 (3 + 22 * k + 3) (wor (mset Z 225 (3 + 22 * k) (Z 225 (3 + 22 * k) - prt (Z 225 (3 + 22 * k)) t) 225 (3 + 22 * k)) (mset Z 225 (3 + 22 * k) (Z 225 (3 + 22 * k) - prt (Z 225 (3 + 22 * k)) t) 225 (3 + 22 * k + 1)) (mset Z 225 (3 + 22 * k) (Z 225 (3 + 22 * k) - prt (Z 225 (3 + 22 * k)) t) 225 (3 + 22 * k + 2))) 225 (3 + 22 * k + 4) - prt (Z 225 (3 + 22 * k + 4)) t) h8 h12 hk8 (by omega) (by rw [h2.f hk (j := 4) (by omega), eA])
    exact ((h3.mv h8 h12 hk (by omega) eL).mv h8 h12 hk (by omega) eA).mv h8 h12 hk (by omega) rfl
  · rw [eA, eL]; rfl
