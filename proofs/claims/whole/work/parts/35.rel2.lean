/-! CLASS AND MODEL: new rows -/
def RlP (nl ns m : Nat) (C Z : Mem) : Prop := Rl nl ns C Z ∧ (∀ j, j < m → Z 225 (3 + 22 * nl + j) = C (3 + nl) j) ∧ ∀ j, j < 17 → Z 225 (3 + 22 * nl + 5 + j) = C (3 + nl + 8) j
theorem RlP.put {nl ns m : Nat} {C Z : Mem} {x y : Int32} (h : RlP nl ns m C Z) (h8 : nl < 8) (h12 : ns ≤ 12) (hm : m < 5) (e : x = y) : RlP nl ns (m + 1) (mset C (3 + nl) m x) (mset Z 225 (3 + 22 * nl + m) y) := by
  refine ⟨h.1.put (by omega) h12 h8 hm e, fun j hj => ?_, fun j hj => ?_⟩
  · by_cases e1 : j = m
    · subst e1; rw [mset_at, mset_at, e]
    · rw [mset_ne (by omega), mset_ne (by omega)]; exact h.2.1 j (by omega)
  · rw [mset_ne (by omega), mset_ne (by omega)]; exact h.2.2 j hj
theorem RlP.done {nl ns : Nat} {C Z : Mem} (h : RlP nl ns 5 C Z) : Rl (nl + 1) ns C Z := by
  refine ⟨fun k hk => ?_, h.1.2⟩
  by_cases e : k = nl
  · subst e; exact ⟨h.2.1, h.2.2⟩
  · exact h.1.1 k (by omega)
theorem Rl.opn {nl ns : Nat} {C Z : Mem} {p n r c : Int32} (h : Rl nl ns C Z) (h8 : nl < 8) (h12 : ns ≤ 12) : Rl (nl + 1) ns (cAddL nl p n r c C) (rOpn nl p n r c Z) := by
  have h0 : RlP nl ns 0 (rcpy (mset C 0 2 (nI (nl + 1))) (3 + nl + 8) (fun _ => nI 0) 17) (rZero (mset Z 225 0 (Z 225 0 + nI 1)) nl 22) := by
    refine ⟨⟨fun k hk => ⟨fun j hj => ?_, fun j hj => ?_⟩, fun q hq j hj => ?_⟩, fun j hj => absurd hj (by omega), fun j hj => ?_⟩
    · rw [rZero_ne (by omega), mset_ne (by omega), rcpy_ne (by omega), mset_ne (by omega)]; exact h.f hk hj
    · rw [rZero_ne (by omega), mset_ne (by omega), rcpy_ne (by omega), mset_ne (by omega)]; exact h.m hk hj
    · rw [rZero_ne (by omega), mset_ne (by omega), rcpy_ne (by omega), mset_ne (by omega)]; exact h.s hq hj
    · have e1 : rZero (mset Z 225 0 (Z 225 0 + nI 1)) nl 22 225 (3 + 22 * nl + 5 + j) = nI 0 := by unfold rZero; rw [if_pos ⟨rfl, by omega, by omega⟩]
      have e2 : rcpy (mset C 0 2 (nI (nl + 1))) (3 + nl + 8) (fun _ => nI 0) 17 (3 + nl + 8) j = nI 0 := by unfold rcpy; rw [if_pos ⟨rfl, hj⟩]
      rw [e1, e2]
  unfold cAddL cBeg rOpn
  have h4 := ((((h0.put (x := p) h8 h12 (by omega) rfl).put (x := n) h8 h12 (by omega) rfl).put (x := r) h8 h12 (by omega) rfl).put (x := wor p n r) h8 h12 (by omega) rfl)
  have h5 := (h4.put h8 h12 (by omega) (congrArg (· + c) (h4.2.1 3 (by omega)).symm)).done
  have hlt : nl < nl + 1 := by omega
  have h6 := h5.mv (by omega) h12 hlt (show 0 < 17 by omega) (h5.f hlt (j := 3) (by omega)).symm
  exact (h6.mv (by omega) h12 hlt (show 5 < 17 by omega) (h6.f hlt (j := 4) (by omega)).symm).mv (by omega) h12 hlt (show 15 < 17 by omega) rfl
def RlQ (nl ns m : Nat) (C Z : Mem) : Prop := Rl nl ns C Z ∧ ∀ j, j < m → Z 225 (179 + 6 * ns + j) = C (19 + ns) j
theorem RlQ.put {nl ns m : Nat} {C Z : Mem} {x y : Int32} (h : RlQ nl ns m C Z) (h8 : nl ≤ 8) (h12 : ns < 12) (hm : m < 6) (e : x = y) : RlQ nl ns (m + 1) (mset C (19 + ns) m x) (mset Z 225 (179 + 6 * ns + m) y) := by
  refine ⟨h.1.sput h8 (by omega) h12 hm e, fun j hj => ?_⟩
  by_cases e1 : j = m
  · subst e1; rw [mset_at, mset_at, e]
  · rw [mset_ne (by omega), mset_ne (by omega)]; exact h.2 j (by omega)
theorem RlQ.done {nl ns : Nat} {C Z : Mem} (h : RlQ nl ns 6 C Z) : Rl nl (ns + 1) C Z := by
  refine ⟨h.1.1, fun q hq => ?_⟩
  by_cases e : q = ns
  · subst e; exact h.2
  · exact h.1.2 q (by omega)
theorem Rl.rows2 {nl ns : Nat} {C C' Z : Mem} (h : Rl nl ns C Z) (h8 : nl ≤ 8) (h12 : ns ≤ 12) (e1 : ∀ r, 2 < r → r < 31 → C' r = C r) : Rl nl ns C' Z :=
  ⟨fun k hk => ⟨fun j hj => by rw [e1 _ (by omega) (by omega)]; exact h.f hk hj, fun j hj => by rw [e1 _ (by omega) (by omega)]; exact h.m hk hj⟩, fun q hq j hj => by rw [e1 _ (by omega) (by omega)]; exact h.s hq hj⟩
theorem Rl.zrow {nl ns b : Nat} {C Z : Mem} {x : Int32} (h : Rl nl ns C Z) (hb : b < 3) : Rl nl ns C (mset Z 225 b x) :=
  ⟨fun k hk => ⟨fun j hj => by rw [mset_ne (by omega)]; exact h.f hk hj, fun j hj => by rw [mset_ne (by omega)]; exact h.m hk hj⟩, fun q hq j hj => by rw [mset_ne (by omega)]; exact h.s hq hj⟩
theorem Rl.subT {nl ns k q : Nat} {C Z : Mem} {t : Int32} (h : Rl nl ns C Z) (h8 : nl ≤ 8) (h12 : ns ≤ 12) (hk : k < nl) (hq : q < ns) : Rl nl ns (cSubT (3 + k) t (C (19 + q) 5) C) (mset (rMv k 11 (rMv k 9 (prt (Z 225 (3 + 22 * k + 4)) t) (mset Z 225 (3 + 22 * k + 4) (Z 225 (3 + 22 * k + 4) - prt (Z 225 (3 + 22 * k + 4)) t)) 225 (179 + 6 * q + 5)) (rMv k 9 (prt (Z 225 (3 + 22 * k + 4)) t) (mset Z 225 (3 + 22 * k + 4) (Z 225 (3 + 22 * k + 4) - prt (Z 225 (3 + 22 * k + 4)) t)))) 225 1 (rMv k 11 (rMv k 9 (prt (Z 225 (3 + 22 * k + 4)) t) (mset Z 225 (3 + 22 * k + 4) (Z 225 (3 + 22 * k + 4) - prt (Z 225 (3 + 22 * k + 4)) t)) 225 (179 + 6 * q + 5)) (rMv k 9 (prt (Z 225 (3 + 22 * k + 4)) t) (mset Z 225 (3 + 22 * k + 4) (Z 225 (3 + 22 * k + 4) - prt (Z 225 (3 + 22 * k + 4)) t))) 225 1 + nI 1)) := by
  have e4 : Z 225 (3 + 22 * k + 4) = C (3 + k) 4 := h.f hk (by omega)
  have e5 : rMv k 9 (prt (Z 225 (3 + 22 * k + 4)) t) (mset Z 225 (3 + 22 * k + 4) (Z 225 (3 + 22 * k + 4) - prt (Z 225 (3 + 22 * k + 4)) t)) 225 (179 + 6 * q + 5) = C (19 + q) 5 := by
    unfold rMv
    rw [mset_ne (by omega), mset_ne (by omega)]
    exact h.s hq (by omega)
  unfold cSubT
  exact (((h.put (j := 4) h8 h12 (by omega) (by omega) (by rw [e4])).mv h8 h12 hk (by omega) (by rw [e4])).mv h8 h12 hk (by omega) e5.symm).zrow (by omega)
theorem Rl.subl {nl ns k : Nat} {C Z : Mem} {t rc n : Int32} (h : Rl nl ns C Z) (h8 : nl ≤ 8) (h12 : ns < 12) (hk : k < nl) : Rl nl (ns + 1) (cAddS k ns t rc n C) (rSubl k ns t rc n Z) := by
  have h0 : RlQ nl ns 0 (mset C 0 3 (nI (ns + 1))) Z := ⟨h.rows2 h8 (by omega) (fun r hr _ => mset_o (by omega)), fun j hj => absurd hj (by omega)⟩
  have h4 := (((h0.put (x := nI k) h8 h12 (by omega) rfl).put (x := t) h8 h12 (by omega) rfl).put (x := rc) h8 h12 (by omega) rfl).put (x := n) h8 h12 (by omega) rfl
  have key : ∀ C4 Z4 : Mem, RlQ nl ns 4 C4 Z4 → C4 (19 + ns) 2 = rc → Rl nl (ns + 1) (mset (mset C4 (19 + ns) 4 (C4 (3 + k) 2)) (19 + ns) 5 (wor (mset C4 (19 + ns) 4 (C4 (3 + k) 2) (19 + ns) 2) n (mset C4 (19 + ns) 4 (C4 (3 + k) 2) (19 + ns) 4))) (mset (mset Z4 225 (179 + 6 * ns + 4) (Z4 225 (3 + 22 * k + 2))) 225 (179 + 6 * ns + 5) (wor rc n (mset Z4 225 (179 + 6 * ns + 4) (Z4 225 (3 + 22 * k + 2)) 225 (3 + 22 * k + 2)))) := by
    intro C4 Z4 g4 erc
    have g5 := g4.put (x := C4 (3 + k) 2) (y := Z4 225 (3 + 22 * k + 2)) h8 h12 (by omega) (g4.1.f hk (by omega)).symm
    refine (g5.put h8 h12 (by omega) ?_).done
    rw [mset_at, mset_ne (by omega), erc, mset_ne (by omega), g4.1.f hk (by omega)]
  unfold cAddS rSubl
  exact (key _ _ h4 (by rw [mset_ne (by omega), mset_at])).subT h8 (by omega) hk (by omega)
