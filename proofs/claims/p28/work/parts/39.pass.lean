/-! PASSING: what stands after e k steps of lease k and s q steps of sublease q; C: the memory before (class) -/
def SI (ns : Nat) (C : Mem) : Prop := ∀ q, q < ns → perR (C (19 + q) 3) ∧ C (19 + q) 5 = wor (C (19 + q) 2) (C (19 + q) 3) (C (19 + q) 4)
def LI (nl : Nat) (C : Mem) : Prop := ∀ k, k < nl → money (C (3 + k) 0) ∧ C (3 + k) 3 = wor (C (3 + k) 0) (C (3 + k) 1) (C (3 + k) 2)
def PSI (nl ns : Nat) (C : Mem) : Prop := ∀ q, q < ns → ∀ k, k < nl → C (19 + q) 0 = nI k → C (19 + q) 3 ≤ C (3 + k) 1
theorem wor_0 {p z n : Int32} (h : ¬ 0 < n) : wor p n z = nI 0 := by
  have h1 : n.toNatClampNeg = 0 := by
    have h2 : n.toNatClampNeg = n.toInt.toNat := rfl
    have h3 : n.toInt ≤ (0 : Int32).toInt := Int32.le_iff_toInt_le.mp (Int32.not_lt.mp h)
    have h4 : (0 : Int32).toInt = 0 := rfl
    omega
  unfold wor
  rw [h1]
  rfl
theorem i_add0 {x : Int32} : x + nI 0 = x := Int32.add_zero x
def pN (C : Mem) (k : Nat) : Nat := (C (3 + k) 1).toNatClampNeg
def pQ (C : Mem) (q : Nat) : Nat := (C (19 + q) 3).toNatClampNeg
def pL (C : Mem) (k e f : Nat) : Int32 :=
  if f = 1 then nI (pN C k - e) else if f = 3 then wor (C (3 + k) 0) (nI (pN C k - e)) (C (3 + k) 2) else if f = 4 then aB (C (3 + k) 4) (pN C k) (min e (pN C k)) else C (3 + k) f
def pHad (C : Mem) (q s : Nat) : Int32 := C (19 + q) 2 * nI (min s (pQ C q))
def pRec (C : Mem) (q s : Nat) : Int32 := wor (C (19 + q) 2) (nI (pQ C q - s)) (C (19 + q) 4)
def pHd (C : Mem) (k q : Nat) : Bool := decide (C (19 + q) 0 = nI k)
def pM (C : Mem) (ns k e : Nat) (s : Nat → Nat) (m : Nat) : Int32 :=
  if m = 1 then C (3 + k + 8) 1 + (pL C k e 3 - C (3 + k) 3 + C (3 + k) 0 * nI (min e (pN C k)))
  else if m = 2 then C (3 + k + 8) 2 + C (3 + k) 0 * nI (min e (pN C k))
  else if m = 6 then C (3 + k + 8) 6 + (C (3 + k) 4 - pL C k e 4)
  else if m = 12 then C (3 + k + 8) 12 + sF (pHd C k) (fun q => pRec C q (s q) - C (19 + q) 5 + pHad C q (s q)) ns
  else if m = 13 then C (3 + k + 8) 13 + sF (pHd C k) (fun q => pHad C q (s q)) ns
  else C (3 + k + 8) m
def pSb (C : Mem) (q s f : Nat) : Int32 := if f = 3 then nI (pQ C q - s) else if f = 5 then pRec C q s else C (19 + q) f
def PF (C : Mem) (nl ns : Nat) (e s : Nat → Nat) (lf mf sf : Nat → Nat → Int32) : Prop :=
  (∀ k, k < nl → (∀ f, f < 5 → lf k f = pL C k (e k) f) ∧ ∀ m, m < 17 → mf k m = pM C ns k (e k) s m) ∧ ∀ q, q < ns → ∀ f, f < 6 → sf q f = pSb C q (s q) f
abbrev PC (C : Mem) (nl ns : Nat) (e s : Nat → Nat) (D : Mem) : Prop := PF C nl ns e s (fun k f => D (3 + k) f) (fun k m => D (3 + k + 8) m) (fun q f => D (19 + q) f)
def up1 (e : Nat → Nat) (k : Nat) : Nat → Nat := fun j => if j = k then e j + 1 else e j
theorem sF_congr {c : Nat → Bool} {f g : Nat → Int32} : ∀ n, (∀ q, q < n → c q = true → f q = g q) → sF c f n = sF c g n
  | 0, _ => rfl
  | n + 1, h => by
    rw [sF, sF, sF_congr n (fun q hq => h q (by omega))]
    by_cases hc : c n = true
    · rw [if_pos hc, if_pos hc, h n (by omega) hc]
    · rw [if_neg hc, if_neg hc]
/-- one summand more -/
theorem sF_up {c : Nat → Bool} {f g : Nat → Int32} {q : Nat} {x : Int32} (hc : c q = true) (hq : g q = f q + x) : ∀ n, q < n → (∀ j, j < n → j ≠ q → g j = f j) → sF c g n = sF c f n + x
  | 0, h, _ => absurd h (by omega)
  | n + 1, h, ho => by
    rw [sF, sF]
    by_cases e : n = q
    · subst e
      rw [if_pos hc, if_pos hc, hq, sF_congr (g := f) n (fun j hj _ => ho j (by omega) (by omega)), Int32.add_assoc]
    · rw [sF_up hc hq n (by omega) (fun j hj hne => ho j (by omega) hne), ho n (by omega) e]
      by_cases hn : c n = true
      · rw [if_pos hn, if_pos hn]; grind
      · rw [if_neg hn, if_neg hn]
/-- a lease whose periods are over: a step more is no step -/
theorem PF.over {C : Mem} {nl ns k : Nat} {e s : Nat → Nat} {lf mf sf : Nat → Nat → Int32} (h : PF C nl ns e s lf mf sf) (hk : pN C k ≤ e k) : PF C nl ns (up1 e k) s lf mf sf := by
  have e1 : pN C k - (e k + 1) = pN C k - e k := by omega
  have e2 : min (e k + 1) (pN C k) = min (e k) (pN C k) := by omega
  have e3 : ∀ f, pL C k (e k + 1) f = pL C k (e k) f := fun f => by unfold pL; rw [e1, e2]
  refine ⟨fun j hj => ?_, h.2⟩
  unfold up1
  by_cases ej : j = k
  · subst ej
    rw [if_pos rfl]
    refine ⟨fun f hf => by rw [e3]; exact (h.1 j hj).1 f hf, fun m hm => ?_⟩
    rw [(h.1 j hj).2 m hm]
    unfold pM
    rw [e2, e3, e3]
  · rw [if_neg ej]; exact h.1 j hj
theorem pM_up {C : Mem} {ns k e m : Nat} {s s' : Nat → Nat} (h : ∀ q, q < ns → pHd C k q = true → pRec C q (s' q) = pRec C q (s q) ∧ pHad C q (s' q) = pHad C q (s q)) : pM C ns k e s' m = pM C ns k e s m := by
  unfold pM
  rw [sF_congr (f := fun q => pRec C q (s' q) - C (19 + q) 5 + pHad C q (s' q)) (g := fun q => pRec C q (s q) - C (19 + q) 5 + pHad C q (s q)) ns (fun q hq hc => by show pRec C q (s' q) - C (19 + q) 5 + pHad C q (s' q) = _; rw [(h q hq hc).1, (h q hq hc).2]), sF_congr (f := fun q => pHad C q (s' q)) (g := fun q => pHad C q (s q)) ns (fun q hq hc => (h q hq hc).2)]
theorem PF.overS {C : Mem} {nl ns q : Nat} {e s : Nat → Nat} {lf mf sf : Nat → Nat → Int32} (h : PF C nl ns e s lf mf sf) (hq : pQ C q ≤ s q) : PF C nl ns e (up1 s q) lf mf sf := by
  have e1 : pQ C q - (s q + 1) = pQ C q - s q := by omega
  have e2 : min (s q + 1) (pQ C q) = min (s q) (pQ C q) := by omega
  have r1 : ∀ j, pRec C j (up1 s q j) = pRec C j (s j) ∧ pHad C j (up1 s q j) = pHad C j (s j) := fun j => by
    unfold up1
    by_cases ej : j = q
    · subst ej; rw [if_pos rfl]; unfold pRec pHad; rw [e1, e2]; exact ⟨rfl, rfl⟩
    · rw [if_neg ej]; exact ⟨rfl, rfl⟩
  refine ⟨fun k hk => ⟨(h.1 k hk).1, fun m hm => by rw [pM_up (fun j _ _ => r1 j)]; exact (h.1 k hk).2 m hm⟩, fun j hj f hf => ?_⟩
  rw [h.2 j hj f hf]
  unfold pSb
  rw [(r1 j).1]
  unfold up1
  by_cases ej : j = q
  · subst ej; rw [if_pos rfl, e1]
  · rw [if_neg ej]
theorem pHd_ne {C : Mem} {k j q : Nat} (hk : k < 8) (hj : j < 8) (h : C (19 + q) 0 = nI k) (hne : j ≠ k) : ¬ pHd C j q = true := fun z => by
  have z2 := of_decide_eq_true z
  rw [h] at z2
  exact hne ((nI_eq (by omega) (by omega)).mp z2).symm
theorem up1_at {s : Nat → Nat} {q : Nat} : up1 s q q = s q + 1 := if_pos rfl
theorem up1_ne {s : Nat → Nat} {q j : Nat} (h : j ≠ q) : up1 s q j = s j := if_neg h
/-- a step of sublease q: what the numbers of its lease become -/
theorem pM_sub {C : Mem} {ns k q e : Nat} {s : Nat → Nat} (hq : q < ns) (hh : C (19 + q) 0 = nI k) : pM C ns k e (up1 s q) 12 = pM C ns k e s 12 + ((pRec C q (s q + 1) - pRec C q (s q)) + (pHad C q (s q + 1) - pHad C q (s q))) ∧ pM C ns k e (up1 s q) 13 = pM C ns k e s 13 + (pHad C q (s q + 1) - pHad C q (s q)) ∧ ∀ m, m ≠ 12 → m ≠ 13 → pM C ns k e (up1 s q) m = pM C ns k e s m := by
  have hc : pHd C k q = true := decide_eq_true hh
  have a1 := sF_up (c := pHd C k) (f := fun q => pRec C q (s q) - C (19 + q) 5 + pHad C q (s q)) (g := fun j => pRec C j (up1 s q j) - C (19 + j) 5 + pHad C j (up1 s q j)) (q := q) (x := (pRec C q (s q + 1) - pRec C q (s q)) + (pHad C q (s q + 1) - pHad C q (s q))) hc (by show pRec C q (up1 s q q) - C (19 + q) 5 + pHad C q (up1 s q q) = pRec C q (s q) - C (19 + q) 5 + pHad C q (s q) + _; rw [up1_at]; grind) ns hq (fun j hj hne => by show pRec C j (up1 s q j) - C (19 + j) 5 + pHad C j (up1 s q j) = pRec C j (s j) - C (19 + j) 5 + pHad C j (s j); rw [up1_ne hne])
  have a2 := sF_up (c := pHd C k) (f := fun q => pHad C q (s q)) (g := fun j => pHad C j (up1 s q j)) (q := q) (x := pHad C q (s q + 1) - pHad C q (s q)) hc (by show pHad C q (up1 s q q) = pHad C q (s q) + _; rw [up1_at]; grind) ns hq (fun j hj hne => by show pHad C j (up1 s q j) = pHad C j (s j); rw [up1_ne hne])
  refine ⟨?_, ?_, fun m h1 h2 => ?_⟩
  · show C (3 + k + 8) 12 + sF (pHd C k) (fun j => pRec C j (up1 s q j) - C (19 + j) 5 + pHad C j (up1 s q j)) ns = C (3 + k + 8) 12 + sF (pHd C k) (fun q => pRec C q (s q) - C (19 + q) 5 + pHad C q (s q)) ns + _
    rw [a1, Int32.add_assoc]
  · show C (3 + k + 8) 13 + sF (pHd C k) (fun j => pHad C j (up1 s q j)) ns = C (3 + k + 8) 13 + sF (pHd C k) (fun q => pHad C q (s q)) ns + _
    rw [a2, Int32.add_assoc]
  · unfold pM
    rw [if_neg h1, if_neg h1, if_neg h2, if_neg h2]
theorem pM_oth {C : Mem} {ns j k q e m : Nat} {s : Nat → Nat} (hk : k < 8) (hj : j < 8) (hh : C (19 + q) 0 = nI k) (hne : j ≠ k) : pM C ns j e (up1 s q) m = pM C ns j e s m :=
  pM_up (fun i hi hc => by
    by_cases e1 : i = q
    · subst e1; exact absurd hc (pHd_ne hk hj hh hne)
    · rw [up1_ne e1]; exact ⟨rfl, rfl⟩)
def upS (C : Mem) (k i : Nat) (s : Nat → Nat) : Nat → Nat := fun q => if q < i ∧ C (19 + q) 0 = nI k then s q + 1 else s q
theorem PF.congr {C : Mem} {nl ns : Nat} {e e' s s' : Nat → Nat} {lf mf sf : Nat → Nat → Int32} (h : PF C nl ns e s lf mf sf) (he : ∀ k, k < nl → e' k = e k) (hs : ∀ q, q < ns → s' q = s q) : PF C nl ns e' s' lf mf sf :=
  ⟨fun k hk => ⟨fun f hf => by rw [he k hk]; exact (h.1 k hk).1 f hf, fun m hm => by
    rw [he k hk, pM_up (s := s) (s' := s') (fun q hq _ => by rw [hs q hq]; exact ⟨rfl, rfl⟩)]
    exact (h.1 k hk).2 m hm⟩, fun q hq f hf => by rw [hs q hq]; exact h.2 q hq f hf⟩
theorem upS_0 {C : Mem} {k : Nat} {s : Nat → Nat} : upS C k 0 s = s := by funext q; unfold upS; rw [if_neg (by omega)]
theorem upS_t {C : Mem} {k i : Nat} {s : Nat → Nat} (h : C (19 + i) 0 = nI k) : up1 (upS C k i s) i = upS C k (i + 1) s := by
  funext q
  unfold up1 upS
  by_cases e : q = i
  · subst e; rw [if_pos rfl, if_neg (by omega), if_pos ⟨by omega, h⟩]
  · rw [if_neg e]
    by_cases h2 : q < i ∧ C (19 + q) 0 = nI k
    · rw [if_pos h2, if_pos ⟨by omega, h2.2⟩]
    · rw [if_neg h2, if_neg (fun z => h2 ⟨by omega, z.2⟩)]
theorem upS_f {C : Mem} {k i : Nat} {s : Nat → Nat} (h : ¬ C (19 + i) 0 = nI k) : upS C k (i + 1) s = upS C k i s := by
  funext q
  unfold upS
  by_cases h2 : q < i ∧ C (19 + q) 0 = nI k
  · rw [if_pos h2, if_pos ⟨by omega, h2.2⟩]
  · rw [if_neg h2, if_neg (fun z => h2 ⟨by rcases Nat.lt_or_ge q i with a | a; (· exact a); (· exact absurd z.2 (by rw [show q = i by omega]; exact h)), z.2⟩)]
theorem upS_i {C : Mem} {k i : Nat} {s : Nat → Nat} : upS C k i s i = s i := by unfold upS; rw [if_neg (by omega)]
/-- the lease above sublease q -/
def pH (C : Mem) (q : Nat) : Nat := (C (19 + q) 0).toNatClampNeg
def eK (k j : Nat) : Nat → Nat := fun i => if i < k then j + 1 else j
def sK (C : Mem) (k j : Nat) : Nat → Nat := fun q => if pH C q < k then j + 1 else j
theorem pH_of {C : Mem} {nl ns q : Nat} (hh : hdR nl ns C) (h8 : nl ≤ 8) (hq : q < ns) : pH C q < nl ∧ C (19 + q) 0 = nI (pH C q) := by
  obtain ⟨k, hk, e⟩ := hh q hq
  have e2 : pH C q = k := by unfold pH; rw [e]; exact nI_clN (by omega)
  rw [e2]
  exact ⟨hk, e⟩
/-! PASSING: the class's side -/
def st1 (e : Nat → Nat) (k d : Nat) : Nat → Nat := fun j => if j = k then d else e j
theorem mx_N {N d : Nat} (hN : N < 2 ^ 30) (hd : d < 2 ^ 30) : mx (nI 0) (nI N - nI d) = nI (N - d) := by
  unfold mx
  by_cases h : d < N
  · rw [pk_sub (by omega), if_pos (nI_lt (by omega) (by omega))]
  · have h1 : ¬ nI 0 < nI N - nI d := fun q => by
      rw [Int32.lt_iff_toInt_lt, nI_toInt (by omega), Int32.toInt_sub, nI_toInt (by omega), nI_toInt (by omega)] at q
      have h3 : (((N : Int) - (d : Int)).bmod (2 ^ 32)) = (N : Int) - d := by apply Int.bmod_eq_of_le <;> omega
      rw [h3] at q
      omega
    rw [if_neg h1, show N - d = 0 by omega]
theorem wor_sub {p r : Int32} {N d : Nat} (hN : N < 2 ^ 30) (hd : d < 2 ^ 30) : wor p (nI N - nI d) r = wor p (nI (N - d)) r := by
  by_cases h : d ≤ N
  · rw [pk_sub h]
  · rw [wor_0, wor_0]
    · rw [show N - d = 0 by omega]; decide
    · intro q
      rw [Int32.lt_iff_toInt_lt, Int32.toInt_sub, nI_toInt (by omega), nI_toInt (by omega)] at q
      have h3 : (((N : Int) - (d : Int)).bmod (2 ^ 32)) = (N : Int) - d := by apply Int.bmod_eq_of_le <;> omega
      rw [h3] at q
      have h4 : (0 : Int32).toInt = 0 := rfl
      omega
theorem mn_N {N d : Nat} (hN : N < 2 ^ 30) (hd : d < 2 ^ 30) : mn (nI d) (nI N) = nI (min d N) := by
  unfold mn
  by_cases h : N < d
  · rw [if_pos (nI_lt h (by omega)), show min d N = N by omega]
  · rw [if_neg (nI_nlt (by omega) (by omega)), show min d N = d by omega]
theorem cPass_f {k n d : Nat} {V : Mem} : cPass k n d V k 0 = V k 0 ∧ cPass k n d V k 1 = mx (nI 0) (V k 1 - nI d) ∧ cPass k n d V k 2 = V k 2 ∧ cPass k n d V k 3 = wor (V k 0) (V k 1 - nI d) (V k 2) ∧ cPass k n d V k 4 = aB (V k 4) n (min d n) := by
  unfold cPass cMv
  refine ⟨?_, ?_, ?_, ?_, ?_⟩ <;> simp (disch := omega) only [mset_at, mset_ne]
theorem cPass_m {k n d : Nat} {V : Mem} : cPass k n d V (k + 8) 1 = V (k + 8) 1 + (wor (V k 0) (V k 1 - nI d) (V k 2) - V k 3 + V k 0 * mn (nI d) (V k 1)) ∧ cPass k n d V (k + 8) 2 = V (k + 8) 2 + V k 0 * mn (nI d) (V k 1) ∧ cPass k n d V (k + 8) 6 = V (k + 8) 6 + (V k 4 - aB (V k 4) n (min d n)) ∧ ∀ m, m ≠ 1 → m ≠ 2 → m ≠ 6 → cPass k n d V (k + 8) m = V (k + 8) m := by
  unfold cPass cMv
  refine ⟨?_, ?_, ?_, fun m h1 h2 h6 => ?_⟩ <;> simp (disch := omega) only [mset_at, mset_ne]
theorem PC.lease {C D : Mem} {nl ns k d : Nat} {e s : Nat → Nat} (h : PC C nl ns e s D) (h8 : nl ≤ 8) (hk : k < nl) (hN : pN C k ≤ 60) (hd : d ≤ 2000) (he : e k = 0) : PC C nl ns (st1 e k d) s (cPass (3 + k) (pN C k) d D) := by
  have g0 : D (3 + k) 0 = C (3 + k) 0 := (h.1 k hk).1 0 (by omega)
  have g1 : D (3 + k) 1 = nI (pN C k) := ((h.1 k hk).1 1 (by omega)).trans (by rw [he]; rfl)
  have g2 : D (3 + k) 2 = C (3 + k) 2 := (h.1 k hk).1 2 (by omega)
  have g3 : D (3 + k) 3 = pL C k 0 3 := ((h.1 k hk).1 3 (by omega)).trans (by rw [he])
  have g4 : D (3 + k) 4 = C (3 + k) 4 := ((h.1 k hk).1 4 (by omega)).trans (by rw [he]; show aB (C (3 + k) 4) (pN C k) (min 0 (pN C k)) = _; rw [Nat.zero_min]; rfl)
  have m1 : D (3 + k + 8) 1 = pM C ns k 0 s 1 := ((h.1 k hk).2 1 (by omega)).trans (by rw [he])
  have m2 : D (3 + k + 8) 2 = pM C ns k 0 s 2 := ((h.1 k hk).2 2 (by omega)).trans (by rw [he])
  have m6 : D (3 + k + 8) 6 = pM C ns k 0 s 6 := ((h.1 k hk).2 6 (by omega)).trans (by rw [he])
  have e3 : wor (C (3 + k) 0) (nI (pN C k - d)) (C (3 + k) 2) = pL C k d 3 := rfl
  have e4 : aB (C (3 + k) 4) (pN C k) (min d (pN C k)) = pL C k d 4 := rfl
  have z0 : C (3 + k) 0 * nI (min 0 (pN C k)) = 0 := by rw [Nat.zero_min]; exact Int32.mul_zero
  have z4 : pL C k 0 4 = C (3 + k) 4 := by show aB (C (3 + k) 4) (pN C k) (min 0 (pN C k)) = _; rw [Nat.zero_min]; rfl
  refine ⟨fun j hj => ?_, fun q hq f hf => by show cPass (3 + k) _ d D (19 + q) f = _; rw [cPass_o (by omega) (by omega)]; exact h.2 q hq f hf⟩
  unfold st1
  by_cases ej : j = k
  · subst ej
    rw [if_pos rfl]
    refine ⟨fun f hf => ?_, fun m hm => ?_⟩
    · rcases (show f = 0 ∨ f = 1 ∨ f = 2 ∨ f = 3 ∨ f = 4 by omega) with rfl | rfl | rfl | rfl | rfl
      · exact cPass_f.1.trans g0
      · exact cPass_f.2.1.trans (by rw [g1, mx_N (by omega) (by omega)]; rfl)
      · exact cPass_f.2.2.1.trans g2
      · exact cPass_f.2.2.2.1.trans (by rw [g0, g1, g2, wor_sub (by omega) (by omega)]; rfl)
      · exact cPass_f.2.2.2.2.trans (by rw [g4]; rfl)
    · by_cases hm1 : m = 1
      · subst hm1
        refine cPass_m.1.trans ?_
        rw [m1, g0, g1, g2, g3, wor_sub (by omega) (by omega), mn_N (by omega) (by omega), e3]
        show C (3 + j + 8) 1 + (pL C j 0 3 - C (3 + j) 3 + C (3 + j) 0 * nI (min 0 (pN C j))) + _ = C (3 + j + 8) 1 + (pL C j d 3 - C (3 + j) 3 + C (3 + j) 0 * nI (min d (pN C j)))
        rw [z0]
        grind
      · by_cases hm2 : m = 2
        · subst hm2
          refine cPass_m.2.1.trans ?_
          rw [m2, g0, g1, mn_N (by omega) (by omega)]
          show C (3 + j + 8) 2 + C (3 + j) 0 * nI (min 0 (pN C j)) + _ = C (3 + j + 8) 2 + C (3 + j) 0 * nI (min d (pN C j))
          rw [z0]
          grind
        · by_cases hm6 : m = 6
          · subst hm6
            refine cPass_m.2.2.1.trans ?_
            rw [m6, g4, e4]
            show C (3 + j + 8) 6 + (C (3 + j) 4 - pL C j 0 4) + _ = C (3 + j + 8) 6 + (C (3 + j) 4 - pL C j d 4)
            rw [z4]
            grind
          · refine (cPass_m.2.2.2 m hm1 hm2 hm6).trans ?_
            refine ((h.1 j hj).2 m hm).trans ?_
            unfold pM
            rw [if_neg hm1, if_neg hm2, if_neg hm6, if_neg hm1, if_neg hm2, if_neg hm6]
  · rw [if_neg ej]
    refine ⟨fun f hf => ?_, fun m hm => ?_⟩
    · show cPass (3 + k) _ d D (3 + j) f = _
      rw [cPass_o (by omega) (by omega)]; exact (h.1 j hj).1 f hf
    · show cPass (3 + k) _ d D (3 + j + 8) m = _
      rw [cPass_o (by omega) (by omega)]; exact (h.1 j hj).2 m hm
theorem PC.leases {C D : Mem} {nl ns d : Nat} {s : Nat → Nat} (h : PC C nl ns (fun _ => 0) s D) (h8 : nl ≤ 8) (hN : ∀ k, k < nl → pN C k ≤ 60) (hd : d ≤ 2000) : ∀ i, i ≤ nl → PC C nl ns (fun k => if k < i then d else 0) s (cPLs d D i)
  | 0, _ => PF.congr h (fun k _ => by rw [if_neg (by omega)]) (fun _ _ => rfl)
  | i + 1, hi => by
    have ih := PC.leases h h8 hN hd i (by omega)
    have g1 : cPLs d D i (3 + i) 1 = nI (pN C i) := ((ih.1 i (by omega)).1 1 (by omega)).trans (by show pL C i (if i < i then d else 0) 1 = _; rw [if_neg (by omega)]; rfl)
    show PC C nl ns _ s (cPass (3 + i) (cPLs d D i (3 + i) 1).toNatClampNeg d (cPLs d D i))
    rw [g1, nI_clN (by have := hN i (by omega); omega)]
    refine PF.congr (ih.lease (d := d) h8 (by omega) (hN i (by omega)) hd (by show (if i < i then d else 0) = 0; rw [if_neg (by omega)])) (fun k _ => ?_) (fun _ _ => rfl)
    unfold st1
    by_cases e : k = i
    · subst e; rw [if_pos (by omega), if_pos rfl]
    · rw [if_neg e]
      by_cases e2 : k < i
      · rw [if_pos (show k < i + 1 by omega)]; exact (if_pos e2).symm
      · rw [if_neg (show ¬ k < i + 1 by omega)]; exact (if_neg e2).symm
theorem sPass_at {k a : Nat} {d : Int32} {V : Mem} (h : k ≠ a + 8) : sPass k a d V k 3 = mx (nI 0) (V k 3 - d) ∧ sPass k a d V k 5 = wor (V k 2) (V k 3 - d) (V k 4) ∧ sPass k a d V (a + 8) 12 = V (a + 8) 12 + (wor (V k 2) (V k 3 - d) (V k 4) - V k 5 + V k 2 * mn d (V k 3)) ∧ sPass k a d V (a + 8) 13 = V (a + 8) 13 + V k 2 * mn d (V k 3) ∧ (∀ f, f ≠ 3 → f ≠ 5 → sPass k a d V k f = V k f) ∧ ∀ m, m ≠ 12 → m ≠ 13 → sPass k a d V (a + 8) m = V (a + 8) m := by
  unfold sPass cMv
  refine ⟨?_, ?_, ?_, ?_, fun f h3 h5 => ?_, fun m h1 h2 => ?_⟩ <;> simp (disch := omega) only [mset_at, mset_ne]
theorem st1_at {s : Nat → Nat} {q d : Nat} : st1 s q d q = d := if_pos rfl
theorem st1_ne {s : Nat → Nat} {q j d : Nat} (h : j ≠ q) : st1 s q d j = s j := if_neg h
theorem pM_st {C : Mem} {ns k q e d : Nat} {s : Nat → Nat} (hq : q < ns) (hh : C (19 + q) 0 = nI k) : pM C ns k e (st1 s q d) 12 = pM C ns k e s 12 + ((pRec C q d - pRec C q (s q)) + (pHad C q d - pHad C q (s q))) ∧ pM C ns k e (st1 s q d) 13 = pM C ns k e s 13 + (pHad C q d - pHad C q (s q)) ∧ ∀ m, m ≠ 12 → m ≠ 13 → pM C ns k e (st1 s q d) m = pM C ns k e s m := by
  have hc : pHd C k q = true := decide_eq_true hh
  have a1 := sF_up (c := pHd C k) (f := fun q => pRec C q (s q) - C (19 + q) 5 + pHad C q (s q)) (g := fun j => pRec C j (st1 s q d j) - C (19 + j) 5 + pHad C j (st1 s q d j)) (q := q) (x := (pRec C q d - pRec C q (s q)) + (pHad C q d - pHad C q (s q))) hc (by show pRec C q (st1 s q d q) - C (19 + q) 5 + pHad C q (st1 s q d q) = pRec C q (s q) - C (19 + q) 5 + pHad C q (s q) + _; rw [st1_at]; grind) ns hq (fun j hj hne => by show pRec C j (st1 s q d j) - C (19 + j) 5 + pHad C j (st1 s q d j) = pRec C j (s j) - C (19 + j) 5 + pHad C j (s j); rw [st1_ne hne])
  have a2 := sF_up (c := pHd C k) (f := fun q => pHad C q (s q)) (g := fun j => pHad C j (st1 s q d j)) (q := q) (x := pHad C q d - pHad C q (s q)) hc (by show pHad C q (st1 s q d q) = pHad C q (s q) + _; rw [st1_at]; grind) ns hq (fun j hj hne => by show pHad C j (st1 s q d j) = pHad C j (s j); rw [st1_ne hne])
  refine ⟨?_, ?_, fun m h1 h2 => ?_⟩
  · show C (3 + k + 8) 12 + sF (pHd C k) (fun j => pRec C j (st1 s q d j) - C (19 + j) 5 + pHad C j (st1 s q d j)) ns = C (3 + k + 8) 12 + sF (pHd C k) (fun q => pRec C q (s q) - C (19 + q) 5 + pHad C q (s q)) ns + _
    rw [a1, Int32.add_assoc]
  · show C (3 + k + 8) 13 + sF (pHd C k) (fun j => pHad C j (st1 s q d j)) ns = C (3 + k + 8) 13 + sF (pHd C k) (fun q => pHad C q (s q)) ns + _
    rw [a2, Int32.add_assoc]
  · unfold pM
    rw [if_neg h1, if_neg h1, if_neg h2, if_neg h2]
theorem pM_sto {C : Mem} {ns j k q e m d : Nat} {s : Nat → Nat} (hk : k < 8) (hj : j < 8) (hh : C (19 + q) 0 = nI k) (hne : j ≠ k) : pM C ns j e (st1 s q d) m = pM C ns j e s m :=
  pM_up (fun i hi hc => by
    by_cases e1 : i = q
    · subst e1; exact absurd hc (pHd_ne hk hj hh hne)
    · rw [st1_ne e1]; exact ⟨rfl, rfl⟩)
theorem PC.subl {C D : Mem} {nl ns k q d : Nat} {e s : Nat → Nat} (h : PC C nl ns e s D) (h8 : nl ≤ 8) (hk : k < nl) (hq : q < ns) (hh : C (19 + q) 0 = nI k) (hQ : pQ C q ≤ 60) (hd : d ≤ 2000) (hs : s q = 0) : PC C nl ns e (st1 s q d) (sPass (19 + q) (3 + k) (nI d) D) := by
  have hk8 : k < 8 := by omega
  have g2 : D (19 + q) 2 = C (19 + q) 2 := h.2 q hq 2 (by omega)
  have g3 : D (19 + q) 3 = nI (pQ C q) := (h.2 q hq 3 (by omega)).trans (by rw [hs]; rfl)
  have g4 : D (19 + q) 4 = C (19 + q) 4 := h.2 q hq 4 (by omega)
  have g5 : D (19 + q) 5 = pRec C q 0 := (h.2 q hq 5 (by omega)).trans (by rw [hs]; rfl)
  have at' := sPass_at (k := 19 + q) (a := 3 + k) (d := nI d) (V := D) (by omega)
  have eR : wor (C (19 + q) 2) (nI (pQ C q - d)) (C (19 + q) 4) = pRec C q d := rfl
  have eH : C (19 + q) 2 * nI (min d (pQ C q)) = pHad C q d := rfl
  have eH0 : pHad C q 0 = 0 := by show C (19 + q) 2 * nI (min 0 (pQ C q)) = 0; rw [Nat.zero_min]; exact Int32.mul_zero
  have sm := pM_st (C := C) (k := k) (e := e k) (s := s) (d := d) hq hh
  rw [hs, eH0] at sm
  refine ⟨fun j hj => ?_, fun j hj f hf => ?_⟩
  · refine ⟨fun f hf => by show sPass _ _ _ D (3 + j) f = _; rw [sPass_o (by omega) (by omega)]; exact (h.1 j hj).1 f hf, fun m hm => ?_⟩
    by_cases ej : j = k
    · subst ej
      by_cases h12 : m = 12
      · subst h12
        refine at'.2.2.1.trans ?_
        rw [show D (3 + j + 8) 12 = pM C ns j (e j) s 12 from (h.1 j hj).2 12 hm, g2, g3, g4, g5, wor_sub (by omega) (by omega), mn_N (by omega) (by omega), eR, eH, sm.1]
        grind
      · by_cases h13 : m = 13
        · subst h13
          refine at'.2.2.2.1.trans ?_
          rw [show D (3 + j + 8) 13 = pM C ns j (e j) s 13 from (h.1 j hj).2 13 hm, g2, g3, mn_N (by omega) (by omega), eH, sm.2.1]
          grind
        · refine (at'.2.2.2.2.2 m h12 h13).trans ?_
          rw [sm.2.2 m h12 h13]
          exact (h.1 j hj).2 m hm
    · show sPass _ _ _ D (3 + j + 8) m = _
      rw [sPass_o (by omega) (by omega), pM_sto hk8 (by omega) hh ej]
      exact (h.1 j hj).2 m hm
  · by_cases ej : j = q
    · subst ej
      rw [st1_at]
      by_cases h3 : f = 3
      · subst h3
        exact at'.1.trans (by rw [g3, mx_N (by omega) (by omega)]; rfl)
      · by_cases h5 : f = 5
        · subst h5
          exact at'.2.1.trans (by rw [g2, g3, g4, wor_sub (by omega) (by omega)]; rfl)
        · refine (at'.2.2.2.2.1 f h3 h5).trans ?_
          refine (h.2 j hj f hf).trans ?_
          unfold pSb
          rw [if_neg h3, if_neg h5, if_neg h3, if_neg h5]
    · rw [st1_ne ej]
      show sPass _ _ _ D (19 + j) f = _
      rw [sPass_o (by omega) (by omega)]
      exact h.2 j hj f hf

theorem PC.subs {C D : Mem} {nl ns d : Nat} {e : Nat → Nat} (h : PC C nl ns e (fun _ => 0) D) (h8 : nl ≤ 8) (hh : hdR nl ns C) (hQ : ∀ q, q < ns → pQ C q ≤ 60) (hd : d ≤ 2000) : ∀ i, i ≤ ns → PC C nl ns e (fun q => if q < i then d else 0) (cPSs (nI d) D i)
  | 0, _ => PF.congr h (fun _ _ => rfl) (fun k _ => by rw [if_neg (by omega)])
  | i + 1, hi => by
    have ih := PC.subs h h8 hh hQ hd i (by omega)
    have p1 := pH_of hh h8 (show i < ns by omega)
    have g0 : cPSs (nI d) D i (19 + i) 0 = C (19 + i) 0 := ih.2 i (by omega) 0 (by omega)
    show PC C nl ns e _ (sPass (19 + i) (3 + (cPSs (nI d) D i (19 + i) 0).toNatClampNeg) (nI d) (cPSs (nI d) D i))
    rw [g0]
    refine PF.congr (ih.subl (k := pH C i) (d := d) h8 p1.1 (by omega) p1.2 (hQ i (by omega)) hd (by show (if i < i then d else 0) = 0; rw [if_neg (by omega)])) (fun _ _ => rfl) (fun q _ => ?_)
    unfold st1
    by_cases e1 : q = i
    · subst e1; rw [if_pos (by omega), if_pos rfl]
    · rw [if_neg e1]
      by_cases e2 : q < i
      · rw [if_pos (show q < i + 1 by omega)]; exact (if_pos e2).symm
      · rw [if_neg (show ¬ q < i + 1 by omega)]; exact (if_neg e2).symm
theorem sF_zero {c : Nat → Bool} {f : Nat → Int32} : ∀ n, (∀ q, q < n → f q = 0) → sF c f n = 0
  | 0, _ => rfl
  | n + 1, h => by
    rw [sF, sF_zero n (fun q hq => h q (by omega)), h n (by omega)]
    split
    · exact Int32.add_zero 0
    · rfl
/-- the lives of a state: what passing needs -/
def VI (nl ns : Nat) (C : Mem) : Prop := CI nl ns C ∧ LI nl C ∧ SI ns C ∧ PSI nl ns C
theorem VI.N {nl ns k : Nat} {C : Mem} (h : VI nl ns C) (hk : k < nl) : C (3 + k) 1 = nI (pN C k) ∧ pN C k ≤ 60 := nI_cl (h.1.2.2.1 k hk) (by omega)
theorem VI.Q {nl ns q : Nat} {C : Mem} (h : VI nl ns C) (hq : q < ns) : C (19 + q) 3 = nI (pQ C q) ∧ pQ C q ≤ 60 := nI_cl (h.2.2.1 q hq).1 (by omega)
theorem VI.P {nl ns q : Nat} {C : Mem} (h : VI nl ns C) (hq : q < ns) : pQ C q ≤ pN C (pH C q) := by
  have p1 := pH_of h.1.2.2.2.2.1 h.1.1.2 hq
  have p2 := h.2.2.2 q hq (pH C q) p1.1 p1.2
  have q1 := h.Q hq
  have q2 := h.N p1.1
  rw [q1.1, q2.1] at p2
  exact i_ge (by omega) (by omega) p2
theorem VI.pc {nl ns : Nat} {C : Mem} (h : VI nl ns C) : PC C nl ns (fun _ => 0) (fun _ => 0) C := by
  refine ⟨fun k hk => ⟨fun f hf => ?_, fun m hm => ?_⟩, fun q hq f hf => ?_⟩
  · have n1 := h.N hk
    rcases (show f = 0 ∨ f = 1 ∨ f = 2 ∨ f = 3 ∨ f = 4 by omega) with rfl | rfl | rfl | rfl | rfl
    · rfl
    · exact n1.1
    · rfl
    · show C (3 + k) 3 = wor (C (3 + k) 0) (nI (pN C k)) (C (3 + k) 2)
      rw [← n1.1]; exact (h.2.1 k hk).2
    · show C (3 + k) 4 = aB (C (3 + k) 4) (pN C k) (min 0 (pN C k))
      rw [Nat.zero_min]; rfl
  · have n1 := h.N hk
    have e3 : pL C k 0 3 = C (3 + k) 3 := by
      show wor (C (3 + k) 0) (nI (pN C k)) (C (3 + k) 2) = _
      rw [← n1.1]; exact (h.2.1 k hk).2.symm
    have e4 : pL C k 0 4 = C (3 + k) 4 := by
      show aB (C (3 + k) 4) (pN C k) (min 0 (pN C k)) = _
      rw [Nat.zero_min]; rfl
    have z0 : C (3 + k) 0 * nI (min 0 (pN C k)) = 0 := by rw [Nat.zero_min]; exact Int32.mul_zero
    have zh : ∀ q, pHad C q 0 = 0 := fun q => by show C (19 + q) 2 * nI (min 0 (pQ C q)) = 0; rw [Nat.zero_min]; exact Int32.mul_zero
    have zr : ∀ q, q < ns → pRec C q 0 - C (19 + q) 5 + pHad C q 0 = 0 := fun q hq => by
      have q1 := h.Q hq
      have q2 : pRec C q 0 = C (19 + q) 5 := by
        show wor (C (19 + q) 2) (nI (pQ C q)) (C (19 + q) 4) = _
        rw [← q1.1]; exact (h.2.2.1 q hq).2.symm
      rw [q2, zh]; grind
    show C (3 + k + 8) m = pM C ns k 0 (fun _ => 0) m
    unfold pM
    split
    · rename_i e; subst e; rw [e3, z0]; grind
    · split
      · rename_i e; subst e; rw [z0]; grind
      · split
        · rename_i e; subst e; rw [e4]; grind
        · split
          · rename_i e; subst e; rw [sF_zero ns zr]; grind
          · split
            · rename_i e; subst e; rw [sF_zero ns (fun q _ => zh q)]; grind
            · rfl
  · have q1 := h.Q hq
    show C (19 + q) f = pSb C q 0 f
    unfold pSb
    split
    · rename_i e; subst e; exact q1.1
    · split
      · rename_i e; subst e
        show C (19 + q) 5 = wor (C (19 + q) 2) (nI (pQ C q)) (C (19 + q) 4)
        rw [← q1.1]; exact (h.2.2.1 q hq).2
      · rfl
theorem PC.row {C D D' : Mem} {nl ns : Nat} {e s : Nat → Nat} (h : PC C nl ns e s D) (h8 : nl ≤ 8) (h12 : ns ≤ 12) (er : ∀ r, 2 < r → r < 31 → D' r = D r) : PC C nl ns e s D' :=
  ⟨fun k hk => ⟨fun f hf => by show D' (3 + k) f = _; rw [er _ (by omega) (by omega)]; exact (h.1 k hk).1 f hf, fun m hm => by show D' (3 + k + 8) m = _; rw [er _ (by omega) (by omega)]; exact (h.1 k hk).2 m hm⟩, fun q hq f hf => by show D' (19 + q) f = _; rw [er _ (by omega) (by omega)]; exact h.2 q hq f hf⟩
theorem VI.passC {nl ns d : Nat} {C : Mem} (h : VI nl ns C) (hd : d ≤ 2000) : PC C nl ns (fun _ => d) (fun _ => d) (cPassSt nl ns d C) := by
  have h8 := h.1.1.2
  have h12 := h.1.2.1.2
  have h1 := (h.pc.row (D' := mset C 0 4 (C 0 4 + nI d)) h8 h12 (fun r hr _ => mset_o (by omega))).leases (d := d) h8 (fun k hk => (h.N hk).2) hd nl (Nat.le_refl _)
  have h2 := h1.subs (d := d) h8 h.1.2.2.2.2.1 (fun q hq => (h.Q hq).2) hd ns (Nat.le_refl _)
  exact PF.congr h2 (fun k hk => (if_pos hk).symm) (fun q hq => (if_pos hq).symm)
