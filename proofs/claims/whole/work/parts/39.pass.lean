/-! PASSING: what stands after e k steps of lease k and s q steps of sublease q; C: the memory before (class) -/
def pN (C : Mem) (k : Nat) : Nat := (C (3 + k) 1).toNatClampNeg
def pQ (C : Mem) (q : Nat) : Nat := (C (19 + q) 3).toNatClampNeg
def pL (C : Mem) (k e f : Nat) : Int32 :=
  if f = 1 then nI (pN C k - e) else if f = 3 then wor (C (3 + k) 0) (nI (pN C k - e)) (C (3 + k) 2) else if f = 4 then aB (C (3 + k) 4) (pN C k) (min e (pN C k)) else C (3 + k) f
def pHad (C : Mem) (q s : Nat) : Int32 := C (19 + q) 2 * nI (min s (pQ C q))
def pRec (C : Mem) (q s : Nat) : Int32 := wor (C (19 + q) 2) (nI (pQ C q - s)) (C (19 + q) 4)
def pHd (C : Mem) (k q : Nat) : Bool := decide (C (19 + q) 0 = nI k)
def pM (C : Mem) (ns k e : Nat) (s : Nat → Nat) (m : Nat) : Int32 :=
  if m = 1 then C (3 + k + 8) 1 + (pL C k e 3 - C (3 + k) 3 + C (3 + k) 0 * nI (min e (pN C k)))
  else if m = 2 then C (3 + k + 8) 2 + C (3 + k) 0 * nI (min e (pN C k))
  else if m = 6 then C (3 + k + 8) 6 + (C (3 + k) 4 - pL C k e 4)
  else if m = 12 then C (3 + k + 8) 12 + sF (pHd C k) (fun q => pRec C q (s q) - C (19 + q) 5 + pHad C q (s q)) ns
  else if m = 13 then C (3 + k + 8) 13 + sF (pHd C k) (fun q => pHad C q (s q)) ns
  else C (3 + k + 8) m
def pSb (C : Mem) (q s f : Nat) : Int32 := if f = 3 then nI (pQ C q - s) else if f = 5 then pRec C q s else C (19 + q) f
def PF (C : Mem) (nl ns : Nat) (e s : Nat → Nat) (lf mf sf : Nat → Nat → Int32) : Prop :=
  (∀ k, k < nl → (∀ f, f < 5 → lf k f = pL C k (e k) f) ∧ ∀ m, m < 17 → mf k m = pM C ns k (e k) s m) ∧ ∀ q, q < ns → ∀ f, f < 6 → sf q f = pSb C q (s q) f
abbrev PZ (C : Mem) (nl ns : Nat) (e s : Nat → Nat) (Z : Mem) : Prop := PF C nl ns e s (fun k f => Z 225 (3 + 22 * k + f)) (fun k m => Z 225 (3 + 22 * k + 5 + m)) (fun q f => Z 225 (179 + 6 * q + f))
abbrev PC (C : Mem) (nl ns : Nat) (e s : Nat → Nat) (D : Mem) : Prop := PF C nl ns e s (fun k f => D (3 + k) f) (fun k m => D (3 + k + 8) m) (fun q f => D (19 + q) f)
theorem PF.rl {C D Z : Mem} {nl ns : Nat} {e s : Nat → Nat} (h1 : PC C nl ns e s D) (h2 : PZ C nl ns e s Z) : Rl nl ns D Z :=
  ⟨fun k hk => ⟨fun j hj => ((h2.1 k hk).1 j hj).trans ((h1.1 k hk).1 j hj).symm, fun j hj => ((h2.1 k hk).2 j hj).trans ((h1.1 k hk).2 j hj).symm⟩, fun q hq j hj => (h2.2 q hq j hj).trans (h1.2 q hq j hj).symm⟩
def up1 (e : Nat → Nat) (k : Nat) : Nat → Nat := fun j => if j = k then e j + 1 else e j
theorem sF_congr {c : Nat → Bool} {f g : Nat → Int32} : ∀ n, (∀ q, q < n → c q = true → f q = g q) → sF c f n = sF c g n
  | 0, _ => rfl
  | n + 1, h => by
    rw [sF, sF, sF_congr n (fun q hq => h q (by omega))]
    by_cases hc : c n = true
    · rw [if_pos hc, if_pos hc, h n (by omega) hc]
    · rw [if_neg hc, if_neg hc]
/-- one summand more -/
theorem sF_up {c : Nat → Bool} {f g : Nat → Int32} {q : Nat} {x : Int32} (hc : c q = true) (hq : g q = f q + x) : ∀ n, q < n → (∀ j, j < n → j ≠ q → g j = f j) → sF c g n = sF c f n + x
  | 0, h, _ => absurd h (by omega)
  | n + 1, h, ho => by
    rw [sF, sF]
    by_cases e : n = q
    · subst e
      rw [if_pos hc, if_pos hc, hq, sF_congr (g := f) n (fun j hj _ => ho j (by omega) (by omega)), Int32.add_assoc]
    · rw [sF_up hc hq n (by omega) (fun j hj hne => ho j (by omega) hne), ho n (by omega) e]
      by_cases hn : c n = true
      · rw [if_pos hn, if_pos hn]; grind
      · rw [if_neg hn, if_neg hn]
/-- a lease whose periods are over: a step more is no step -/
theorem PF.over {C : Mem} {nl ns k : Nat} {e s : Nat → Nat} {lf mf sf : Nat → Nat → Int32} (h : PF C nl ns e s lf mf sf) (hk : pN C k ≤ e k) : PF C nl ns (up1 e k) s lf mf sf := by
  have e1 : pN C k - (e k + 1) = pN C k - e k := by omega
  have e2 : min (e k + 1) (pN C k) = min (e k) (pN C k) := by omega
  have e3 : ∀ f, pL C k (e k + 1) f = pL C k (e k) f := fun f => by unfold pL; rw [e1, e2]
  refine ⟨fun j hj => ?_, h.2⟩
  unfold up1
  by_cases ej : j = k
  · subst ej
    rw [if_pos rfl]
    refine ⟨fun f hf => by rw [e3]; exact (h.1 j hj).1 f hf, fun m hm => ?_⟩
    rw [(h.1 j hj).2 m hm]
    unfold pM
    rw [e2, e3, e3]
  · rw [if_neg ej]; exact h.1 j hj
theorem pM_up {C : Mem} {ns k e m : Nat} {s s' : Nat → Nat} (h : ∀ q, q < ns → pHd C k q = true → pRec C q (s' q) = pRec C q (s q) ∧ pHad C q (s' q) = pHad C q (s q)) : pM C ns k e s' m = pM C ns k e s m := by
  unfold pM
  rw [sF_congr (f := fun q => pRec C q (s' q) - C (19 + q) 5 + pHad C q (s' q)) (g := fun q => pRec C q (s q) - C (19 + q) 5 + pHad C q (s q)) ns (fun q hq hc => by show pRec C q (s' q) - C (19 + q) 5 + pHad C q (s' q) = _; rw [(h q hq hc).1, (h q hq hc).2]), sF_congr (f := fun q => pHad C q (s' q)) (g := fun q => pHad C q (s q)) ns (fun q hq hc => (h q hq hc).2)]
theorem PF.overS {C : Mem} {nl ns q : Nat} {e s : Nat → Nat} {lf mf sf : Nat → Nat → Int32} (h : PF C nl ns e s lf mf sf) (hq : pQ C q ≤ s q) : PF C nl ns e (up1 s q) lf mf sf := by
  have e1 : pQ C q - (s q + 1) = pQ C q - s q := by omega
  have e2 : min (s q + 1) (pQ C q) = min (s q) (pQ C q) := by omega
  have r1 : ∀ j, pRec C j (up1 s q j) = pRec C j (s j) ∧ pHad C j (up1 s q j) = pHad C j (s j) := fun j => by
    unfold up1
    by_cases ej : j = q
    · subst ej; rw [if_pos rfl]; unfold pRec pHad; rw [e1, e2]; exact ⟨rfl, rfl⟩
    · rw [if_neg ej]; exact ⟨rfl, rfl⟩
  refine ⟨fun k hk => ⟨(h.1 k hk).1, fun m hm => by rw [pM_up (fun j _ _ => r1 j)]; exact (h.1 k hk).2 m hm⟩, fun j hj f hf => ?_⟩
  rw [h.2 j hj f hf]
  unfold pSb
  rw [(r1 j).1]
  unfold up1
  by_cases ej : j = q
  · subst ej; rw [if_pos rfl, e1]
  · rw [if_neg ej]
/-! one step of the model -/
theorem rPL0_f {k : Nat} {Z : Mem} : rPL0 k Z 225 (3 + 22 * k) = Z 225 (3 + 22 * k) ∧ rPL0 k Z 225 (3 + 22 * k + 1) = Z 225 (3 + 22 * k + 1) - nI 1 ∧ rPL0 k Z 225 (3 + 22 * k + 2) = Z 225 (3 + 22 * k + 2) ∧ rPL0 k Z 225 (3 + 22 * k + 3) = wor (Z 225 (3 + 22 * k)) (Z 225 (3 + 22 * k + 1) - nI 1) (Z 225 (3 + 22 * k + 2)) ∧ rPL0 k Z 225 (3 + 22 * k + 4) = Z 225 (3 + 22 * k + 4) - Z 225 (3 + 22 * k + 4) / Z 225 (3 + 22 * k + 1) := by
  unfold rPL0 rMv
  refine ⟨?_, ?_, ?_, ?_, ?_⟩ <;> simp (disch := omega) only [mset_at, mset_ne]
theorem rPL0_m {k : Nat} {Z : Mem} : rPL0 k Z 225 (3 + 22 * k + 5 + 1) = Z 225 (3 + 22 * k + 5 + 1) + (wor (Z 225 (3 + 22 * k)) (Z 225 (3 + 22 * k + 1) - nI 1) (Z 225 (3 + 22 * k + 2)) - Z 225 (3 + 22 * k + 3) + Z 225 (3 + 22 * k)) ∧ rPL0 k Z 225 (3 + 22 * k + 5 + 2) = Z 225 (3 + 22 * k + 5 + 2) + Z 225 (3 + 22 * k) ∧ rPL0 k Z 225 (3 + 22 * k + 5 + 6) = Z 225 (3 + 22 * k + 5 + 6) + Z 225 (3 + 22 * k + 4) / Z 225 (3 + 22 * k + 1) := by
  unfold rPL0 rMv
  refine ⟨?_, ?_, ?_⟩ <;> simp (disch := omega) only [mset_at, mset_ne]
theorem rPL0_o {k b : Nat} {Z : Mem} (h : b < 3 + 22 * k ∨ 3 + 22 * k + 22 ≤ b ∨ (3 + 22 * k + 5 ≤ b ∧ b ≠ 3 + 22 * k + 5 + 1 ∧ b ≠ 3 + 22 * k + 5 + 2 ∧ b ≠ 3 + 22 * k + 5 + 6)) : rPL0 k Z 225 b = Z 225 b := by
  unfold rPL0 rMv
  simp (disch := omega) only [mset_ne]
theorem PZ.lease {C Z : Mem} {nl ns k : Nat} {e s : Nat → Nat} (h : PZ C nl ns e s Z) (h8 : nl ≤ 8) (hk : k < nl) (hN : pN C k ≤ 60) (he : e k < pN C k) : PZ C nl ns (up1 e k) s (rPL0 k Z) := by
  have g0 : Z 225 (3 + 22 * k) = C (3 + k) 0 := (h.1 k hk).1 0 (by omega)
  have g1 : Z 225 (3 + 22 * k + 1) = nI (pN C k - e k) := (h.1 k hk).1 1 (by omega)
  have g2 : Z 225 (3 + 22 * k + 2) = C (3 + k) 2 := (h.1 k hk).1 2 (by omega)
  have g3 : Z 225 (3 + 22 * k + 3) = pL C k (e k) 3 := (h.1 k hk).1 3 (by omega)
  have g4 : Z 225 (3 + 22 * k + 4) = pL C k (e k) 4 := (h.1 k hk).1 4 (by omega)
  have m1 : Z 225 (3 + 22 * k + 5 + 1) = pM C ns k (e k) s 1 := (h.1 k hk).2 1 (by omega)
  have m2 : Z 225 (3 + 22 * k + 5 + 2) = pM C ns k (e k) s 2 := (h.1 k hk).2 2 (by omega)
  have m6 : Z 225 (3 + 22 * k + 5 + 6) = pM C ns k (e k) s 6 := (h.1 k hk).2 6 (by omega)
  have eN : nI (pN C k - e k) - nI 1 = nI (pN C k - (e k + 1)) := by rw [pk_sub (by omega)]; rfl
  have eM : min (e k + 1) (pN C k) = min (e k) (pN C k) + 1 := by omega
  have eM0 : min (e k) (pN C k) = e k := by omega
  have eP : nI (min (e k) (pN C k) + 1) = nI (min (e k) (pN C k)) + 1 := nI_succ _
  have eW : wor (C (3 + k) 0) (nI (pN C k - (e k + 1))) (C (3 + k) 2) = pL C k (e k + 1) 3 := rfl
  have eA : pL C k (e k + 1) 4 = pL C k (e k) 4 - pL C k (e k) 4 / nI (pN C k - e k) := by
    show aB _ _ (min (e k + 1) _) = aB _ _ (min (e k) _) - aB _ _ (min (e k) _) / _
    rw [eM, eM0]; rfl
  refine ⟨fun j hj => ?_, fun q hq f hf => by show rPL0 k Z 225 (179 + 6 * q + f) = _; rw [rPL0_o (by omega)]; exact h.2 q hq f hf⟩
  unfold up1
  by_cases ej : j = k
  · subst ej
    rw [if_pos rfl]
    refine ⟨fun f hf => ?_, fun m hm => ?_⟩
    · rcases (show f = 0 ∨ f = 1 ∨ f = 2 ∨ f = 3 ∨ f = 4 by omega) with rfl | rfl | rfl | rfl | rfl
      · exact rPL0_f.1.trans g0
      · exact rPL0_f.2.1.trans (by rw [g1, eN]; rfl)
      · exact rPL0_f.2.2.1.trans g2
      · exact rPL0_f.2.2.2.1.trans (by rw [g0, g1, g2, eN]; rfl)
      · exact rPL0_f.2.2.2.2.trans (by rw [g4, g1, eA])
    · by_cases hm1 : m = 1
      · subst hm1
        refine rPL0_m.1.trans ?_
        rw [m1, g0, g1, g2, g3, eN, eW]
        show C (3 + j + 8) 1 + (pL C j (e j) 3 - C (3 + j) 3 + C (3 + j) 0 * nI (min (e j) (pN C j))) + _ = C (3 + j + 8) 1 + (pL C j (e j + 1) 3 - C (3 + j) 3 + C (3 + j) 0 * nI (min (e j + 1) (pN C j)))
        rw [eM, eP]
        grind
      · by_cases hm2 : m = 2
        · subst hm2
          refine rPL0_m.2.1.trans ?_
          rw [m2, g0]
          show C (3 + j + 8) 2 + C (3 + j) 0 * nI (min (e j) (pN C j)) + _ = C (3 + j + 8) 2 + C (3 + j) 0 * nI (min (e j + 1) (pN C j))
          rw [eM, eP]
          grind
        · by_cases hm6 : m = 6
          · subst hm6
            refine rPL0_m.2.2.trans ?_
            rw [m6, g4, g1]
            show C (3 + j + 8) 6 + (C (3 + j) 4 - pL C j (e j) 4) + _ = C (3 + j + 8) 6 + (C (3 + j) 4 - pL C j (e j + 1) 4)
            rw [eA]
            grind
          · refine (rPL0_o (by omega)).trans ?_
            refine ((h.1 j hj).2 m hm).trans ?_
            unfold pM
            rw [if_neg hm1, if_neg hm2, if_neg hm6, if_neg hm1, if_neg hm2, if_neg hm6]
  · rw [if_neg ej]
    refine ⟨fun f hf => ?_, fun m hm => ?_⟩
    · show rPL0 k Z 225 (3 + 22 * j + f) = _
      rw [rPL0_o (by omega)]; exact (h.1 j hj).1 f hf
    · show rPL0 k Z 225 (3 + 22 * j + 5 + m) = _
      rw [rPL0_o (by omega)]; exact (h.1 j hj).2 m hm
theorem rPSubS_at {k q : Nat} {Z : Mem} (hk : k < 8) (hc : Z 225 (179 + 6 * q) = nI k ∧ 0 < Z 225 (179 + 6 * q + 3)) : rPSubS k q Z 225 (179 + 6 * q + 3) = Z 225 (179 + 6 * q + 3) - nI 1 ∧ rPSubS k q Z 225 (179 + 6 * q + 5) = wor (Z 225 (179 + 6 * q + 2)) (Z 225 (179 + 6 * q + 3) - nI 1) (Z 225 (179 + 6 * q + 4)) ∧ rPSubS k q Z 225 (3 + 22 * k + 5 + 12) = Z 225 (3 + 22 * k + 5 + 12) + (wor (Z 225 (179 + 6 * q + 2)) (Z 225 (179 + 6 * q + 3) - nI 1) (Z 225 (179 + 6 * q + 4)) - Z 225 (179 + 6 * q + 5) + Z 225 (179 + 6 * q + 2)) ∧ rPSubS k q Z 225 (3 + 22 * k + 5 + 13) = Z 225 (3 + 22 * k + 5 + 13) + Z 225 (179 + 6 * q + 2) := by
  unfold rPSubS rMv
  rw [if_pos hc]
  refine ⟨?_, ?_, ?_, ?_⟩ <;> simp (disch := omega) only [mset_at, mset_ne]
theorem rPSubS_o {k q b : Nat} {Z : Mem} (h : b ≠ 179 + 6 * q + 3 ∧ b ≠ 179 + 6 * q + 5 ∧ b ≠ 3 + 22 * k + 5 + 12 ∧ b ≠ 3 + 22 * k + 5 + 13) : rPSubS k q Z 225 b = Z 225 b := by
  unfold rPSubS rMv
  split
  · simp (disch := omega) only [mset_ne]
  · rfl
theorem pHd_ne {C : Mem} {k j q : Nat} (hk : k < 8) (hj : j < 8) (h : C (19 + q) 0 = nI k) (hne : j ≠ k) : ¬ pHd C j q = true := fun z => by
  have z2 := of_decide_eq_true z
  rw [h] at z2
  exact hne ((nI_eq (by omega) (by omega)).mp z2).symm
theorem up1_at {s : Nat → Nat} {q : Nat} : up1 s q q = s q + 1 := if_pos rfl
theorem up1_ne {s : Nat → Nat} {q j : Nat} (h : j ≠ q) : up1 s q j = s j := if_neg h
/-- a step of sublease q: what the numbers of its lease become -/
theorem pM_sub {C : Mem} {ns k q e : Nat} {s : Nat → Nat} (hq : q < ns) (hh : C (19 + q) 0 = nI k) : pM C ns k e (up1 s q) 12 = pM C ns k e s 12 + ((pRec C q (s q + 1) - pRec C q (s q)) + (pHad C q (s q + 1) - pHad C q (s q))) ∧ pM C ns k e (up1 s q) 13 = pM C ns k e s 13 + (pHad C q (s q + 1) - pHad C q (s q)) ∧ ∀ m, m ≠ 12 → m ≠ 13 → pM C ns k e (up1 s q) m = pM C ns k e s m := by
  have hc : pHd C k q = true := decide_eq_true hh
  have a1 := sF_up (c := pHd C k) (f := fun q => pRec C q (s q) - C (19 + q) 5 + pHad C q (s q)) (g := fun j => pRec C j (up1 s q j) - C (19 + j) 5 + pHad C j (up1 s q j)) (q := q) (x := (pRec C q (s q + 1) - pRec C q (s q)) + (pHad C q (s q + 1) - pHad C q (s q))) hc (by show pRec C q (up1 s q q) - C (19 + q) 5 + pHad C q (up1 s q q) = pRec C q (s q) - C (19 + q) 5 + pHad C q (s q) + _; rw [up1_at]; grind) ns hq (fun j hj hne => by show pRec C j (up1 s q j) - C (19 + j) 5 + pHad C j (up1 s q j) = pRec C j (s j) - C (19 + j) 5 + pHad C j (s j); rw [up1_ne hne])
  have a2 := sF_up (c := pHd C k) (f := fun q => pHad C q (s q)) (g := fun j => pHad C j (up1 s q j)) (q := q) (x := pHad C q (s q + 1) - pHad C q (s q)) hc (by show pHad C q (up1 s q q) = pHad C q (s q) + _; rw [up1_at]; grind) ns hq (fun j hj hne => by show pHad C j (up1 s q j) = pHad C j (s j); rw [up1_ne hne])
  refine ⟨?_, ?_, fun m h1 h2 => ?_⟩
  · show C (3 + k + 8) 12 + sF (pHd C k) (fun j => pRec C j (up1 s q j) - C (19 + j) 5 + pHad C j (up1 s q j)) ns = C (3 + k + 8) 12 + sF (pHd C k) (fun q => pRec C q (s q) - C (19 + q) 5 + pHad C q (s q)) ns + _
    rw [a1, Int32.add_assoc]
  · show C (3 + k + 8) 13 + sF (pHd C k) (fun j => pHad C j (up1 s q j)) ns = C (3 + k + 8) 13 + sF (pHd C k) (fun q => pHad C q (s q)) ns + _
    rw [a2, Int32.add_assoc]
  · unfold pM
    rw [if_neg h1, if_neg h1, if_neg h2, if_neg h2]
theorem pM_oth {C : Mem} {ns j k q e m : Nat} {s : Nat → Nat} (hk : k < 8) (hj : j < 8) (hh : C (19 + q) 0 = nI k) (hne : j ≠ k) : pM C ns j e (up1 s q) m = pM C ns j e s m :=
  pM_up (fun i hi hc => by
    by_cases e1 : i = q
    · subst e1; exact absurd hc (pHd_ne hk hj hh hne)
    · rw [up1_ne e1]; exact ⟨rfl, rfl⟩)
theorem PZ.subl {C Z : Mem} {nl ns k q : Nat} {e s : Nat → Nat} (h : PZ C nl ns e s Z) (h8 : nl ≤ 8) (hk : k < nl) (hq : q < ns) (hh : C (19 + q) 0 = nI k) (hQ : pQ C q ≤ 60) (hs : s q < pQ C q) : PZ C nl ns e (up1 s q) (rPSubS k q Z) := by
  have hk8 : k < 8 := by omega
  have g0 : Z 225 (179 + 6 * q) = C (19 + q) 0 := h.2 q hq 0 (by omega)
  have g2 : Z 225 (179 + 6 * q + 2) = C (19 + q) 2 := h.2 q hq 2 (by omega)
  have g3 : Z 225 (179 + 6 * q + 3) = nI (pQ C q - s q) := h.2 q hq 3 (by omega)
  have g4 : Z 225 (179 + 6 * q + 4) = C (19 + q) 4 := h.2 q hq 4 (by omega)
  have g5 : Z 225 (179 + 6 * q + 5) = pRec C q (s q) := h.2 q hq 5 (by omega)
  have eN : nI (pQ C q - s q) - nI 1 = nI (pQ C q - (s q + 1)) := by rw [pk_sub (by omega)]; rfl
  have hc : Z 225 (179 + 6 * q) = nI k ∧ 0 < Z 225 (179 + 6 * q + 3) := ⟨g0.trans hh, by rw [g3]; exact Int32.not_le.mp (nI_nle (by omega) (by omega))⟩
  have at' := rPSubS_at hk8 hc
  have eR : wor (C (19 + q) 2) (nI (pQ C q - (s q + 1))) (C (19 + q) 4) = pRec C q (s q + 1) := rfl
  have eH : pHad C q (s q + 1) - pHad C q (s q) = C (19 + q) 2 := by
    unfold pHad
    rw [show min (s q + 1) (pQ C q) = min (s q) (pQ C q) + 1 by omega, nI_succ]
    grind
  have sm := pM_sub (C := C) (k := k) (e := e k) (s := s) hq hh
  refine ⟨fun j hj => ?_, fun j hj f hf => ?_⟩
  · refine ⟨fun f hf => by show rPSubS k q Z 225 (3 + 22 * j + f) = _; rw [rPSubS_o (by omega)]; exact (h.1 j hj).1 f hf, fun m hm => ?_⟩
    by_cases ej : j = k
    · subst ej
      by_cases h12 : m = 12
      · subst h12
        refine at'.2.2.1.trans ?_
        rw [show Z 225 (3 + 22 * j + 5 + 12) = pM C ns j (e j) s 12 from (h.1 j hj).2 12 hm, g2, g3, g4, g5, eN, eR, sm.1, eH]
      · by_cases h13 : m = 13
        · subst h13
          refine at'.2.2.2.trans ?_
          rw [show Z 225 (3 + 22 * j + 5 + 13) = pM C ns j (e j) s 13 from (h.1 j hj).2 13 hm, g2, sm.2.1, eH]
        · show rPSubS j q Z 225 (3 + 22 * j + 5 + m) = _
          rw [rPSubS_o (by omega), sm.2.2 m h12 h13]
          exact (h.1 j hj).2 m hm
    · show rPSubS k q Z 225 (3 + 22 * j + 5 + m) = _
      rw [rPSubS_o (by omega), pM_oth hk8 (by omega) hh ej]
      exact (h.1 j hj).2 m hm
  · by_cases ej : j = q
    · subst ej
      rw [up1_at]
      by_cases h3 : f = 3
      · subst h3
        exact at'.1.trans (by rw [g3, eN]; rfl)
      · by_cases h5 : f = 5
        · subst h5
          exact at'.2.1.trans (by rw [g2, g3, g4, eN]; rfl)
        · show rPSubS k j Z 225 (179 + 6 * j + f) = _
          rw [rPSubS_o (by omega)]
          refine (h.2 j hj f hf).trans ?_
          unfold pSb
          rw [if_neg h3, if_neg h5, if_neg h3, if_neg h5]
    · rw [up1_ne ej]
      show rPSubS k q Z 225 (179 + 6 * j + f) = _
      rw [rPSubS_o (by omega)]
      exact h.2 j hj f hf
