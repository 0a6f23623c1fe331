/-! PASSING: the class's side -/
def st1 (e : Nat → Nat) (k d : Nat) : Nat → Nat := fun j => if j = k then d else e j
theorem mx_N {N d : Nat} (hN : N < 2 ^ 30) (hd : d < 2 ^ 30) : mx (nI 0) (nI N - nI d) = nI (N - d) := by
  unfold mx
  by_cases h : d < N
  · rw [pk_sub (by omega), if_pos (nI_lt (by omega) (by omega))]
  · have h1 : ¬ nI 0 < nI N - nI d := fun q => by
      rw [Int32.lt_iff_toInt_lt, nI_toInt (by omega), Int32.toInt_sub, nI_toInt (by omega), nI_toInt (by omega)] at q
      have h3 : (((N : Int) - (d : Int)).bmod (2 ^ 32)) = (N : Int) - d := by apply Int.bmod_eq_of_le <;> omega
      rw [h3] at q
      omega
    rw [if_neg h1, show N - d = 0 by omega]
theorem wor_sub {p r : Int32} {N d : Nat} (hN : N < 2 ^ 30) (hd : d < 2 ^ 30) : wor p (nI N - nI d) r = wor p (nI (N - d)) r := by
  by_cases h : d ≤ N
  · rw [pk_sub h]
  · rw [wor_0, wor_0]
    · rw [show N - d = 0 by omega]; decide
    · intro q
      rw [Int32.lt_iff_toInt_lt, Int32.toInt_sub, nI_toInt (by omega), nI_toInt (by omega)] at q
      have h3 : (((N : Int) - (d : Int)).bmod (2 ^ 32)) = (N : Int) - d := by apply Int.bmod_eq_of_le <;> omega
      rw [h3] at q
      have h4 : (0 : Int32).toInt = 0 := rfl
      omega
theorem mn_N {N d : Nat} (hN : N < 2 ^ 30) (hd : d < 2 ^ 30) : mn (nI d) (nI N) = nI (min d N) := by
  unfold mn
  by_cases h : N < d
  · rw [if_pos (nI_lt h (by omega)), show min d N = N by omega]
  · rw [if_neg (nI_nlt (by omega) (by omega)), show min d N = d by omega]
theorem cPass_f {k n d : Nat} {V : Mem} : cPass k n d V k 0 = V k 0 ∧ cPass k n d V k 1 = mx (nI 0) (V k 1 - nI d) ∧ cPass k n d V k 2 = V k 2 ∧ cPass k n d V k 3 = wor (V k 0) (V k 1 - nI d) (V k 2) ∧ cPass k n d V k 4 = aB (V k 4) n (min d n) := by
  unfold cPass cMv
  refine ⟨?_, ?_, ?_, ?_, ?_⟩ <;> simp (disch := omega) only [mset_at, mset_ne]
theorem cPass_m {k n d : Nat} {V : Mem} : cPass k n d V (k + 8) 1 = V (k + 8) 1 + (wor (V k 0) (V k 1 - nI d) (V k 2) - V k 3 + V k 0 * mn (nI d) (V k 1)) ∧ cPass k n d V (k + 8) 2 = V (k + 8) 2 + V k 0 * mn (nI d) (V k 1) ∧ cPass k n d V (k + 8) 6 = V (k + 8) 6 + (V k 4 - aB (V k 4) n (min d n)) ∧ ∀ m, m ≠ 1 → m ≠ 2 → m ≠ 6 → cPass k n d V (k + 8) m = V (k + 8) m := by
  unfold cPass cMv
  refine ⟨?_, ?_, ?_, fun m h1 h2 h6 => ?_⟩ <;> simp (disch := omega) only [mset_at, mset_ne]
theorem PC.lease {C D : Mem} {nl ns k d : Nat} {e s : Nat → Nat} (h : PC C nl ns e s D) (h8 : nl ≤ 8) (hk : k < nl) (hN : pN C k ≤ 60) (hd : d ≤ 2000) (he : e k = 0) : PC C nl ns (st1 e k d) s (cPass (3 + k) (pN C k) d D) := by
  have g0 : D (3 + k) 0 = C (3 + k) 0 := (h.1 k hk).1 0 (by omega)
  have g1 : D (3 + k) 1 = nI (pN C k) := ((h.1 k hk).1 1 (by omega)).trans (by rw [he]; rfl)
  have g2 : D (3 + k) 2 = C (3 + k) 2 := (h.1 k hk).1 2 (by omega)
  have g3 : D (3 + k) 3 = pL C k 0 3 := ((h.1 k hk).1 3 (by omega)).trans (by rw [he])
  have g4 : D (3 + k) 4 = C (3 + k) 4 := ((h.1 k hk).1 4 (by omega)).trans (by rw [he]; show aB (C (3 + k) 4) (pN C k) (min 0 (pN C k)) = _; rw [Nat.zero_min]; rfl)
  have m1 : D (3 + k + 8) 1 = pM C ns k 0 s 1 := ((h.1 k hk).2 1 (by omega)).trans (by rw [he])
  have m2 : D (3 + k + 8) 2 = pM C ns k 0 s 2 := ((h.1 k hk).2 2 (by omega)).trans (by rw [he])
  have m6 : D (3 + k + 8) 6 = pM C ns k 0 s 6 := ((h.1 k hk).2 6 (by omega)).trans (by rw [he])
  have e3 : wor (C (3 + k) 0) (nI (pN C k - d)) (C (3 + k) 2) = pL C k d 3 := rfl
  have e4 : aB (C (3 + k) 4) (pN C k) (min d (pN C k)) = pL C k d 4 := rfl
  have z0 : C (3 + k) 0 * nI (min 0 (pN C k)) = 0 := by rw [Nat.zero_min]; exact Int32.mul_zero
  have z4 : pL C k 0 4 = C (3 + k) 4 := by show aB (C (3 + k) 4) (pN C k) (min 0 (pN C k)) = _; rw [Nat.zero_min]; rfl
  refine ⟨fun j hj => ?_, fun q hq f hf => by show cPass (3 + k) _ d D (19 + q) f = _; rw [cPass_o (by omega) (by omega)]; exact h.2 q hq f hf⟩
  unfold st1
  by_cases ej : j = k
  · subst ej
    rw [if_pos rfl]
    refine ⟨fun f hf => ?_, fun m hm => ?_⟩
    · rcases (show f = 0 ∨ f = 1 ∨ f = 2 ∨ f = 3 ∨ f = 4 by omega) with rfl | rfl | rfl | rfl | rfl
      · exact cPass_f.1.trans g0
      · exact cPass_f.2.1.trans (by rw [g1, mx_N (by omega) (by omega)]; rfl)
      · exact cPass_f.2.2.1.trans g2
      · exact cPass_f.2.2.2.1.trans (by rw [g0, g1, g2, wor_sub (by omega) (by omega)]; rfl)
      · exact cPass_f.2.2.2.2.trans (by rw [g4]; rfl)
    · by_cases hm1 : m = 1
      · subst hm1
        refine cPass_m.1.trans ?_
        rw [m1, g0, g1, g2, g3, wor_sub (by omega) (by omega), mn_N (by omega) (by omega), e3]
        show C (3 + j + 8) 1 + (pL C j 0 3 - C (3 + j) 3 + C (3 + j) 0 * nI (min 0 (pN C j))) + _ = C (3 + j + 8) 1 + (pL C j d 3 - C (3 + j) 3 + C (3 + j) 0 * nI (min d (pN C j)))
        rw [z0]
        grind
      · by_cases hm2 : m = 2
        · subst hm2
          refine cPass_m.2.1.trans ?_
          rw [m2, g0, g1, mn_N (by omega) (by omega)]
          show C (3 + j + 8) 2 + C (3 + j) 0 * nI (min 0 (pN C j)) + _ = C (3 + j + 8) 2 + C (3 + j) 0 * nI (min d (pN C j))
          rw [z0]
          grind
        · by_cases hm6 : m = 6
          · subst hm6
            refine cPass_m.2.2.1.trans ?_
            rw [m6, g4, e4]
            show C (3 + j + 8) 6 + (C (3 + j) 4 - pL C j 0 4) + _ = C (3 + j + 8) 6 + (C (3 + j) 4 - pL C j d 4)
            rw [z4]
            grind
          · refine (cPass_m.2.2.2 m hm1 hm2 hm6).trans ?_
            refine ((h.1 j hj).2 m hm).trans ?_
            unfold pM
            rw [if_neg hm1, if_neg hm2, if_neg hm6, if_neg hm1, if_neg hm2, if_neg hm6]
  · rw [if_neg ej]
    refine ⟨fun f hf => ?_, fun m hm => ?_⟩
    · show cPass (3 + k) _ d D (3 + j) f = _
      rw [cPass_o (by omega) (by omega)]; exact (h.1 j hj).1 f hf
    · show cPass (3 + k) _ d D (3 + j + 8) m = _
      rw [cPass_o (by omega) (by omega)]; exact (h.1 j hj).2 m hm
theorem PC.leases {C D : Mem} {nl ns d : Nat} {s : Nat → Nat} (h : PC C nl ns (fun _ => 0) s D) (h8 : nl ≤ 8) (hN : ∀ k, k < nl → pN C k ≤ 60) (hd : d ≤ 2000) : ∀ i, i ≤ nl → PC C nl ns (fun k => if k < i then d else 0) s (cPLs d D i)
  | 0, _ => PF.congr h (fun k _ => by rw [if_neg (by omega)]) (fun _ _ => rfl)
  | i + 1, hi => by
    have ih := PC.leases h h8 hN hd i (by omega)
    have g1 : cPLs d D i (3 + i) 1 = nI (pN C i) := ((ih.1 i (by omega)).1 1 (by omega)).trans (by show pL C i (if i < i then d else 0) 1 = _; rw [if_neg (by omega)]; rfl)
    show PC C nl ns _ s (cPass (3 + i) (cPLs d D i (3 + i) 1).toNatClampNeg d (cPLs d D i))
    rw [g1, nI_clN (by have := hN i (by omega); omega)]
    refine PF.congr (ih.lease (d := d) h8 (by omega) (hN i (by omega)) hd (by show (if i < i then d else 0) = 0; rw [if_neg (by omega)])) (fun k _ => ?_) (fun _ _ => rfl)
    unfold st1
    by_cases e : k = i
    · subst e; rw [if_pos (by omega), if_pos rfl]
    · rw [if_neg e]
      by_cases e2 : k < i
      · rw [if_pos (show k < i + 1 by omega)]; exact (if_pos e2).symm
      · rw [if_neg (show ¬ k < i + 1 by omega)]; exact (if_neg e2).symm
theorem sPass_at {k a : Nat} {d : Int32} {V : Mem} (h : k ≠ a + 8) : sPass k a d V k 3 = mx (nI 0) (V k 3 - d) ∧ sPass k a d V k 5 = wor (V k 2) (V k 3 - d) (V k 4) ∧ sPass k a d V (a + 8) 12 = V (a + 8) 12 + (wor (V k 2) (V k 3 - d) (V k 4) - V k 5 + V k 2 * mn d (V k 3)) ∧ sPass k a d V (a + 8) 13 = V (a + 8) 13 + V k 2 * mn d (V k 3) ∧ (∀ f, f ≠ 3 → f ≠ 5 → sPass k a d V k f = V k f) ∧ ∀ m, m ≠ 12 → m ≠ 13 → sPass k a d V (a + 8) m = V (a + 8) m := by
  unfold sPass cMv
  refine ⟨?_, ?_, ?_, ?_, fun f h3 h5 => ?_, fun m h1 h2 => ?_⟩ <;> simp (disch := omega) only [mset_at, mset_ne]
theorem st1_at {s : Nat → Nat} {q d : Nat} : st1 s q d q = d := if_pos rfl
theorem st1_ne {s : Nat → Nat} {q j d : Nat} (h : j ≠ q) : st1 s q d j = s j := if_neg h
theorem pM_st {C : Mem} {ns k q e d : Nat} {s : Nat → Nat} (hq : q < ns) (hh : C (19 + q) 0 = nI k) : pM C ns k e (st1 s q d) 12 = pM C ns k e s 12 + ((pRec C q d - pRec C q (s q)) + (pHad C q d - pHad C q (s q))) ∧ pM C ns k e (st1 s q d) 13 = pM C ns k e s 13 + (pHad C q d - pHad C q (s q)) ∧ ∀ m, m ≠ 12 → m ≠ 13 → pM C ns k e (st1 s q d) m = pM C ns k e s m := by
  have hc : pHd C k q = true := decide_eq_true hh
  have a1 := sF_up (c := pHd C k) (f := fun q => pRec C q (s q) - C (19 + q) 5 + pHad C q (s q)) (g := fun j => pRec C j (st1 s q d j) - C (19 + j) 5 + pHad C j (st1 s q d j)) (q := q) (x := (pRec C q d - pRec C q (s q)) + (pHad C q d - pHad C q (s q))) hc (by show pRec C q (st1 s q d q) - C (19 + q) 5 + pHad C q (st1 s q d q) = pRec C q (s q) - C (19 + q) 5 + pHad C q (s q) + _; rw [st1_at]; grind) ns hq (fun j hj hne => by show pRec C j (st1 s q d j) - C (19 + j) 5 + pHad C j (st1 s q d j) = pRec C j (s j) - C (19 + j) 5 + pHad C j (s j); rw [st1_ne hne])
  have a2 := sF_up (c := pHd C k) (f := fun q => pHad C q (s q)) (g := fun j => pHad C j (st1 s q d j)) (q := q) (x := pHad C q d - pHad C q (s q)) hc (by show pHad C q (st1 s q d q) = pHad C q (s q) + _; rw [st1_at]; grind) ns hq (fun j hj hne => by show pHad C j (st1 s q d j) = pHad C j (s j); rw [st1_ne hne])
  refine ⟨?_, ?_, fun m h1 h2 => ?_⟩
  · show C (3 + k + 8) 12 + sF (pHd C k) (fun j => pRec C j (st1 s q d j) - C (19 + j) 5 + pHad C j (st1 s q d j)) ns = C (3 + k + 8) 12 + sF (pHd C k) (fun q => pRec C q (s q) - C (19 + q) 5 + pHad C q (s q)) ns + _
    rw [a1, Int32.add_assoc]
  · show C (3 + k + 8) 13 + sF (pHd C k) (fun j => pHad C j (st1 s q d j)) ns = C (3 + k + 8) 13 + sF (pHd C k) (fun q => pHad C q (s q)) ns + _
    rw [a2, Int32.add_assoc]
  · unfold pM
    rw [if_neg h1, if_neg h1, if_neg h2, if_neg h2]
theorem pM_sto {C : Mem} {ns j k q e m d : Nat} {s : Nat → Nat} (hk : k < 8) (hj : j < 8) (hh : C (19 + q) 0 = nI k) (hne : j ≠ k) : pM C ns j e (st1 s q d) m = pM C ns j e s m :=
  pM_up (fun i hi hc => by
    by_cases e1 : i = q
    · subst e1; exact absurd hc (pHd_ne hk hj hh hne)
    · rw [st1_ne e1]; exact ⟨rfl, rfl⟩)
theorem PC.subl {C D : Mem} {nl ns k q d : Nat} {e s : Nat → Nat} (h : PC C nl ns e s D) (h8 : nl ≤ 8) (hk : k < nl) (hq : q < ns) (hh : C (19 + q) 0 = nI k) (hQ : pQ C q ≤ 60) (hd : d ≤ 2000) (hs : s q = 0) : PC C nl ns e (st1 s q d) (sPass (19 + q) (3 + k) (nI d) D) := by
  have hk8 : k < 8 := by omega
  have g2 : D (19 + q) 2 = C (19 + q) 2 := h.2 q hq 2 (by omega)
  have g3 : D (19 + q) 3 = nI (pQ C q) := (h.2 q hq 3 (by omega)).trans (by rw [hs]; rfl)
  have g4 : D (19 + q) 4 = C (19 + q) 4 := h.2 q hq 4 (by omega)
  have g5 : D (19 + q) 5 = pRec C q 0 := (h.2 q hq 5 (by omega)).trans (by rw [hs]; rfl)
  have at' := sPass_at (k := 19 + q) (a := 3 + k) (d := nI d) (V := D) (by omega)
  have eR : wor (C (19 + q) 2) (nI (pQ C q - d)) (C (19 + q) 4) = pRec C q d := rfl
  have eH : C (19 + q) 2 * nI (min d (pQ C q)) = pHad C q d := rfl
  have eH0 : pHad C q 0 = 0 := by show C (19 + q) 2 * nI (min 0 (pQ C q)) = 0; rw [Nat.zero_min]; exact Int32.mul_zero
  have sm := pM_st (C := C) (k := k) (e := e k) (s := s) (d := d) hq hh
  rw [hs, eH0] at sm
  refine ⟨fun j hj => ?_, fun j hj f hf => ?_⟩
  · refine ⟨fun f hf => by show sPass _ _ _ D (3 + j) f = _; rw [sPass_o (by omega) (by omega)]; exact (h.1 j hj).1 f hf, fun m hm => ?_⟩
    by_cases ej : j = k
    · subst ej
      by_cases h12 : m = 12
      · subst h12
        refine at'.2.2.1.trans ?_
        rw [show D (3 + j + 8) 12 = pM C ns j (e j) s 12 from (h.1 j hj).2 12 hm, g2, g3, g4, g5, wor_sub (by omega) (by omega), mn_N (by omega) (by omega), eR, eH, sm.1]
        grind
      · by_cases h13 : m = 13
        · subst h13
          refine at'.2.2.2.1.trans ?_
          rw [show D (3 + j + 8) 13 = pM C ns j (e j) s 13 from (h.1 j hj).2 13 hm, g2, g3, mn_N (by omega) (by omega), eH, sm.2.1]
          grind
        · refine (at'.2.2.2.2.2 m h12 h13).trans ?_
          rw [sm.2.2 m h12 h13]
          exact (h.1 j hj).2 m hm
    · show sPass _ _ _ D (3 + j + 8) m = _
      rw [sPass_o (by omega) (by omega), pM_sto hk8 (by omega) hh ej]
      exact (h.1 j hj).2 m hm
  · by_cases ej : j = q
    · subst ej
      rw [st1_at]
      by_cases h3 : f = 3
      · subst h3
        exact at'.1.trans (by rw [g3, mx_N (by omega) (by omega)]; rfl)
      · by_cases h5 : f = 5
        · subst h5
          exact at'.2.1.trans (by rw [g2, g3, g4, wor_sub (by omega) (by omega)]; rfl)
        · refine (at'.2.2.2.2.1 f h3 h5).trans ?_
          refine (h.2 j hj f hf).trans ?_
          unfold pSb
          rw [if_neg h3, if_neg h5, if_neg h3, if_neg h5]
    · rw [st1_ne ej]
      show sPass _ _ _ D (19 + j) f = _
      rw [sPass_o (by omega) (by omega)]
      exact h.2 j hj f hf
