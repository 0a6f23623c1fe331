/-! PASSING: the law's side -/
def PG (C : Mem) (nl ns : Nat) (e s : Nat → Nat) (Z : Mem) : Prop :=
  (∀ k, k < nl → (∀ f, f < 3 → Z 225 (3 * k + f) = pL C k (e k) f) ∧ Z 224 (3 + k) = pL C k (e k) 3 ∧ Z 224 (11 + k) = pL C k (e k) 4 ∧ Z 224 (27 + k) = pr0 (pM C ns k (e k) s) ∧ Z 224 (19 + k) = csh (pM C ns k (e k) s)) ∧
  ∀ q, q < ns → (∀ f, f < 4 → Z 226 (4 * q + f) = pSb C q (s q) f) ∧ Z 227 q = C (19 + q) 4 ∧ Z 227 (12 + q) = pRec C q (s q)
theorem pr0_c {M M' : Nat → Int32} (h : ∀ m, m < 17 → M m = M' m) : pr0 M = pr0 M' := by
  unfold pr0
  rw [h 7 (by omega), h 3 (by omega), h 1 (by omega), h 6 (by omega), h 4 (by omega), h 8 (by omega), h 16 (by omega), h 11 (by omega), h 9 (by omega), h 12 (by omega), h 14 (by omega), h 10 (by omega)]
theorem csh_c {M M' : Nat → Int32} (h : ∀ m, m < 17 → M m = M' m) : csh M = csh M' := by
  unfold csh
  rw [h 13 (by omega), h 2 (by omega), h 15 (by omega), h 16 (by omega)]
theorem PG.lw {C D Z : Mem} {nl ns : Nat} {e s : Nat → Nat} (h1 : PC C nl ns e s D) (h2 : PG C nl ns e s Z) : Lw nl ns D Z :=
  ⟨fun k hk => ⟨fun j hj => ((h2.1 k hk).1 j hj).trans ((h1.1 k hk).1 j (by omega)).symm, (h2.1 k hk).2.1.trans ((h1.1 k hk).1 3 (by omega)).symm, (h2.1 k hk).2.2.1.trans ((h1.1 k hk).1 4 (by omega)).symm,
      (h2.1 k hk).2.2.2.1.trans (pr0_c (fun m hm => ((h1.1 k hk).2 m hm).symm)), (h2.1 k hk).2.2.2.2.trans (csh_c (fun m hm => ((h1.1 k hk).2 m hm).symm))⟩,
   fun q hq => ⟨fun j hj => ((h2.2 q hq).1 j hj).trans (h1.2 q hq j (by omega)).symm, (h2.2 q hq).2.1.trans (h1.2 q hq 4 (by omega)).symm, (h2.2 q hq).2.2.trans (h1.2 q hq 5 (by omega)).symm⟩⟩
theorem PG.of {C Z : Mem} {nl ns : Nat} {e s : Nat → Nat} (h : Lw nl ns C Z) (hp : PC C nl ns e s C) : PG C nl ns e s Z :=
  ⟨fun k hk => ⟨fun f hf => (h.f hk hf).trans ((hp.1 k hk).1 f (by omega)), (h.li hk).trans ((hp.1 k hk).1 3 (by omega)), (h.as hk).trans ((hp.1 k hk).1 4 (by omega)), (h.pr hk).trans (pr0_c (fun m hm => (hp.1 k hk).2 m hm)), (h.cs hk).trans (csh_c (fun m hm => (hp.1 k hk).2 m hm))⟩,
   fun q hq => ⟨fun f hf => (h.s hq hf).trans (hp.2 q hq f (by omega)), h.rt hq, (h.rc hq).trans (hp.2 q hq 5 (by omega))⟩⟩
theorem PG.congr {C Z : Mem} {nl ns : Nat} {e e' s s' : Nat → Nat} (h : PG C nl ns e s Z) (he : ∀ k, k < nl → e' k = e k) (hs : ∀ q, q < ns → s' q = s q) : PG C nl ns e' s' Z := by
  have hM : ∀ k, ∀ i m, pM C ns k i s' m = pM C ns k i s m := fun k i m => pM_up (fun q hq _ => by rw [hs q hq]; exact ⟨rfl, rfl⟩)
  refine ⟨fun k hk => ?_, fun q hq => by rw [hs q hq]; exact h.2 q hq⟩
  rw [he k hk, pr0_c (fun m _ => hM k (e k) m), csh_c (fun m _ => hM k (e k) m)]
  exact h.1 k hk
/-- a lease whose periods are over: a step more is no step -/
theorem PG.over {C Z : Mem} {nl ns k : Nat} {e s : Nat → Nat} (h : PG C nl ns e s Z) (hk : pN C k ≤ e k) : PG C nl ns (up1 e k) s Z := by
  have e1 : pN C k - (e k + 1) = pN C k - e k := by omega
  have e2 : min (e k + 1) (pN C k) = min (e k) (pN C k) := by omega
  have e3 : ∀ f, pL C k (e k + 1) f = pL C k (e k) f := fun f => by unfold pL; rw [e1, e2]
  have e4 : ∀ m, pM C ns k (e k + 1) s m = pM C ns k (e k) s m := fun m => by unfold pM; rw [e2, e3, e3]
  refine ⟨fun j hj => ?_, h.2⟩
  unfold up1
  by_cases ej : j = k
  · subst ej
    rw [if_pos rfl, e3, e3, pr0_c (fun m _ => e4 m), csh_c (fun m _ => e4 m)]
    exact ⟨fun f hf => by rw [e3]; exact (h.1 j hj).1 f hf, (h.1 j hj).2⟩
  · rw [if_neg ej]; exact h.1 j hj
theorem PG.overS {C Z : Mem} {nl ns q : Nat} {e s : Nat → Nat} (h : PG C nl ns e s Z) (hq : pQ C q ≤ s q) : PG C nl ns e (up1 s q) Z := by
  have e1 : pQ C q - (s q + 1) = pQ C q - s q := by omega
  have e2 : min (s q + 1) (pQ C q) = min (s q) (pQ C q) := by omega
  have r1 : ∀ j, pRec C j (up1 s q j) = pRec C j (s j) ∧ pHad C j (up1 s q j) = pHad C j (s j) := fun j => by
    unfold up1
    by_cases ej : j = q
    · subst ej; rw [if_pos rfl]; unfold pRec pHad; rw [e1, e2]; exact ⟨rfl, rfl⟩
    · rw [if_neg ej]; exact ⟨rfl, rfl⟩
  have hM : ∀ k, ∀ i m, pM C ns k i (up1 s q) m = pM C ns k i s m := fun k i m => pM_up (fun j _ _ => r1 j)
  refine ⟨fun k hk => ?_, fun j hj => ?_⟩
  · rw [pr0_c (fun m _ => hM k (e k) m), csh_c (fun m _ => hM k (e k) m)]
    exact h.1 k hk
  · rw [(r1 j).1]
    refine ⟨fun f hf => ?_, (h.2 j hj).2⟩
    rw [(h.2 j hj).1 f hf]
    unfold pSb
    rw [(r1 j).1]
    unfold up1
    by_cases ej : j = q
    · subst ej; rw [if_pos rfl, e1]
    · rw [if_neg ej]
/-- a step of lease k: what its numbers become -/
theorem pM_step {C : Mem} {ns k e : Nat} {s : Nat → Nat} (he : e < pN C k) : pM C ns k (e + 1) s 1 = pM C ns k e s 1 + (pL C k (e + 1) 3 - pL C k e 3 + C (3 + k) 0) ∧ pM C ns k (e + 1) s 2 = pM C ns k e s 2 + C (3 + k) 0 ∧ pM C ns k (e + 1) s 6 = pM C ns k e s 6 + (pL C k e 4 - pL C k (e + 1) 4) ∧ ∀ m, m ≠ 1 → m ≠ 2 → m ≠ 6 → pM C ns k (e + 1) s m = pM C ns k e s m := by
  have eM : min (e + 1) (pN C k) = min e (pN C k) + 1 := by omega
  have eP : nI (min e (pN C k) + 1) = nI (min e (pN C k)) + 1 := nI_succ _
  refine ⟨?_, ?_, ?_, fun m h1 h2 h6 => ?_⟩
  · show C (3 + k + 8) 1 + (pL C k (e + 1) 3 - C (3 + k) 3 + C (3 + k) 0 * nI (min (e + 1) (pN C k))) = C (3 + k + 8) 1 + (pL C k e 3 - C (3 + k) 3 + C (3 + k) 0 * nI (min e (pN C k))) + _
    rw [eM, eP]; grind
  · show C (3 + k + 8) 2 + C (3 + k) 0 * nI (min (e + 1) (pN C k)) = C (3 + k + 8) 2 + C (3 + k) 0 * nI (min e (pN C k)) + _
    rw [eM, eP]; grind
  · show C (3 + k + 8) 6 + (C (3 + k) 4 - pL C k (e + 1) 4) = C (3 + k + 8) 6 + (C (3 + k) 4 - pL C k e 4) + _
    grind
  · unfold pM
    rw [if_neg h1, if_neg h2, if_neg h6, if_neg h1, if_neg h2, if_neg h6]
theorem lP0_f {k : Nat} {Z : Mem} : lP0 k Z 225 (3 * k) = Z 225 (3 * k) ∧ lP0 k Z 225 (3 * k + 1) = Z 225 (3 * k + 1) - nI 1 ∧ lP0 k Z 225 (3 * k + 2) = Z 225 (3 * k + 2) ∧ lP0 k Z 224 (3 + k) = wor (Z 225 (3 * k)) (Z 225 (3 * k + 1) - nI 1) (Z 225 (3 * k + 2)) ∧ lP0 k Z 224 (11 + k) = Z 224 (11 + k) - Z 224 (11 + k) / Z 225 (3 * k + 1)
    ∧ lP0 k Z 224 (27 + k) = Z 224 (27 + k) - (wor (Z 225 (3 * k)) (Z 225 (3 * k + 1) - nI 1) (Z 225 (3 * k + 2)) - Z 224 (3 + k) + Z 225 (3 * k) + Z 224 (11 + k) / Z 225 (3 * k + 1)) ∧ lP0 k Z 224 (19 + k) = Z 224 (19 + k) - Z 225 (3 * k) := by
  unfold lP0
  refine ⟨?_, ?_, ?_, ?_, ?_, ?_, ?_⟩ <;> simp (disch := omega) only [mset_at, mset_ne]
theorem PG.lease {C Z : Mem} {nl ns k : Nat} {e s : Nat → Nat} (h : PG C nl ns e s Z) (h8 : nl ≤ 8) (h12 : ns ≤ 12) (hk : k < nl) (hN : pN C k ≤ 60) (he : e k < pN C k) : PG C nl ns (up1 e k) s (lP0 k Z) := by
  have hh := h.1 k hk
  have g0 : Z 225 (3 * k) = C (3 + k) 0 := hh.1 0 (by omega)
  have g1 : Z 225 (3 * k + 1) = nI (pN C k - e k) := hh.1 1 (by omega)
  have g2 : Z 225 (3 * k + 2) = C (3 + k) 2 := hh.1 2 (by omega)
  have g3 := hh.2.1
  have g4 := hh.2.2.1
  have g5 := hh.2.2.2.1
  have g6 := hh.2.2.2.2
  have eN : nI (pN C k - e k) - nI 1 = nI (pN C k - (e k + 1)) := by rw [pk_sub (by omega)]; rfl
  have eM : min (e k + 1) (pN C k) = min (e k) (pN C k) + 1 := by omega
  have eM0 : min (e k) (pN C k) = e k := by omega
  have eW : wor (C (3 + k) 0) (nI (pN C k - (e k + 1))) (C (3 + k) 2) = pL C k (e k + 1) 3 := rfl
  have eA : pL C k (e k + 1) 4 = pL C k (e k) 4 - pL C k (e k) 4 / nI (pN C k - e k) := by
    show aB _ _ (min (e k + 1) _) = aB _ _ (min (e k) _) - aB _ _ (min (e k) _) / _
    rw [eM, eM0]; rfl
  have f := lP0_f (k := k) (Z := Z)
  rw [g0, g1, g2, eN, eW, g3, g4, g5, g6] at f
  have st := pM_step (C := C) (ns := ns) (s := s) he
  refine ⟨fun j hj => ?_, fun q hq => ?_⟩
  · unfold up1
    by_cases ej : j = k
    · subst ej
      rw [if_pos rfl]
      refine ⟨fun i hi => ?_, f.2.2.2.1, ?_, ?_, ?_⟩
      · rcases (show i = 0 ∨ i = 1 ∨ i = 2 by omega) with rfl | rfl | rfl
        · exact f.1
        · exact f.2.1
        · exact f.2.2.1
      · rw [f.2.2.2.2.1, eA]
      · rw [f.2.2.2.2.2.1]
        unfold pr0
        rw [st.1, st.2.2.1, st.2.2.2 7 (by omega) (by omega) (by omega), st.2.2.2 3 (by omega) (by omega) (by omega), st.2.2.2 4 (by omega) (by omega) (by omega), st.2.2.2 8 (by omega) (by omega) (by omega), st.2.2.2 16 (by omega) (by omega) (by omega), st.2.2.2 11 (by omega) (by omega) (by omega), st.2.2.2 9 (by omega) (by omega) (by omega), st.2.2.2 12 (by omega) (by omega) (by omega), st.2.2.2 14 (by omega) (by omega) (by omega), st.2.2.2 10 (by omega) (by omega) (by omega), eA]
        grind
      · rw [f.2.2.2.2.2.2]
        unfold csh
        rw [st.2.1, st.2.2.2 13 (by omega) (by omega) (by omega), st.2.2.2 15 (by omega) (by omega) (by omega), st.2.2.2 16 (by omega) (by omega) (by omega)]
        grind
    · rw [if_neg ej]
      refine ⟨fun i hi => ?_, ?_, ?_, ?_, ?_⟩
      · rw [lP0_u (by omega)]; exact (h.1 j hj).1 i hi
      · rw [lP0_u (by omega)]; exact (h.1 j hj).2.1
      · rw [lP0_u (by omega)]; exact (h.1 j hj).2.2.1
      · rw [lP0_u (by omega)]; exact (h.1 j hj).2.2.2.1
      · rw [lP0_u (by omega)]; exact (h.1 j hj).2.2.2.2
  · refine ⟨fun i hi => ?_, ?_, ?_⟩
    · rw [lP0_u (by omega)]; exact (h.2 q hq).1 i hi
    · rw [lP0_u (by omega)]; exact (h.2 q hq).2.1
    · rw [lP0_u (by omega)]; exact (h.2 q hq).2.2
theorem lPS_at {k q : Nat} {Z : Mem} (hk : k < 8) (hc : Z 226 (4 * q) = nI k ∧ ¬ Z 226 (4 * q + 3) = 0) : lPS k q Z 226 (4 * q + 3) = Z 226 (4 * q + 3) - nI 1 ∧ lPS k q Z 227 (12 + q) = wor (Z 226 (4 * q + 2)) (Z 226 (4 * q + 3) - nI 1) (Z 227 q) ∧ lPS k q Z 224 (27 + k) = Z 224 (27 + k) + (wor (Z 226 (4 * q + 2)) (Z 226 (4 * q + 3) - nI 1) (Z 227 q) - Z 227 (12 + q) + Z 226 (4 * q + 2)) ∧ lPS k q Z 224 (19 + k) = Z 224 (19 + k) + Z 226 (4 * q + 2) := by
  unfold lPS
  rw [if_pos hc]
  refine ⟨?_, ?_, ?_, ?_⟩ <;> simp (disch := omega) only [mset_at, mset_ne]
theorem PG.subl {C Z : Mem} {nl ns k q : Nat} {e s : Nat → Nat} (h : PG C nl ns e s Z) (h8 : nl ≤ 8) (h12 : ns ≤ 12) (hk : k < nl) (hq : q < ns) (hh : C (19 + q) 0 = nI k) (hQ : pQ C q ≤ 60) (hs : s q < pQ C q) : PG C nl ns e (up1 s q) (lPS k q Z) := by
  have hk8 : k < 8 := by omega
  have g0 : Z 226 (4 * q) = C (19 + q) 0 := (h.2 q hq).1 0 (by omega)
  have g2 : Z 226 (4 * q + 2) = C (19 + q) 2 := (h.2 q hq).1 2 (by omega)
  have g3 : Z 226 (4 * q + 3) = nI (pQ C q - s q) := (h.2 q hq).1 3 (by omega)
  have g4 : Z 227 q = C (19 + q) 4 := (h.2 q hq).2.1
  have g5 : Z 227 (12 + q) = pRec C q (s q) := (h.2 q hq).2.2
  have eN : nI (pQ C q - s q) - nI 1 = nI (pQ C q - (s q + 1)) := by rw [pk_sub (by omega)]; rfl
  have hc : Z 226 (4 * q) = nI k ∧ ¬ Z 226 (4 * q + 3) = 0 := ⟨g0.trans hh, by rw [g3]; exact nI_ne0 (by omega) (by omega)⟩
  have at' := lPS_at hk8 hc
  have eR : wor (C (19 + q) 2) (nI (pQ C q - (s q + 1))) (C (19 + q) 4) = pRec C q (s q + 1) := rfl
  have eH : pHad C q (s q + 1) - pHad C q (s q) = C (19 + q) 2 := by
    unfold pHad
    rw [show min (s q + 1) (pQ C q) = min (s q) (pQ C q) + 1 by omega, nI_succ]
    grind
  rw [g2, g3, g4, g5, eN, eR] at at'
  have sm := pM_sub (C := C) (k := k) (e := e k) (s := s) hq hh
  rw [eH] at sm
  refine ⟨fun j hj => ?_, fun j hj => ?_⟩
  · by_cases ej : j = k
    · subst ej
      have hj0 := h.1 j hj
      refine ⟨fun i hi => by rw [lPS_u (by omega)]; exact hj0.1 i hi, by rw [lPS_u (by omega)]; exact hj0.2.1, by rw [lPS_u (by omega)]; exact hj0.2.2.1, ?_, ?_⟩
      · rw [at'.2.2.1, hj0.2.2.2.1]
        unfold pr0
        rw [sm.1, sm.2.2 7 (by omega) (by omega), sm.2.2 3 (by omega) (by omega), sm.2.2 1 (by omega) (by omega), sm.2.2 6 (by omega) (by omega), sm.2.2 4 (by omega) (by omega), sm.2.2 8 (by omega) (by omega), sm.2.2 16 (by omega) (by omega), sm.2.2 11 (by omega) (by omega), sm.2.2 9 (by omega) (by omega), sm.2.2 14 (by omega) (by omega), sm.2.2 10 (by omega) (by omega)]
        grind
      · rw [at'.2.2.2, hj0.2.2.2.2]
        unfold csh
        rw [sm.2.1, sm.2.2 2 (by omega) (by omega), sm.2.2 15 (by omega) (by omega), sm.2.2 16 (by omega) (by omega)]
        grind
    · have hM : ∀ m, pM C ns j (e j) (up1 s q) m = pM C ns j (e j) s m := fun m => pM_oth hk8 (by omega) hh ej
      rw [pr0_c (fun m _ => hM m), csh_c (fun m _ => hM m)]
      have hj0 := h.1 j hj
      exact ⟨fun i hi => by rw [lPS_u (by omega)]; exact hj0.1 i hi, by rw [lPS_u (by omega)]; exact hj0.2.1, by rw [lPS_u (by omega)]; exact hj0.2.2.1, by rw [lPS_u (by omega)]; exact hj0.2.2.2.1, by rw [lPS_u (by omega)]; exact hj0.2.2.2.2⟩
  · have hj0 := h.2 j hj
    by_cases ej : j = q
    · subst ej
      rw [up1_at]
      refine ⟨fun f hf => ?_, by rw [lPS_u (by omega)]; exact hj0.2.1, at'.2.1⟩
      by_cases h3 : f = 3
      · subst h3; exact at'.1
      · rw [lPS_u (by omega), hj0.1 f hf]
        unfold pSb
        rw [if_neg h3, if_neg (by omega), if_neg h3, if_neg (by omega)]
    · rw [up1_ne ej]
      exact ⟨fun f hf => by rw [lPS_u (by omega)]; exact hj0.1 f hf, by rw [lPS_u (by omega)]; exact hj0.2.1, by rw [lPS_u (by omega)]; exact hj0.2.2⟩
theorem PG.subs {C Z : Mem} {nl ns k : Nat} {e s : Nat → Nat} (h : PG C nl ns e s Z) (h8 : nl ≤ 8) (h12 : ns ≤ 12) (hk : k < nl) (hQ : ∀ q, q < ns → pQ C q ≤ 60) : ∀ i, i ≤ ns → PG C nl ns e (upS C k i s) (lPSub k Z i)
  | 0, _ => by rw [upS_0]; exact h
  | i + 1, hi => by
    have ih := PG.subs h h8 h12 hk hQ i (by omega)
    have g0 : lPSub k Z i 226 (4 * i) = C (19 + i) 0 := (ih.2 i (by omega)).1 0 (by omega)
    have g3 : lPSub k Z i 226 (4 * i + 3) = nI (pQ C i - s i) := ((ih.2 i (by omega)).1 3 (by omega)).trans (by rw [upS_i]; rfl)
    show PG C nl ns e (upS C k (i + 1) s) (lPS k i (lPSub k Z i))
    by_cases hh : C (19 + i) 0 = nI k
    · rw [← upS_t hh]
      by_cases hs : s i < pQ C i
      · exact ih.subl h8 h12 hk (by omega) hh (hQ i (by omega)) (by rw [upS_i]; exact hs)
      · have e1 : lPS k i (lPSub k Z i) = lPSub k Z i := by
          unfold lPS
          rw [if_neg]
          rintro ⟨_, z⟩
          rw [g3, show pQ C i - s i = 0 by omega] at z
          exact z rfl
        rw [e1]
        exact PG.overS ih (by rw [upS_i]; omega)
    · rw [upS_f hh]
      have e1 : lPS k i (lPSub k Z i) = lPSub k Z i := by
        unfold lPS
        rw [if_neg]
        rintro ⟨z, _⟩
        rw [g0] at z
        exact hh z
      rw [e1]
      exact ih
theorem PG.overSs {C Z : Mem} {nl ns k : Nat} {e s : Nat → Nat} (h : PG C nl ns e s Z) (ho : ∀ q, q < ns → C (19 + q) 0 = nI k → pQ C q ≤ s q) : ∀ i, i ≤ ns → PG C nl ns e (upS C k i s) Z
  | 0, _ => by rw [upS_0]; exact h
  | i + 1, hi => by
    have ih := PG.overSs h ho i (by omega)
    by_cases hh : C (19 + i) 0 = nI k
    · rw [← upS_t hh]; exact PG.overS ih (by rw [upS_i]; exact ho i (by omega) hh)
    · rw [upS_f hh]; exact ih
theorem PG.pl {C Z : Mem} {nl ns k : Nat} {e s : Nat → Nat} (h : PG C nl ns e s Z) (h8 : nl ≤ 8) (h12 : ns ≤ 12) (hk : k < nl) (hN : pN C k ≤ 60) (hQ : ∀ q, q < ns → pQ C q ≤ 60) (ho : pN C k ≤ e k → ∀ q, q < ns → C (19 + q) 0 = nI k → pQ C q ≤ s q) : PG C nl ns (up1 e k) (upS C k ns s) (lPL k ns Z) := by
  have g1 : Z 225 (3 * k + 1) = nI (pN C k - e k) := (h.1 k hk).1 1 (by omega)
  unfold lPL
  by_cases he : e k < pN C k
  · rw [if_neg (by rw [g1]; exact nI_ne0 (by omega) (by omega))]
    exact (h.lease h8 h12 hk hN he).subs h8 h12 hk hQ ns (Nat.le_refl _)
  · rw [if_pos (by rw [g1, show pN C k - e k = 0 by omega]; rfl)]
    exact PG.overSs (PG.over h (by omega)) (ho (by omega)) ns (Nat.le_refl _)
theorem PG.all {C Z : Mem} {nl ns j : Nat} (h : PG C nl ns (fun _ => j) (fun _ => j) Z) (h8 : nl ≤ 8) (h12 : ns ≤ 12) (hh : hdR nl ns C) (hN : ∀ k, k < nl → pN C k ≤ 60) (hQ : ∀ q, q < ns → pQ C q ≤ 60) (hP : ∀ q, q < ns → pQ C q ≤ pN C (pH C q)) : ∀ k, k ≤ nl → PG C nl ns (eK k j) (sK C k j) (lPAll ns Z k)
  | 0, _ => PG.congr h (fun k _ => by unfold eK; rw [if_neg (by omega)]) (fun q _ => by unfold sK; rw [if_neg (by omega)])
  | k + 1, hk => by
    have ih := PG.all h h8 h12 hh hN hQ hP k (by omega)
    have st := ih.pl h8 h12 (by omega) (hN k (by omega)) hQ (fun he q hq hq2 => by
      have p1 := pH_of hh h8 hq
      have e1 : pH C q = k := (nI_eq (by omega) (by omega)).mp (p1.2.symm.trans hq2)
      have p2 := hP q hq
      unfold eK at he
      rw [if_neg (by omega)] at he
      unfold sK
      rw [if_neg (by omega)]
      rw [e1] at p2
      omega)
    refine PG.congr st (fun i hi => ?_) (fun q hq => ?_)
    · unfold up1 eK
      by_cases e : i = k
      · subst e; rw [if_pos (by omega), if_pos rfl, if_neg (by omega)]
      · rw [if_neg e]
        by_cases e2 : i < k
        · rw [if_pos (by omega), if_pos e2]
        · rw [if_neg (by omega), if_neg e2]
    · have p1 := pH_of hh h8 hq
      unfold upS sK
      by_cases e : pH C q = k
      · rw [if_pos (by omega), if_pos ⟨hq, by rw [p1.2, e]⟩, if_neg (by omega)]
      · have n1 : ¬ (q < ns ∧ C (19 + q) 0 = nI k) := fun z => e ((nI_eq (by omega) (by omega)).mp (p1.2.symm.trans z.2))
        by_cases e2 : pH C q < k
        · rw [if_pos (show pH C q < k + 1 by omega), if_neg n1, if_pos e2]
        · rw [if_neg (show ¬ pH C q < k + 1 by omega), if_neg n1, if_neg e2]
theorem PG.pass {C Z : Mem} {nl ns : Nat} (h : PG C nl ns (fun _ => 0) (fun _ => 0) Z) (h8 : nl ≤ 8) (h12 : ns ≤ 12) (hh : hdR nl ns C) (hN : ∀ k, k < nl → pN C k ≤ 60) (hQ : ∀ q, q < ns → pQ C q ≤ 60) (hP : ∀ q, q < ns → pQ C q ≤ pN C (pH C q)) : ∀ j, PG C nl ns (fun _ => j) (fun _ => j) (lPass nl ns Z j)
  | 0 => h
  | j + 1 => PG.congr ((PG.pass h h8 h12 hh hN hQ hP j).all h8 h12 hh hN hQ hP nl (Nat.le_refl _)) (fun k hk => by unfold eK; rw [if_pos hk]) (fun q hq => by unfold sK; rw [if_pos (pH_of hh h8 hq).1])
theorem VI.pg {nl ns : Nat} {C Z : Mem} (h : VI nl ns C) (hL : Lw nl ns C Z) (j : Nat) : PG C nl ns (fun _ => j) (fun _ => j) (lPass nl ns Z j) :=
  (PG.of hL h.pc).pass h.1.1.2 h.1.2.1.2 h.1.2.2.2.2.1 (fun k hk => (h.N hk).2) (fun q hq => (h.Q hq).2) (fun q hq => h.P hq) j
theorem Lw.pass {nl ns d : Nat} {C Z : Mem} (h : Lw nl ns C Z) (hV : VI nl ns C) (hd : d ≤ 2000) : Lw nl ns (cPassSt nl ns d C) (lPass nl ns Z d) :=
  PG.lw (hV.passC hd) (hV.pg h d)
