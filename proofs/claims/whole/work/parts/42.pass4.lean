/-! PASSING: both sides -/
theorem PC.subs {C D : Mem} {nl ns d : Nat} {e : Nat → Nat} (h : PC C nl ns e (fun _ => 0) D) (h8 : nl ≤ 8) (hh : hdR nl ns C) (hQ : ∀ q, q < ns → pQ C q ≤ 60) (hd : d ≤ 2000) : ∀ i, i ≤ ns → PC C nl ns e (fun q => if q < i then d else 0) (cPSs (nI d) D i)
  | 0, _ => PF.congr h (fun _ _ => rfl) (fun k _ => by rw [if_neg (by omega)])
  | i + 1, hi => by
    have ih := PC.subs h h8 hh hQ hd i (by omega)
    have p1 := pH_of hh h8 (show i < ns by omega)
    have g0 : cPSs (nI d) D i (19 + i) 0 = C (19 + i) 0 := ih.2 i (by omega) 0 (by omega)
    show PC C nl ns e _ (sPass (19 + i) (3 + (cPSs (nI d) D i (19 + i) 0).toNatClampNeg) (nI d) (cPSs (nI d) D i))
    rw [g0]
    refine PF.congr (ih.subl (k := pH C i) (d := d) h8 p1.1 (by omega) p1.2 (hQ i (by omega)) hd (by show (if i < i then d else 0) = 0; rw [if_neg (by omega)])) (fun _ _ => rfl) (fun q _ => ?_)
    unfold st1
    by_cases e1 : q = i
    · subst e1; rw [if_pos (by omega), if_pos rfl]
    · rw [if_neg e1]
      by_cases e2 : q < i
      · rw [if_pos (show q < i + 1 by omega)]; exact (if_pos e2).symm
      · rw [if_neg (show ¬ q < i + 1 by omega)]; exact (if_neg e2).symm
theorem sF_zero {c : Nat → Bool} {f : Nat → Int32} : ∀ n, (∀ q, q < n → f q = 0) → sF c f n = 0
  | 0, _ => rfl
  | n + 1, h => by
    rw [sF, sF_zero n (fun q hq => h q (by omega)), h n (by omega)]
    split
    · exact Int32.add_zero 0
    · rfl
/-- the lives of a state: what passing needs -/
def VI (nl ns : Nat) (C : Mem) : Prop := CI nl ns C ∧ LI nl C ∧ SI ns C ∧ PSI nl ns C
theorem VI.N {nl ns k : Nat} {C : Mem} (h : VI nl ns C) (hk : k < nl) : C (3 + k) 1 = nI (pN C k) ∧ pN C k ≤ 60 := nI_cl (h.1.2.2.1 k hk) (by omega)
theorem VI.Q {nl ns q : Nat} {C : Mem} (h : VI nl ns C) (hq : q < ns) : C (19 + q) 3 = nI (pQ C q) ∧ pQ C q ≤ 60 := nI_cl (h.2.2.1 q hq).1 (by omega)
theorem VI.P {nl ns q : Nat} {C : Mem} (h : VI nl ns C) (hq : q < ns) : pQ C q ≤ pN C (pH C q) := by
  have p1 := pH_of h.1.2.2.2.2.1 h.1.1.2 hq
  have p2 := h.2.2.2 q hq (pH C q) p1.1 p1.2
  have q1 := h.Q hq
  have q2 := h.N p1.1
  rw [q1.1, q2.1] at p2
  exact i_ge (by omega) (by omega) p2
theorem VI.pc {nl ns : Nat} {C : Mem} (h : VI nl ns C) : PC C nl ns (fun _ => 0) (fun _ => 0) C := by
  refine ⟨fun k hk => ⟨fun f hf => ?_, fun m hm => ?_⟩, fun q hq f hf => ?_⟩
  · have n1 := h.N hk
    rcases (show f = 0 ∨ f = 1 ∨ f = 2 ∨ f = 3 ∨ f = 4 by omega) with rfl | rfl | rfl | rfl | rfl
    · rfl
    · exact n1.1
    · rfl
    · show C (3 + k) 3 = wor (C (3 + k) 0) (nI (pN C k)) (C (3 + k) 2)
      rw [← n1.1]; exact (h.2.1 k hk).2
    · show C (3 + k) 4 = aB (C (3 + k) 4) (pN C k) (min 0 (pN C k))
      rw [Nat.zero_min]; rfl
  · have n1 := h.N hk
    have e3 : pL C k 0 3 = C (3 + k) 3 := by
      show wor (C (3 + k) 0) (nI (pN C k)) (C (3 + k) 2) = _
      rw [← n1.1]; exact (h.2.1 k hk).2.symm
    have e4 : pL C k 0 4 = C (3 + k) 4 := by
      show aB (C (3 + k) 4) (pN C k) (min 0 (pN C k)) = _
      rw [Nat.zero_min]; rfl
    have z0 : C (3 + k) 0 * nI (min 0 (pN C k)) = 0 := by rw [Nat.zero_min]; exact Int32.mul_zero
    have zh : ∀ q, pHad C q 0 = 0 := fun q => by show C (19 + q) 2 * nI (min 0 (pQ C q)) = 0; rw [Nat.zero_min]; exact Int32.mul_zero
    have zr : ∀ q, q < ns → pRec C q 0 - C (19 + q) 5 + pHad C q 0 = 0 := fun q hq => by
      have q1 := h.Q hq
      have q2 : pRec C q 0 = C (19 + q) 5 := by
        show wor (C (19 + q) 2) (nI (pQ C q)) (C (19 + q) 4) = _
        rw [← q1.1]; exact (h.2.2.1 q hq).2.symm
      rw [q2, zh]; grind
    show C (3 + k + 8) m = pM C ns k 0 (fun _ => 0) m
    unfold pM
    split
    · rename_i e; subst e; rw [e3, z0]; grind
    · split
      · rename_i e; subst e; rw [z0]; grind
      · split
        · rename_i e; subst e; rw [e4]; grind
        · split
          · rename_i e; subst e; rw [sF_zero ns zr]; grind
          · split
            · rename_i e; subst e; rw [sF_zero ns (fun q _ => zh q)]; grind
            · rfl
  · have q1 := h.Q hq
    show C (19 + q) f = pSb C q 0 f
    unfold pSb
    split
    · rename_i e; subst e; exact q1.1
    · split
      · rename_i e; subst e
        show C (19 + q) 5 = wor (C (19 + q) 2) (nI (pQ C q)) (C (19 + q) 4)
        rw [← q1.1]; exact (h.2.2.1 q hq).2
      · rfl
theorem PC.row {C D D' : Mem} {nl ns : Nat} {e s : Nat → Nat} (h : PC C nl ns e s D) (h8 : nl ≤ 8) (h12 : ns ≤ 12) (er : ∀ r, 2 < r → r < 31 → D' r = D r) : PC C nl ns e s D' :=
  ⟨fun k hk => ⟨fun f hf => by show D' (3 + k) f = _; rw [er _ (by omega) (by omega)]; exact (h.1 k hk).1 f hf, fun m hm => by show D' (3 + k + 8) m = _; rw [er _ (by omega) (by omega)]; exact (h.1 k hk).2 m hm⟩, fun q hq f hf => by show D' (19 + q) f = _; rw [er _ (by omega) (by omega)]; exact h.2 q hq f hf⟩
theorem Rl.pz {C Z : Mem} {nl ns : Nat} {e s : Nat → Nat} (h : Rl nl ns C Z) (hp : PC C nl ns e s C) : PZ C nl ns e s Z :=
  ⟨fun k hk => ⟨fun f hf => (h.f hk hf).trans ((hp.1 k hk).1 f hf), fun m hm => (h.m hk hm).trans ((hp.1 k hk).2 m hm)⟩, fun q hq f hf => (h.s hq hf).trans (hp.2 q hq f hf)⟩
theorem VI.passC {nl ns d : Nat} {C : Mem} (h : VI nl ns C) (hd : d ≤ 2000) : PC C nl ns (fun _ => d) (fun _ => d) (cPassSt nl ns d C) := by
  have h8 := h.1.1.2
  have h12 := h.1.2.1.2
  have h1 := (h.pc.row (D' := mset C 0 4 (C 0 4 + nI d)) h8 h12 (fun r hr _ => mset_o (by omega))).leases (d := d) h8 (fun k hk => (h.N hk).2) hd nl (Nat.le_refl _)
  have h2 := h1.subs (d := d) h8 h.1.2.2.2.2.1 (fun q hq => (h.Q hq).2) hd ns (Nat.le_refl _)
  exact PF.congr h2 (fun k hk => (if_pos hk).symm) (fun q hq => (if_pos hq).symm)
theorem Rl.pass {nl ns d : Nat} {C Z : Mem} (h : Rl nl ns C Z) (hV : VI nl ns C) (hd : d ≤ 2000) : Rl nl ns (cPassSt nl ns d C) (rPass nl ns Z d) :=
  PF.rl (hV.passC hd) ((h.pz hV.pc).pass hV.1.1.2 hV.1.2.2.2.2.1 (fun k hk => (hV.N hk).2) (fun q hq => (hV.Q hq).2) (fun q hq => hV.P hq) d)
