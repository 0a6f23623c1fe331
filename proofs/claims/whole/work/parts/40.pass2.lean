/-! PASSING: all leases, all steps -/
def upS (C : Mem) (k i : Nat) (s : Nat → Nat) : Nat → Nat := fun q => if q < i ∧ C (19 + q) 0 = nI k then s q + 1 else s q
theorem PF.congr {C : Mem} {nl ns : Nat} {e e' s s' : Nat → Nat} {lf mf sf : Nat → Nat → Int32} (h : PF C nl ns e s lf mf sf) (he : ∀ k, k < nl → e' k = e k) (hs : ∀ q, q < ns → s' q = s q) : PF C nl ns e' s' lf mf sf :=
  ⟨fun k hk => ⟨fun f hf => by rw [he k hk]; exact (h.1 k hk).1 f hf, fun m hm => by
    rw [he k hk, pM_up (s := s) (s' := s') (fun q hq _ => by rw [hs q hq]; exact ⟨rfl, rfl⟩)]
    exact (h.1 k hk).2 m hm⟩, fun q hq f hf => by rw [hs q hq]; exact h.2 q hq f hf⟩
theorem upS_0 {C : Mem} {k : Nat} {s : Nat → Nat} : upS C k 0 s = s := by funext q; unfold upS; rw [if_neg (by omega)]
theorem upS_t {C : Mem} {k i : Nat} {s : Nat → Nat} (h : C (19 + i) 0 = nI k) : up1 (upS C k i s) i = upS C k (i + 1) s := by
  funext q
  unfold up1 upS
  by_cases e : q = i
  · subst e; rw [if_pos rfl, if_neg (by omega), if_pos ⟨by omega, h⟩]
  · rw [if_neg e]
    by_cases h2 : q < i ∧ C (19 + q) 0 = nI k
    · rw [if_pos h2, if_pos ⟨by omega, h2.2⟩]
    · rw [if_neg h2, if_neg (fun z => h2 ⟨by omega, z.2⟩)]
theorem upS_f {C : Mem} {k i : Nat} {s : Nat → Nat} (h : ¬ C (19 + i) 0 = nI k) : upS C k (i + 1) s = upS C k i s := by
  funext q
  unfold upS
  by_cases h2 : q < i ∧ C (19 + q) 0 = nI k
  · rw [if_pos h2, if_pos ⟨by omega, h2.2⟩]
  · rw [if_neg h2, if_neg (fun z => h2 ⟨by rcases Nat.lt_or_ge q i with a | a; (· exact a); (· exact absurd z.2 (by rw [show q = i by omega]; exact h)), z.2⟩)]
theorem upS_i {C : Mem} {k i : Nat} {s : Nat → Nat} : upS C k i s i = s i := by unfold upS; rw [if_neg (by omega)]
theorem PZ.subs {C Z : Mem} {nl ns k : Nat} {e s : Nat → Nat} (h : PZ C nl ns e s Z) (h8 : nl ≤ 8) (hk : k < nl) (hQ : ∀ q, q < ns → pQ C q ≤ 60) : ∀ i, i ≤ ns → PZ C nl ns e (upS C k i s) (rPSub k Z i)
  | 0, _ => by rw [upS_0]; exact h
  | i + 1, hi => by
    have ih := PZ.subs h h8 hk hQ i (by omega)
    have g0 : rPSub k Z i 225 (179 + 6 * i) = C (19 + i) 0 := ih.2 i (by omega) 0 (by omega)
    have g3 : rPSub k Z i 225 (179 + 6 * i + 3) = nI (pQ C i - s i) := (ih.2 i (by omega) 3 (by omega)).trans (by rw [upS_i]; rfl)
    show PZ C nl ns e (upS C k (i + 1) s) (rPSubS k i (rPSub k Z i))
    by_cases hh : C (19 + i) 0 = nI k
    · rw [← upS_t hh]
      by_cases hs : s i < pQ C i
      · exact ih.subl h8 hk (by omega) hh (hQ i (by omega)) (by rw [upS_i]; exact hs)
      · have e1 : rPSubS k i (rPSub k Z i) = rPSub k Z i := by
          unfold rPSubS
          rw [if_neg]
          rintro ⟨_, z⟩
          rw [g3, show pQ C i - s i = 0 by omega] at z
          exact absurd z (by decide)
        rw [e1]
        exact PF.overS ih (by rw [upS_i]; omega)
    · rw [upS_f hh]
      have e1 : rPSubS k i (rPSub k Z i) = rPSub k Z i := by
        unfold rPSubS
        rw [if_neg]
        rintro ⟨z, _⟩
        rw [g0] at z
        exact hh z
      rw [e1]
      exact ih
theorem PF.overSs {C : Mem} {nl ns k : Nat} {e s : Nat → Nat} {lf mf sf : Nat → Nat → Int32} (h : PF C nl ns e s lf mf sf) (ho : ∀ q, q < ns → C (19 + q) 0 = nI k → pQ C q ≤ s q) : ∀ i, i ≤ ns → PF C nl ns e (upS C k i s) lf mf sf
  | 0, _ => by rw [upS_0]; exact h
  | i + 1, hi => by
    have ih := PF.overSs h ho i (by omega)
    by_cases hh : C (19 + i) 0 = nI k
    · rw [← upS_t hh]; exact PF.overS ih (by rw [upS_i]; exact ho i (by omega) hh)
    · rw [upS_f hh]; exact ih
theorem PZ.pl {C Z : Mem} {nl ns k : Nat} {e s : Nat → Nat} (h : PZ C nl ns e s Z) (h8 : nl ≤ 8) (hk : k < nl) (hN : pN C k ≤ 60) (hQ : ∀ q, q < ns → pQ C q ≤ 60) (ho : pN C k ≤ e k → ∀ q, q < ns → C (19 + q) 0 = nI k → pQ C q ≤ s q) : PZ C nl ns (up1 e k) (upS C k ns s) (rPL k ns Z) := by
  have g1 : Z 225 (3 + 22 * k + 1) = nI (pN C k - e k) := (h.1 k hk).1 1 (by omega)
  unfold rPL
  by_cases he : e k < pN C k
  · rw [if_pos (by rw [g1]; exact Int32.not_le.mp (nI_nle (by omega) (by omega)))]
    exact (h.lease h8 hk hN he).subs h8 hk hQ ns (Nat.le_refl _)
  · rw [if_neg (by rw [g1, show pN C k - e k = 0 by omega]; decide)]
    exact PF.overSs (PF.over h (by omega)) (ho (by omega)) ns (Nat.le_refl _)
/-- the lease above sublease q -/
def pH (C : Mem) (q : Nat) : Nat := (C (19 + q) 0).toNatClampNeg
def eK (k j : Nat) : Nat → Nat := fun i => if i < k then j + 1 else j
def sK (C : Mem) (k j : Nat) : Nat → Nat := fun q => if pH C q < k then j + 1 else j
theorem pH_of {C : Mem} {nl ns q : Nat} (hh : hdR nl ns C) (h8 : nl ≤ 8) (hq : q < ns) : pH C q < nl ∧ C (19 + q) 0 = nI (pH C q) := by
  obtain ⟨k, hk, e⟩ := hh q hq
  have e2 : pH C q = k := by unfold pH; rw [e]; exact nI_clN (by omega)
  rw [e2]
  exact ⟨hk, e⟩
theorem PZ.all {C Z : Mem} {nl ns j : Nat} (h : PZ C nl ns (fun _ => j) (fun _ => j) Z) (h8 : nl ≤ 8) (hh : hdR nl ns C) (hN : ∀ k, k < nl → pN C k ≤ 60) (hQ : ∀ q, q < ns → pQ C q ≤ 60) (hP : ∀ q, q < ns → pQ C q ≤ pN C (pH C q)) : ∀ k, k ≤ nl → PZ C nl ns (eK k j) (sK C k j) (rPAll ns Z k)
  | 0, _ => PF.congr h (fun k _ => by unfold eK; rw [if_neg (by omega)]) (fun q _ => by unfold sK; rw [if_neg (by omega)])
  | k + 1, hk => by
    have ih := PZ.all h h8 hh hN hQ hP k (by omega)
    have st := ih.pl h8 (by omega) (hN k (by omega)) hQ (fun he q hq hq2 => by
      have p1 := pH_of hh h8 hq
      have e1 : pH C q = k := (nI_eq (by omega) (by omega)).mp (p1.2.symm.trans hq2)
      have p2 := hP q hq
      unfold eK at he
      rw [if_neg (by omega)] at he
      unfold sK
      rw [if_neg (by omega)]
      rw [e1] at p2
      omega)
    refine PF.congr st (fun i hi => ?_) (fun q hq => ?_)
    · unfold up1 eK
      by_cases e : i = k
      · subst e; rw [if_pos (by omega), if_pos rfl, if_neg (by omega)]
      · rw [if_neg e]
        by_cases e2 : i < k
        · rw [if_pos (by omega), if_pos e2]
        · rw [if_neg (by omega), if_neg e2]
    · have p1 := pH_of hh h8 hq
      unfold upS sK
      by_cases e : pH C q = k
      · rw [if_pos (by omega), if_pos ⟨hq, by rw [p1.2, e]⟩, if_neg (by omega)]
      · have n1 : ¬ (q < ns ∧ C (19 + q) 0 = nI k) := fun z => e ((nI_eq (by omega) (by omega)).mp (p1.2.symm.trans z.2))
        by_cases e2 : pH C q < k
        · rw [if_pos (show pH C q < k + 1 by omega), if_neg n1, if_pos e2]
        · rw [if_neg (show ¬ pH C q < k + 1 by omega), if_neg n1, if_neg e2]
theorem PZ.pass {C Z : Mem} {nl ns : Nat} (h : PZ C nl ns (fun _ => 0) (fun _ => 0) Z) (h8 : nl ≤ 8) (hh : hdR nl ns C) (hN : ∀ k, k < nl → pN C k ≤ 60) (hQ : ∀ q, q < ns → pQ C q ≤ 60) (hP : ∀ q, q < ns → pQ C q ≤ pN C (pH C q)) : ∀ j, PZ C nl ns (fun _ => j) (fun _ => j) (rPass nl ns Z j)
  | 0 => h
  | j + 1 => PF.congr ((PZ.pass h h8 hh hN hQ hP j).all h8 hh hN hQ hP nl (Nat.le_refl _)) (fun k hk => by unfold eK; rw [if_pos hk]) (fun q hq => by unfold sK; rw [if_pos (pH_of hh h8 hq).1])
