/-! THE LAW'S STEPS -/
def IV (nl ns o n : Nat) (V : Mem) : Prop := TI nl ns V ∧ HI o n V ∧ SM ns V
/-- what holds ahead of turn t -/
def IVT (t : Nat) (V : Mem) : Prop := ∃ nl ns o n pd : Nat, IV nl ns o n V ∧ V 0 4 = nI pd ∧ pd ≤ 20 * t ∧ (t = 0 → nl = 0) ∧ (0 < t → 0 < n)
theorem KC.cg {nl ns : Nat} {Z Z' : Mem} (h : KC nl ns Z) (h8 : nl ≤ 8) (h12 : ns ≤ 12) (e : ∀ a b, 224 ≤ a → a < 228 → ¬ (a = 224 ∧ b < 3) → Z' a b = Z a b) : KC nl ns Z' := by
  intro k hk
  rw [lOf5_c (Z := Z) (fun q hq => e _ _ (by omega) (by omega) (by omega)) (fun q hq _ => e _ _ (by omega) (by omega) (by omega)), e 224 (27 + k) (by omega) (by omega) (by omega), e 224 (11 + k) (by omega) (by omega) (by omega), e 224 (3 + k) (by omega) (by omega) (by omega), e 224 (19 + k) (by omega) (by omega) (by omega)]
  exact h k hk
theorem hi_row {o n : Nat} {V V' : Mem} (h : HI o n V) (e : V' 217 = V 217) : HI o n V' := by
  unfold HI
  rw [e]; exact h
theorem hi_save {o n nl ns : Nat} {V : Mem} (h : HI o n V) (h8 : nl ≤ 8) (h12 : ns ≤ 12) : ∃ o' n', 0 < n' ∧ HI o' n' (cSave o n nl ns V) := by
  obtain ⟨a1, a2, a3, a4⟩ := h
  unfold cSave
  by_cases e : n = 6
  · rw [if_pos e]
    refine ⟨(o + 1) % 6, 6, by omega, ?_⟩
    unfold hSave6 hSave
    refine ⟨?_, Nat.mod_lt _ (by omega), by rw [mset_at], by omega⟩
    rw [mset_ne (by omega), cpySt_o h8 h12 (by unfold slR; omega), mset_ne (by omega), mset_at]
  · rw [if_neg e]
    refine ⟨o, n + 1, by omega, ?_⟩
    unfold hSave
    refine ⟨?_, a2, by rw [mset_at], by omega⟩
    rw [mset_ne (by omega), cpySt_o h8 h12 (by unfold slR; omega)]
    exact a1
/-! frames of the register -/
theorem lAdd_fr {k : Nat} {p n r c : Int32} {V : Mem} : (∀ a b, a < 224 → lAdd k p n r c V a b = V a b) ∧ lAdd k p n r c V 224 0 = V 224 0 + nI 1 ∧ lAdd k p n r c V 224 1 = V 224 1 ∧ lAdd k p n r c V 224 2 = V 224 2 := by
  refine ⟨fun a b h => ?_, ?_, ?_, ?_⟩ <;> (unfold lAdd; simp (disch := omega) only [mset_at, mset_ne])
theorem lMeas_fr {k ns : Nat} {p n r : Int32} {V : Mem} : (∀ a b, a < 224 ∨ (a = 224 ∧ b < 3) → lMeas k p n r ns V a b = V a b) ∧ lMeas k p n r ns V 224 (3 + k) = wor p n r := by
  refine ⟨fun a b h => ?_, ?_⟩
  · unfold lMeas; rw [lCut_u ns (by omega), lMeas0_u (by omega)]
  · unfold lMeas; rw [lCut_u ns (by omega)]; unfold lMeas0; simp (disch := omega) only [mset_at, mset_ne]
theorem lEnd_fr {k : Nat} {t fee : Int32} {V : Mem} {a b : Nat} (h : a < 224 ∨ (a = 224 ∧ b < 3)) : lEnd k t fee V a b = V a b := by
  unfold lEnd; simp (disch := omega) only [mset_ne]
theorem lImp_fr {k : Nat} {x : Int32} {V : Mem} {a b : Nat} (h : a < 224 ∨ (a = 224 ∧ b < 3)) : lImp k x V a b = V a b := by
  unfold lImp; simp (disch := omega) only [mset_ne]
theorem lSubl_fr {k ns : Nat} {t rc n : Int32} {V : Mem} : (∀ a b, a < 224 → lSubl k ns t rc n V a b = V a b) ∧ lSubl k ns t rc n V 224 0 = V 224 0 ∧ lSubl k ns t rc n V 224 1 = V 224 1 + nI 1 ∧ lSubl k ns t rc n V 224 2 = V 224 2 := by
  refine ⟨fun a b h => ?_, ?_, ?_, ?_⟩ <;> (unfold lSubl; simp (disch := omega) only [mset_at, mset_ne])
theorem lPL_fr {k ns : Nat} {V : Mem} {a b : Nat} (h : a < 224 ∨ (a = 224 ∧ b < 3)) : lPL k ns V a b = V a b := by
  unfold lPL
  split
  · rfl
  · rw [lPSub_u ns (by omega), lP0_u (by omega)]
theorem lPAll_fr {ns : Nat} {V : Mem} {a b : Nat} (h : a < 224 ∨ (a = 224 ∧ b < 3)) : ∀ k, lPAll ns V k a b = V a b
  | 0 => rfl
  | k + 1 => (lPL_fr h).trans (lPAll_fr h k)
theorem lPass_fr {nl ns : Nat} {V : Mem} {a b : Nat} (h : a < 224 ∨ (a = 224 ∧ b < 3)) : ∀ j, lPass nl ns V j a b = V a b
  | 0 => rfl
  | j + 1 => (lPAll_fr h nl).trans (lPass_fr h j)
/-! what the worths are asked with -/
theorem TI.sok {nl ns : Nat} {V : Mem} (h : TI nl ns V) (hS : SM ns V) : Sok ns V := fun q hq => ⟨by rw [h.2.1.s hq (by omega)]; exact hS q hq, by rw [h.2.1.s hq (by omega)]; exact (h.1.2.2.1 q hq).1, by rw [h.2.1.rt hq]; exact h.1.1.2.2.2.2.2 q hq⟩
theorem PG.ok {C Z : Mem} {nl ns : Nat} {e s : Nat → Nat} (h : PG C nl ns e s Z) (hV : VI nl ns C) (hS : SM ns C) : Sok ns Z ∧ Lok nl Z := by
  refine ⟨fun q hq => ?_, fun k hk => ?_⟩
  · have hh := h.2 q hq
    have hQ := (hV.Q hq).2
    refine ⟨by rw [hh.1 2 (by omega)]; exact hS q hq, ?_, by rw [hh.2.1]; exact hV.1.2.2.2.2.2 q hq⟩
    rw [hh.1 3 (by omega)]
    exact ⟨nI_le (by omega) (by omega), nI_le (by omega) (by omega)⟩
  · have hh := h.1 k hk
    have hN := (hV.N hk).2
    refine ⟨by rw [show Z 225 (3 * k) = C (3 + k) 0 from hh.1 0 (by omega)]; exact (hV.2.1 k hk).1, ?_, by rw [hh.1 2 (by omega)]; exact hV.1.2.2.2.1 k hk⟩
    rw [hh.1 1 (by omega)]
    exact ⟨nI_le (by omega) (by omega), nI_le (by omega) (by omega)⟩
section
variable {nl ns o n : Nat} {V Va : Mem}
theorem IV.h8 (h : IV nl ns o n V) : nl ≤ 8 := h.1.1.1.1.2
theorem IV.h12 (h : IV nl ns o n V) : ns ≤ 12 := h.1.1.1.2.1.2
theorem IV.va (h : IV nl ns o n V) (e : ∀ a b, a < 224 → Va a b = V a b) : VI nl ns Va ∧ HI o n Va ∧ SM ns Va := by
  have h8 := h.h8
  have h12 := h.h12
  exact ⟨h.1.1.rows (fun r hr => funext fun b => e r b (by omega)), hi_row h.2.1 (funext fun b => e 217 b (by omega)), h.2.2.same (fun q hq => e _ _ (by omega))⟩
/-- the class has saved, the register is as it was -/
theorem IV.lw (h : IV nl ns o n V) (e : ∀ a b, a < 224 → Va a b = V a b) : Lw nl ns (cSave o n nl ns Va) V :=
  h.1.2.1.rows h.h8 h.h12 (fun r h1 h2 => by rw [cSave_o h.h8 h.h12 (Or.inl h2)]; exact funext fun b => e r b (by omega)) (fun _ _ _ _ _ => rfl)
/-- a change is done on both sides -/
theorem IVT.mk {t nl' ns' pd : Nat} {V2 : Mem} (h : IV nl ns o n V) (e : ∀ a b, a < 224 → Va a b = V a b) (e1 : V2 217 = cSave o n nl ns Va 217)
    (hV : VI nl' ns' V2) (hL : Lw nl' ns' V2 V2) (hK : KC nl' ns' V2) (hS : SM ns' V2) (z0 : V2 224 0 = nI nl') (z1 : V2 224 1 = nI ns') (z2 : V2 224 2 = V2 0 4) (zp : V2 0 4 = nI pd) (hp : pd ≤ 20 * (t + 1)) : IVT (t + 1) V2 := by
  obtain ⟨o', n', h1, h2⟩ := hi_save (nl := nl) (ns := ns) (h.va e).2.1 h.h8 h.h12
  exact ⟨nl', ns', o', n', pd, ⟨⟨hV, hL, hK, z0, z1, z2⟩, hi_row h2 e1, hS⟩, zp, hp, fun q => absurd q (by omega), fun _ => h1⟩
end
