/-! THE INVARIANT of the law's loop -/
def IV (nl ns o n bm : Nat) (V : Mem) : Prop := VI nl ns V ∧ Rl nl ns V V ∧ HI o n V ∧ HR o n V V ∧ GM V ∧ V 224 3 = nI n ∧ V 219 1 = nI bm ∧ V 224 5 = nI bm ∧ bm ≤ 60 ∧ V 220 = V 228 ∧ rateR (V 222 2) ∧ V 225 0 = nI nl ∧ V 225 1 = nI ns ∧ V 225 2 = V 0 4
theorem th_o {c a : Nat} {V : Mem} (h : a ≠ 224) : thr c V a = V a := mset_o h
theorem th_ne {c b : Nat} {V : Mem} (h : b ≠ 6) : thr c V 224 b = V 224 b := mset_ne (by omega)
theorem th_6 {c : Nat} {V : Mem} : thr c V 224 6 = nI c := mset_at _ _ _ _
theorem HR.cg {o n : Nat} {S S' Z Z' : Mem} (h : HR o n S Z) (e1 : ∀ r, 31 ≤ r → r < 217 → S' r = S r) (e2 : Z' 226 = Z 226) : HR o n S' Z' := fun a ha => by
  obtain ⟨l1, s1, hr⟩ := h a ha
  have b := slR_b (o := o) (a := a)
  exact ⟨l1, s1, hr.row (fun r h1 h2 => e1 r (by omega) (by omega)) (fun i hi => by show Z' 226 _ = Z 226 _; rw [e2])⟩
theorem IV.keep {nl ns o n bm : Nat} {V V' : Mem} (h : IV nl ns o n bm V) (e1 : ∀ r, r < 224 → r ≠ 221 → r ≠ 222 → V' r = V r) (eR : rateR (V' 222 2)) (e2 : V' 225 = V 225) (e3 : V' 226 = V 226) (e4 : V' 228 = V 228) (e5 : V' 224 3 = V 224 3) (e6 : V' 224 5 = V 224 5) : IV nl ns o n bm V' := by
  obtain ⟨a1, a2, a3, a4, a5, a6, a7, a8, a9, a10, a11, a12, a13, a14⟩ := h
  refine ⟨a1.rows (fun r hr => e1 r (by omega) (by omega) (by omega)), a2.rows a1.1.1.2 a1.1.2.1.2 (fun r hr => e1 r (by omega) (by omega) (by omega)) e2, ?_, a4.cg (fun r h1 h2 => e1 r (by omega) (by omega) (by omega)) e3, a5.rows (fun r hr => e1 r (by have := kd_lt hr (by omega); unfold kd at hr; split at hr <;> omega) (fun z => by rw [z] at hr; exact absurd hr (by decide)) (fun z => by rw [z] at hr; exact absurd hr (by decide))), by rw [e5]; exact a6, by rw [e1 219 (by omega) (by omega) (by omega)]; exact a7, by rw [e6]; exact a8, a9, by rw [e4, e1 220 (by omega) (by omega) (by omega)]; exact a10, eR, by rw [e2]; exact a12, by rw [e2]; exact a13, by rw [e2, e1 0 (by omega) (by omega) (by omega)]; exact a14⟩
  unfold HI
  rw [e1 217 (by omega) (by omega) (by omega)]
  exact a3
theorem IV.th0 {nl ns o n bm c : Nat} {V : Mem} (h : IV nl ns o n bm V) : IV nl ns o n bm (thr c V) :=
  h.keep (fun r hr _ _ => mset_o (by omega)) (by show rateR (mset V 224 6 (nI c) 222 2); rw [mset_ne (by omega)]; exact h.2.2.2.2.2.2.2.2.2.2.1) (mset_o (by omega)) (mset_o (by omega)) (mset_o (by omega)) (mset_ne (by omega)) (mset_ne (by omega))
theorem IV.rr {nl ns o n bm : Nat} {V : Mem} (h : IV nl ns o n bm V) : RR nl ns V := by
  obtain ⟨a1, a2, a3, a4, a5, a6, a7, a8, a9, a10, a11, a12, a13, a14⟩ := h
  exact ⟨a1.1.1.2, a1.1.2.1.2, a12, a13, fun k hk => by rw [a2.f hk (j := 2) (by omega)]; exact a1.1.2.2.2.1 k hk, fun q hq => by rw [a2.s hq (j := 4) (by omega)]; exact a1.1.2.2.2.2.2 q hq⟩
theorem IV.row0 {nl ns o n bm : Nat} {V : Mem} (h : IV nl ns o n bm V) : RSv nl ns V 0 (V 225) := by
  obtain ⟨a1, a2, a3, a4, a5, a6, a7, a8, a9, a10, a11, a12, a13, a14⟩ := h
  refine ⟨?_, ?_, a12, a13, a14⟩
  · rw [sh_0]; exact a2.z rfl
  · rw [sh_0]; exact a1
/-- both sides have saved and changed `now` -/
theorem IV.step {nl ns o n bm nl' ns' : Nat} {V V1 V2 : Mem} (h : IV nl ns o n bm V) (c1 : ∀ r, 31 ≤ r → r < 224 → V1 r = cSave o n nl ns V r) (c2 : ∀ r, 224 ≤ r → V1 r = V r)
    (m1 : ∀ a, a ≠ 225 → V2 a = rSave n (thr 0 V1) a) (hV : VI nl' ns' V1) (hR : Rl nl' ns' V1 V2) (hG : GM V1) (z0 : V2 225 0 = nI nl') (z1 : V2 225 1 = nI ns') (z2 : V2 225 2 = V1 0 4) : ∃ o' n', IV nl' ns' o' n' bm V2 := by
  have hrow := h.row0
  obtain ⟨a1, a2, a3, a4, a5, a6, a7, a8, a9, a10, a11, a12, a13, a14⟩ := h
  have h8 := a1.1.1.2
  have h12 := a1.1.2.1.2
  have e1 : ∀ r, r < 224 → V2 r = V1 r := fun r hr => by rw [m1 r (by omega), rSave_row (by omega) (by omega), th_o (by omega)]
  have e220 : V1 220 = V 220 := by rw [c1 220 (by omega) (by omega), cSave_o h8 h12 (by omega)]
  have e219 : V1 219 = V 219 := by rw [c1 219 (by omega) (by omega), cSave_o h8 h12 (by omega)]
  have e222 : V1 222 = V 222 := by rw [c1 222 (by omega) (by omega), cSave_o h8 h12 (by omega)]
  have e228 : V2 228 = V 228 := by rw [m1 228 (by omega), rSave_row (by omega) (by omega), th_o (by omega), c2 228 (by omega)]
  have t3 : thr 0 V1 224 3 = nI n := by rw [th_ne (by omega), c2 224 (by omega)]; exact a6
  have t5 : V2 224 5 = nI bm := by rw [m1 224 (by omega), rSave_o (by omega), th_ne (by omega), c2 224 (by omega)]; exact a8
  have tn : V2 224 3 = nI (if n = 6 then 6 else n + 1) := by rw [m1 224 (by omega)]; exact rSave_n t3 a3.2.2.2
  have hHR0 : HR o n V (thr 0 V1) := a4.cg (fun _ _ _ => rfl) (by rw [th_o (by omega), c2 226 (by omega)])
  have hr0 : RSv nl ns V 0 (thr 0 V1 225) := by
    have : thr 0 V1 225 = V 225 := by rw [th_o (by omega), c2 225 (by omega)]
    rw [this]; exact hrow
  have fin : ∀ o' n', HI o' n' (cSave o n nl ns V) → HR o' n' (cSave o n nl ns V) (rSave n (thr 0 V1)) → n' = (if n = 6 then 6 else n + 1) → IV nl' ns' o' n' bm V2 := by
    intro o' n' g1 g2 g3
    refine ⟨hV.rows (fun r hr => e1 r (by omega)), hR.rows hV.1.1.2 hV.1.2.1.2 (fun r hr => e1 r (by omega)) rfl, ?_, g2.cg (fun r r1 r2 => by rw [e1 r (by omega), c1 r r1 (by omega)]) (m1 226 (by omega)), hG.rows (fun r hr => e1 r (by have := kd_lt hr (by omega); unfold kd at hr; split at hr <;> omega)), by rw [tn, g3], by rw [e1 219 (by omega), e219]; exact a7, t5, a9, by rw [e1 220 (by omega), e220, e228]; exact a10, by rw [e1 222 (by omega), e222]; exact a11, z0, z1, by rw [z2, e1 0 (by omega)]⟩
    unfold HI
    rw [e1 217 (by omega), c1 217 (by omega) (by omega)]
    exact g1
  by_cases e : n = 6
  · subst e
    refine ⟨(o + 1) % 6, 6, fin _ _ ?_ ?_ (if_pos rfl).symm⟩
    · unfold cSave
      rw [if_pos rfl]
      unfold hSave6 hSave
      refine ⟨?_, Nat.mod_lt _ (by omega), by rw [mset_at], by omega⟩
      rw [mset_ne (by omega), cpySt_o h8 h12 (by have := slR_b (o := (o + 1) % 6) (a := 5); omega), mset_ne (by omega), mset_at]
    · unfold cSave rSave
      rw [if_pos rfl, if_pos rfl]
      exact hHR0.save6 hr0
  · refine ⟨o, n + 1, fin _ _ ?_ ?_ (if_neg e).symm⟩
    · unfold cSave
      rw [if_neg e]
      unfold hSave
      refine ⟨?_, a3.2.1, by rw [mset_at], by have := a3.2.2.2; omega⟩
      rw [mset_ne (by omega), cpySt_o h8 h12 (by have := slR_b (o := o) (a := n); omega)]
      exact a3.1
    · unfold cSave rSave
      rw [if_neg e, if_neg e]
      exact hHR0.save (by have := a3.2.2.2; omega) hr0
