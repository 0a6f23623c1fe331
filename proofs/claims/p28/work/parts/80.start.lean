/-! THE START: the tables' words at the law's entry -/
theorem arr_prim {s : State} {args : Array Value} {ty : FieldType} (h : (Cond.arrayClass ty).before args s = true) (hr : ∀ cA : ClassId, s.vm.findClass ("[" ++ ty.toString) = some cA → va_RA s cA ty) : ∃ cA : ClassId, ArrOfT s cA ty ∧ va_RA s cA ty := by
  obtain ⟨c, k, comp, h1, h2, h3⟩ := Cond.arrayClass_spec h
  exact ⟨c, fun n z => ⟨fun k h => (by cases h), k, h2, comp, h3⟩, hr c h1⟩
theorem arr_over {s : State} {args : Array Value} {K : String} (h : (Cond.arrayOver (.object K)).before args s = true) : ∃ cA : ClassId, ArrOfT s cA (.object K) ∧ va_RA s cA (.object K) := by
  obtain ⟨comp, c, k, h1, h2, h3, h4, h5⟩ := Cond.arrayOver_spec h
  exact ⟨c, fun n z => ⟨fun k h => (by cases h), k, h3, comp, h4⟩, k, comp, h3, h4, h1, h5⟩
set_option maxHeartbeats 4000000 in
set_option maxRecDepth 100000 in
theorem xt_start {s : State} {b0 : Nat} (hts : ∀ w ∈ lw_tbl, w.before #[Value.ref b0] s = true) : XT s := by
  refine ⟨fun w hw => ?_, trivial⟩
  have h1 : w.onTables = true ∧ w ∈ lw_tbl := by
    have := List.all_eq_true.mp (show NWs.all (fun w => w.onTables && decide (w ∈ lw_tbl)) = true by decide +kernel) w hw
    rw [Bool.and_eq_true] at this
    exact ⟨this.1, of_decide_eq_true this.2⟩
  exact va_Nw.of h1.1 (hts w h1.2)
set_option maxHeartbeats 4000000 in
theorem k_start {s : State} {b0 : Nat} (hts : ∀ w ∈ lw_tbl, w.before #[Value.ref b0] s = true) : ∃ (dC : Nat → ClassId) (dI : Nat → Nat → Nat) (cA : Nat → ClassId), ∀ (d : Nat → Nat) (H : Heap × (Nat × Nat × (Nat → Int32))), va_K (gD (dC, dI, d, cA, H)) vwCl (tysG (dC, dI, d, cA, H)) s := by
  have hT : ∀ w ∈ TG, w.before #[Value.ref b0] s = true := fun w hw => hts w (List.mem_filter.mp hw).1
  obtain ⟨c0, i0, k0⟩ := u_known hT lay_X0 (hT _ qz_X0)
  obtain ⟨c1, i1, k1⟩ := u_known hT lay_X1 (hT _ qz_X1)
  obtain ⟨c2, i2, k2⟩ := u_known hT lay_X2 (hT _ qz_X2)
  obtain ⟨c3, i3, k3⟩ := u_known hT lay_X3 (hT _ qz_X3)
  obtain ⟨c4, i4, k4⟩ := u_known hT lay_X4 (hT _ qz_X4)
  obtain ⟨c5, i5, k5⟩ := u_known hT lay_X5 (hT _ qz_X5)
  obtain ⟨c6, i6, k6⟩ := u_known hT lay_X6 (hT _ qz_X6)
  obtain ⟨a0, p0⟩ := arr_prim (hT _ qa_int) (fun _ h => h)
  obtain ⟨a1, p1⟩ := arr_prim (hT _ qa_char) (fun _ h => h)
  obtain ⟨a2, p2⟩ := arr_over (K := RX2) (hts (Cond.arrayOver (.object RX2)) (by decide +kernel))
  obtain ⟨a3, p3⟩ := arr_over (K := RX5) (hts (Cond.arrayOver (.object RX5)) (by decide +kernel))
  obtain ⟨a4, p4⟩ := arr_over (K := RX4) (hts (Cond.arrayOver (.object RX4)) (by decide +kernel))
  refine ⟨fun k => if k = 0 then c0 else if k = 1 then c1 else if k = 2 then c2 else if k = 3 then c3 else if k = 4 then c4 else if k = 5 then c5 else c6,
    fun k => if k = 0 then i0 else if k = 1 then i1 else if k = 2 then i2 else if k = 3 then i3 else if k = 4 then i4 else if k = 5 then i5 else i6,
    fun k => if k = 0 then a0 else if k = 1 then a1 else if k = 2 then a2 else if k = 3 then a3 else a4, fun d H => ⟨fun k q hq => ?_, fun k q hq => ?_⟩⟩
  · match k, hq with
    | 0, hq => cases hq; exact k0
    | 1, hq => cases hq; exact k1
    | 2, hq => cases hq; exact k2
    | 3, hq => cases hq; exact k3
    | 4, hq => cases hq; exact k4
    | 5, hq => cases hq; exact k5
    | 6, hq => cases hq; exact k6
    | k + 7, hq => simp [vwCl] at hq
  · match k, hq with
    | 0, hq => cases hq; exact p0
    | 1, hq => cases hq; exact p1
    | 2, hq => cases hq; exact p2
    | 3, hq => cases hq; exact p3
    | 4, hq => cases hq; exact p4
    | k + 5, hq => simp [tysG] at hq
theorem ao_start {s : State} {b0 : Nat} (hts : ∀ w ∈ lw_tbl, w.before #[Value.ref b0] s = true) : ∀ K ∈ AOs, va_AO K s := by
  intro K hK
  have h1 : Cond.arrayOver (.object K) ∈ lw_tbl := by
    have := List.all_eq_true.mp (show AOs.all (fun q => decide (Cond.arrayOver (.object q) ∈ lw_tbl)) = true by decide +kernel) K hK
    exact of_decide_eq_true this
  exact va_AO.of (hts _ h1)

