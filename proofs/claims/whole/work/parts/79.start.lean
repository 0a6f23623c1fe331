/-! THE START: the tables' words at the law's entry -/
theorem arr_prim {s : State} {args : Array Value} {ty : FieldType} (h : (Cond.arrayClass ty).before args s = true) (hr : ∀ cA : ClassId, s.vm.findClass ("[" ++ ty.toString) = some cA → va_RA s cA ty) : ∃ cA : ClassId, ArrOfT s cA ty ∧ va_RA s cA ty := by
  obtain ⟨c, k, comp, h1, h2, h3⟩ := Cond.arrayClass_spec h
  exact ⟨c, fun n z => ⟨fun k h => (by cases h), k, h2, comp, h3⟩, hr c h1⟩
theorem arr_over {s : State} {args : Array Value} {K : String} (h : (Cond.arrayOver (.object K)).before args s = true) : ∃ cA : ClassId, ArrOfT s cA (.object K) ∧ va_RA s cA (.object K) := by
  obtain ⟨comp, c, k, h1, h2, h3, h4, h5⟩ := Cond.arrayOver_spec h
  exact ⟨c, fun n z => ⟨fun k h => (by cases h), k, h3, comp, h4⟩, k, comp, h3, h4, h1, h5⟩
theorem str_at {s : State} {b0 k : Nat} {text : String} (h1 : (Cond.stringRef RX6 k text).before #[Value.ref b0] s = true) (h2 : (Cond.exactly (.string RX6 k) "java/lang/String").before #[Value.ref b0] s = true) : ∃ a : Nat, vk_R RX6 k text a s := by
  obtain ⟨a, _, _, _, h3, -⟩ := Cond.exactly_spec h2
  exact ⟨a, vk_R.of h1 h3⟩
theorem sar_at {g : GC} {s : State} {b0 : Nat} {n : String} {f : Nat → Int32} (hg : gH g = s.heap) (hl : (Cond.laysStatic RX6 n "[I").before #[Value.ref b0] s = true) (hini : (Cond.initialized RX6).before #[Value.ref b0] s = true) (ha : (Cond.arrayOf (.static RX6 n "[I") .int).before #[Value.ref b0] s = true) (h4 : (Cond.eq (.length (.static RX6 n "[I")) (.int 4)).before #[Value.ref b0] s = true)
    (he : ∀ j, j < 4 → (Cond.eq (.elem (.static RX6 n "[I") (.int (Int32.ofNat j))) (.int (f j))).before #[Value.ref b0] s = true) : SAr g n f s := by
  have hA : ∀ a : Nat, a < s.heap.size → ¬ AA g a := fun a h => by unfold AA; rw [hg]; exact Nat.not_le.mpr h
  obtain ⟨t, h1, h2⟩ := va_Tof (f := fun j => .int (f j)) (A := AA g) (N := 4) (by omega) ha (va_eqt h4) (fun j hj => va_eqt (he j hj)) hA
  refine ⟨t, ?_, ?_⟩
  · rw [hg]; exact va_Zof hl hini h1 hA
  · rw [hg]; exact h2
set_option maxHeartbeats 4000000 in
set_option maxRecDepth 100000 in
theorem xt_start {s : State} {b0 : Nat} (hts : ∀ w ∈ lw_tbl, w.before #[Value.ref b0] s = true) (hgv : (Jvm.Cond.and given_1 narrow_1).before #[Value.ref b0] s = true) : XT s := by
  have hq := flat_of_before _ hgv
  refine ⟨fun w hw => ?_, fun q hq2 => ?_, fun q hq2 => ?_, fun q hq2 => ?_, fun q hq2 => ?_⟩
  · have h1 : w.onTables = true ∧ w ∈ lw_tbl := by
      have := List.all_eq_true.mp (show NWs.all (fun w => w.onTables && decide (w ∈ lw_tbl)) = true by decide +kernel) w hw
      rw [Bool.and_eq_true] at this
      exact ⟨this.1, of_decide_eq_true this.2⟩
    exact va_Nw.of h1.1 (hts w h1.2)
  · have h1 : Cond.castable q.1 q.2 ∈ lw_tbl := by
      have := List.all_eq_true.mp (show CSs.all (fun q => decide (Cond.castable q.1 q.2 ∈ lw_tbl)) = true by decide +kernel) q hq2
      exact of_decide_eq_true this
    exact va_Nw.of rfl (hts _ h1)
  · have h1 : Cond.not (.castable q.1 q.2) ∈ flatC (Jvm.Cond.and given_1 narrow_1) := by
      have := List.all_eq_true.mp (show NCs.all (fun q => decide (Cond.not (.castable q.1 q.2) ∈ flatC (Jvm.Cond.and given_1 narrow_1))) = true by decide +kernel) q hq2
      exact of_decide_eq_true this
    exact va_Nc.of (hq _ h1)
  · have h1 : Cond.declares q ∈ lw_tbl := by
      have := List.all_eq_true.mp (show DCs.all (fun q => decide (Cond.declares q ∈ lw_tbl)) = true by decide +kernel) q hq2
      exact of_decide_eq_true this
    exact va_Nw.of rfl (hts _ h1)
  · have h1 : Cond.stringRef RX6 q.1 q.2 ∈ lw_tbl := by
      have := List.all_eq_true.mp (show STs.all (fun q => decide (Cond.stringRef RX6 q.1 q.2 ∈ lw_tbl)) = true by decide +kernel) q hq2
      exact of_decide_eq_true this
    have h2 : Cond.exactly (.string RX6 q.1) "java/lang/String" ∈ flatC (Jvm.Cond.and given_1 narrow_1) := by
      have := List.all_eq_true.mp (show STs.all (fun q => decide (Cond.exactly (.string RX6 q.1) "java/lang/String" ∈ flatC (Jvm.Cond.and given_1 narrow_1))) = true by decide +kernel) q hq2
      exact of_decide_eq_true this
    exact str_at (hts _ h1) (hq _ h2)
set_option maxHeartbeats 4000000 in
set_option maxRecDepth 100000 in
theorem xh_start {g : GC} {s : State} {b0 : Nat} (hg : gH g = s.heap) (hts : ∀ w ∈ lw_tbl, w.before #[Value.ref b0] s = true) (hgv : (Jvm.Cond.and given_1 narrow_1).before #[Value.ref b0] s = true) : XH g s := by
  have hq := flat_of_before _ hgv
  have hA : ∀ a : Nat, a < s.heap.size → ¬ AA g a := fun a h => by unfold AA; rw [hg]; exact Nat.not_le.mpr h
  refine ⟨?_, ?_, ?_, ?_⟩
  · rw [hg]
    exact vx_Zqof (hts _ (by decide +kernel)) (hts _ (by decide +kernel)) (hq _ (by decide +kernel)) hA
  · rw [hg]
    exact vx_Zqof (hts _ (by decide +kernel)) (hts _ (by decide +kernel)) (hq _ (by decide +kernel)) hA
  · refine sar_at hg (hts _ (by decide +kernel)) (hts _ (by decide +kernel)) (hq _ (by decide +kernel)) (hq _ (by decide +kernel)) (fun j hj => ?_)
    rcases (show j = 0 ∨ j = 1 ∨ j = 2 ∨ j = 3 by omega) with rfl | rfl | rfl | rfl
    · exact hq (Cond.eq (.elem (.static "LeaseBook" "LEAST_OF_PART" "[I") (.int 0)) (.int 0)) (by decide +kernel)
    · exact hq (Cond.eq (.elem (.static "LeaseBook" "LEAST_OF_PART" "[I") (.int 1)) (.int 1)) (by decide +kernel)
    · exact hq (Cond.eq (.elem (.static "LeaseBook" "LEAST_OF_PART" "[I") (.int 2)) (.int 0)) (by decide +kernel)
    · exact hq (Cond.eq (.elem (.static "LeaseBook" "LEAST_OF_PART" "[I") (.int 3)) (.int 0)) (by decide +kernel)
  · refine sar_at hg (hts _ (by decide +kernel)) (hts _ (by decide +kernel)) (hq _ (by decide +kernel)) (hq _ (by decide +kernel)) (fun j hj => ?_)
    rcases (show j = 0 ∨ j = 1 ∨ j = 2 ∨ j = 3 by omega) with rfl | rfl | rfl | rfl
    · exact hq (Cond.eq (.elem (.static "LeaseBook" "MOST_OF_PART" "[I") (.int 0)) (.int 100000)) (by decide +kernel)
    · exact hq (Cond.eq (.elem (.static "LeaseBook" "MOST_OF_PART" "[I") (.int 1)) (.int 60)) (by decide +kernel)
    · exact hq (Cond.eq (.elem (.static "LeaseBook" "MOST_OF_PART" "[I") (.int 2)) (.int 2000)) (by decide +kernel)
    · exact hq (Cond.eq (.elem (.static "LeaseBook" "MOST_OF_PART" "[I") (.int 3)) (.int 100000)) (by decide +kernel)
set_option maxHeartbeats 4000000 in
theorem k_start {s : State} {b0 : Nat} (hts : ∀ w ∈ lw_tbl, w.before #[Value.ref b0] s = true) : ∃ (dC : Nat → ClassId) (dI : Nat → Nat → Nat) (cA : Nat → ClassId), ∀ (d : Nat → Nat) (H : Heap), va_K (gD (dC, dI, d, cA, H)) vwCl (tysG (dC, dI, d, cA, H)) s := by
  have hT : ∀ w ∈ TG, w.before #[Value.ref b0] s = true := fun w hw => hts w (List.mem_filter.mp hw).1
  obtain ⟨c0, i0, k0⟩ := u_known hT lay_X0 (hT _ qz_X0)
  obtain ⟨c1, i1, k1⟩ := u_known hT lay_X1 (hT _ qz_X1)
  obtain ⟨c2, i2, k2⟩ := u_known hT lay_X2 (hT _ qz_X2)
  obtain ⟨c3, i3, k3⟩ := u_known hT lay_X3 (hT _ qz_X3)
  obtain ⟨c4, i4, k4⟩ := u_known hT lay_X4 (hT _ qz_X4)
  obtain ⟨c5, i5, k5⟩ := u_known hT lay_X5 (hT _ qz_X5)
  obtain ⟨c6, i6, k6⟩ := u_known hT lay_X6 (hT _ qz_X6)
  obtain ⟨c7, i7, k7⟩ := u_known hT lay_X7 (hT _ qz_X7)
  obtain ⟨a0, p0⟩ := arr_prim (hT _ qa_int) (fun _ h => h)
  obtain ⟨a1, p1⟩ := arr_prim (hT _ qa_char) (fun _ h => h)
  obtain ⟨a2, p2⟩ := arr_over (K := RX2) (hts (Cond.arrayOver (.object RX2)) (by decide +kernel))
  obtain ⟨a3, p3⟩ := arr_over (K := RX5) (hts (Cond.arrayOver (.object RX5)) (by decide +kernel))
  obtain ⟨a4, p4⟩ := arr_over (K := RX4) (hts (Cond.arrayOver (.object RX4)) (by decide +kernel))
  obtain ⟨a5, p5⟩ := arr_prim (hT _ qa_long) (fun _ h => h)
  refine ⟨fun k => if k = 0 then c0 else if k = 1 then c1 else if k = 2 then c2 else if k = 3 then c3 else if k = 4 then c4 else if k = 5 then c5 else if k = 6 then c6 else c7,
    fun k => if k = 0 then i0 else if k = 1 then i1 else if k = 2 then i2 else if k = 3 then i3 else if k = 4 then i4 else if k = 5 then i5 else if k = 6 then i6 else i7,
    fun k => if k = 0 then a0 else if k = 1 then a1 else if k = 2 then a2 else if k = 3 then a3 else if k = 4 then a4 else a5, fun d H => ⟨fun k q hq => ?_, fun k q hq => ?_⟩⟩
  · match k, hq with
    | 0, hq => cases hq; exact k0
    | 1, hq => cases hq; exact k1
    | 2, hq => cases hq; exact k2
    | 3, hq => cases hq; exact k3
    | 4, hq => cases hq; exact k4
    | 5, hq => cases hq; exact k5
    | 6, hq => cases hq; exact k6
    | 7, hq => cases hq; exact k7
    | k + 8, hq => simp [vwCl] at hq
  · match k, hq with
    | 0, hq => cases hq; exact p0
    | 1, hq => cases hq; exact p1
    | 2, hq => cases hq; exact p2
    | 3, hq => cases hq; exact p3
    | 4, hq => cases hq; exact p4
    | 5, hq => cases hq; exact p5
    | k + 6, hq => simp [tysG] at hq
theorem ao_start {s : State} {b0 : Nat} (hts : ∀ w ∈ lw_tbl, w.before #[Value.ref b0] s = true) : ∀ K ∈ AOs, va_AO K s := by
  intro K hK
  have h1 : Cond.arrayOver (.object K) ∈ lw_tbl := by
    have := List.all_eq_true.mp (show AOs.all (fun q => decide (Cond.arrayOver (.object q) ∈ lw_tbl)) = true by decide +kernel) K hK
    exact of_decide_eq_true this
  exact va_AO.of (hts _ h1)
