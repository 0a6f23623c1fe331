/-! THE START: from the law's entry to its loop's end -/
theorem BX6_g {dC : Nat → ClassId} {dI : Nat → Nat → Nat} {cA : Nat → ClassId} {r : Heap × (Nat × Nat × (Nat → Int32))} {q : Nat} {F d d' : Nat → Nat} : BX6 (dC, dI, d, cA, r) q F = BX6 (dC, dI, d', cA, r) q F := rfl
theorem zI_g {dC : Nat → ClassId} {dI : Nat → Nat → Nat} {cA : Nat → ClassId} {r : Heap × (Nat × Nat × (Nat → Int32))} {n : Nat} {d d' : Nat → Nat} : zI (dC, dI, d, cA, r) n = zI (dC, dI, d', cA, r) n := rfl
set_option maxHeartbeats 4000000 in
theorem law_start {p : Program} {l : Launch} {e : Env} {s : State} {m : MethodId} {below : List Frame} {meth : Method} {c : Code} {Q : State → Prop} {b0 N : Nat} {xs : Nat → Int32} (hN : N ≤ 260) (hx : p.tables.exec = Jvm.exec) (hb : c.code = cL_law) (hr : meth.sig.returnType = some .boolean) (hml : c.maxLocals = 10) (hown : s.vm.findClass RL = some m.cls) (hts : ∀ w ∈ lw_tbl, w.before #[Value.ref b0] s = true) (hX : va_X b0 N xs s s.heap) (hbl : b0 < s.heap.size) (hlocks : meth.locks = false)
    (kx : ∀ (H : Heap) (locs : List Loc) (ls : Array Slot) (cells slots : Nat), cells ≤ 600086 → slots ≤ 7301442 → (∀ q ∈ locs, s.heap.size ≤ q.base) → W p l e room_1 s m #[Value.ref b0] below meth c H locs cells slots Q (F0 m 159 ls [.int (nI 1)])) :
    W p l e room_1 s m #[Value.ref b0] below meth c s.heap [] 0 0 Q (entryFrame m ([Value.ref b0] : List Value).toArray 10) := by
  obtain ⟨dC, dI, cA, hK⟩ := k_start hts
  have hXT := xt_start hts
  have hT : ∀ w ∈ TG, w.before #[Value.ref b0] s = true := fun w hw => hts w (List.mem_filter.mp hw).1
  obtain ⟨g0, hg0⟩ : ∃ g0 : GC, g0 = (dC, dI, (fun _ => 0), cA, s.heap, b0, N, xs) := ⟨_, rfl⟩
  have C : Cn p s #[Value.ref b0] m meth c cL_law 10 RL (dC, dI, (fun _ => 0), cA, s.heap, b0, N, xs) := ⟨hx, hb, hml, hown, hT, hlocks, hK _ _, hXT, ao_start hts⟩
  have hA : ∀ q : Nat, s.heap.size ≤ q → (fun q : Nat => s.heap.size ≤ q) q := fun _ h => h
  have hl := lv_entry [Value.ref b0] (n := 10) (Nat.le_of_ble_eq_true rfl)
  rw [lg_entry_eq]
  have key : JN p l e room_1 s m #[Value.ref b0] below meth c 10 (dC, dI, (fun _ => 0), cA, s.heap, b0, N, xs) (fun q : Nat => s.heap.size ≤ q) 0 0 Q [] 0 [some (.ref b0), none, none, none, none, none, none, none, none, none] [] := by
    refine n_new (ci := 6) (fs := [.null, .null, .null, .null]) C hA lay_X6 tyX6 tyX6_ok ql_L_15 qz_X6 qn_X6 rfl (fun j hj => by rcases (show j = 0 ∨ j = 1 ∨ j = 2 ∨ j = 3 by omega) with rfl | rfl | rfl | rfl <;> rfl) (Nat.le_of_ble_eq_true rfl) (Nat.le_of_ble_eq_true rfl) dL_law_0 (fun q6 => ?_)
    refine n_dup C dL_law_3 rfl ?_
    refine n_callI C hA b_X6 qm_L_89 qn_X6 qi_X6_init qc_X6_init rfl (by decide +kernel) ⟨Nat.le_of_ble_eq_true rfl, Nat.le_of_ble_eq_true rfl, Nat.le_of_ble_eq_true rfl, Nat.le_of_ble_eq_true rfl⟩ (Nat.le_of_ble_eq_true rfl) dL_law_4 (fun F6 => ?_)
    refine n_astore_n C dL_law_7 rfl (by decide) rfl rfl ?_
    refine n_bipush (v := nI 35) C dL_law_8 (by decide) ?_
    refine n_newa C hA (i := 0) (N := 35) (ty := .int) (atype := .int) (a0 := (35, .inl (fun _ => 0))) qa_int rfl rfl (fun c1 h1 h2 => Option.some.inj (h1.symm.trans h2)) (fun _ => rfl) (by decide) (by decide) (Nat.le_of_ble_eq_true rfl) (Nat.le_of_ble_eq_true rfl) (Nat.le_of_ble_eq_true rfl) dL_law_10 (fun qc => ?_)
    refine n_astore_n C dL_law_12 rfl (by decide) rfl rfl ?_
    refine n_bipush (v := nI 24) C dL_law_13 (by decide) ?_
    refine n_newa C hA (i := 0) (N := 24) (ty := .int) (atype := .int) (a0 := (24, .inl (fun _ => 0))) qa_int rfl rfl (fun c1 h1 h2 => Option.some.inj (h1.symm.trans h2)) (fun _ => rfl) (by decide) (by decide) (Nat.le_of_ble_eq_true rfl) (Nat.le_of_ble_eq_true rfl) (Nat.le_of_ble_eq_true rfl) dL_law_15 (fun ql => ?_)
    refine n_astore_n C dL_law_17 rfl (by decide) rfl rfl ?_
    refine n_bipush (v := nI 48) C dL_law_18 (by decide) ?_
    refine n_newa C hA (i := 0) (N := 48) (ty := .int) (atype := .int) (a0 := (48, .inl (fun _ => 0))) qa_int rfl rfl (fun c1 h1 h2 => Option.some.inj (h1.symm.trans h2)) (fun _ => rfl) (by decide) (by decide) (Nat.le_of_ble_eq_true rfl) (Nat.le_of_ble_eq_true rfl) (Nat.le_of_ble_eq_true rfl) dL_law_20 (fun qu => ?_)
    refine n_astore C dL_law_22 (by decide) rfl rfl ?_
    refine n_bipush (v := nI 24) C dL_law_24 (by decide) ?_
    refine n_newa C hA (i := 0) (N := 24) (ty := .int) (atype := .int) (a0 := (24, .inl (fun _ => 0))) qa_int rfl rfl (fun c1 h1 h2 => Option.some.inj (h1.symm.trans h2)) (fun _ => rfl) (by decide) (by decide) (Nat.le_of_ble_eq_true rfl) (Nat.le_of_ble_eq_true rfl) (Nat.le_of_ble_eq_true rfl) dL_law_26 (fun qv => ?_)
    refine n_astore C dL_law_28 (by decide) rfl rfl ?_
    intro H locs ls hP hD hS hlv
    rw [BX6_g (d' := adl q6 F6 qc ql qu qv)] at hP hD
    have hDJ := world_D (dC := dC) (dI := dI) (cA := cA) (H0 := s.heap) (scr := (b0, N, xs)) hD
    have hTW := world_P (dC := dC) (dI := dI) (cA := cA) (H0 := s.heap) (scr := (b0, N, xs)) hP
    have Cg : Cx p s #[Value.ref b0] m meth c cL_law 10 RL (some .boolean) (dC, dI, adl q6 F6 qc ql qu qv, cA, s.heap, b0, N, xs) := ⟨hx, hb, hml, hown, hT, hlocks, hr, hK _ _, hDJ, ⟨Nat.le_refl _, fun _ _ => rfl⟩, hXT, ⟨hX, hbl⟩⟩
    have hJ0 : ∀ L : LMem, J p l e room_1 s m #[Value.ref b0] below meth c 10 (dC, dI, adl q6 F6 qc ql qu qv, cA, s.heap, b0, N, xs) 228 2180 Q V0 L 30 [some (.ref b0), some (.ref q6), some (.ref qc), some (.ref ql), some (.ref qu), some (.ref qv), none, none, none, none] [] := fun L => by
      obtain ⟨nl, ns, hTI⟩ := IVT.start.ti
      have hlp := fun L => law_loop (p := p) (l := l) (e := e) (below := below) (Q := Q) (L := L) Cg (show N < 2 ^ 31 by omega) (fun V lv H locs ls hw hlv => kx H locs ls 228 2180 (by omega) (by omega) hw.2.2.2) 40 0 V0 (by omega) IVT.start
      refine j_aload_n Cg dL_law_30 rfl rfl ?_
      refine j_aload_n Cg dL_law_31 rfl rfl ?_
      refine j_aload_n Cg dL_law_32 rfl rfl ?_
      refine j_aload Cg dL_law_33 rfl ?_
      refine j_aload Cg dL_law_35 rfl ?_
      refine j_callS5r Cg (c_L_told hTI) qm_L_90 qt_L_told qn_L qc_L_told fit_L_told ⟨Nat.le_of_ble_eq_true rfl, Nat.le_of_ble_eq_true rfl, Nat.le_of_ble_eq_true rfl, Nat.le_of_ble_eq_true rfl⟩ (Nat.le_of_ble_eq_true rfl) dL_law_37 ?_
      refine j_if_ne (tgt := 45) Cg dL_law_40 (by decide) (fun _ => ?_) (fun h => absurd h (by decide))
      refine j_iconst (v := nI 0) Cg dL_law_45 (by decide) ?_
      refine j_istore Cg dL_law_46 (by decide) rfl rfl ?_
      exact hlp L
    exact hJ0 L0 H locs ls ⟨hTW, hS⟩ hlv
  refine key s.heap [] _ (fun k q h => by simp at h) ⟨fun i j x y hi => by simp at hi, fun k x hk => by simp at hk⟩ va_S.rf ?_
  show lv_has _ 10 (en 0 [some (.ref b0), none, none, none, none, none, none, none, none, none])
  exact hl
