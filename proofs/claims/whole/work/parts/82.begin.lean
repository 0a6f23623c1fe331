/-! THE START: from the law's entry to its loop's end -/
theorem BX6_g {dC : Nat → ClassId} {dI : Nat → Nat → Nat} {cA : Nat → ClassId} {H : Heap} {q : Nat} {F d d' : Nat → Nat} : BX6 (dC, dI, d, cA, H) q F = BX6 (dC, dI, d', cA, H) q F := rfl
theorem BX7_g {dC : Nat → ClassId} {dI : Nat → Nat → Nat} {cA : Nat → ClassId} {H : Heap} {q : Nat} {F d d' : Nat → Nat} : BX7 (dC, dI, d, cA, H) q F = BX7 (dC, dI, d', cA, H) q F := rfl
set_option maxHeartbeats 4000000 in
theorem law_start {p : Program} {l : Launch} {e : Env} {s : State} {m : MethodId} {below : List Frame} {meth : Method} {c : Code} {Q : State → Prop} {b0 N : Nat} {xs : Nat → Int32} (hf : l.stackTraces = false) (hN : N ≤ 3072) (hx : p.tables.exec = Jvm.exec) (hb : c.code = cL_law) (hr : meth.sig.returnType = some .boolean) (hml : c.maxLocals = 9) (hown : s.vm.findClass RL = some m.cls) (hts : ∀ w ∈ lw_tbl, w.before #[Value.ref b0] s = true) (hX : va_X b0 N xs s s.heap) (hbl : b0 < s.heap.size) (hlocks : meth.locks = false) (hgv : (Jvm.Cond.and given_1 narrow_1).before #[Value.ref b0] s = true)
    (kx : ∀ (H : Heap) (locs : List Loc) (ls : Array Slot) (cells slots : Nat), cells ≤ 601024 → slots ≤ 7293033 → (∀ q ∈ locs, s.heap.size ≤ q.base) → W p l e room_1 s m #[Value.ref b0] below meth c H locs cells slots Q (F0 m 1719 ls [])) :
    W p l e room_1 s m #[Value.ref b0] below meth c s.heap [] 0 0 Q (entryFrame m ([Value.ref b0] : List Value).toArray 9) := by
  obtain ⟨dC, dI, cA, hK⟩ := k_start hts
  have hXT := xt_start hts hgv
  have hT : ∀ w ∈ TG, w.before #[Value.ref b0] s = true := fun w hw => hts w (List.mem_filter.mp hw).1
  have C : Cn p s #[Value.ref b0] m meth c cL_law 9 RL (dC, dI, (fun _ => 0), cA, s.heap) := ⟨hx, hb, hml, hown, hT, hlocks, hK _ _, hXT, ao_start hts⟩
  have hA : ∀ q : Nat, s.heap.size ≤ q → (fun q : Nat => s.heap.size ≤ q) q := fun _ h => h
  have hl := lv_entry [Value.ref b0] (n := 9) (Nat.le_of_ble_eq_true rfl)
  rw [lg_entry_eq]
  have key : JN p l e room_1 s m #[Value.ref b0] below meth c 9 (dC, dI, (fun _ => 0), cA, s.heap) (fun q : Nat => s.heap.size ≤ q) 0 0 Q [] 0 [some (.ref b0), none, none, none, none, none, none, none, none] [] := by
    refine n_new (ci := 6) (fs := [.null, .null, .null, .null]) C hA lay_X6 tyX6 tyX6_ok ql_L_8 qz_X6 qn_X6 rfl (fun j hj => by rcases (show j = 0 ∨ j = 1 ∨ j = 2 ∨ j = 3 by omega) with rfl | rfl | rfl | rfl <;> rfl) (Nat.le_of_ble_eq_true rfl) (Nat.le_of_ble_eq_true rfl) dL_law_0 (fun q6 => ?_)
    refine n_dup C dL_law_3 rfl ?_
    refine n_callI C hA b_X6 qm_L_84 qn_X6 qi_X6_init qc_X6_init rfl (by decide +kernel) ⟨Nat.le_of_ble_eq_true rfl, Nat.le_of_ble_eq_true rfl, Nat.le_of_ble_eq_true rfl, Nat.le_of_ble_eq_true rfl⟩ (Nat.le_of_ble_eq_true rfl) dL_law_4 (fun F6 => ?_)
    refine n_astore_n C dL_law_7 rfl (by decide) rfl rfl ?_
    refine n_new (ci := 7) (fs := [.null, .null, .null, .int 0, .null, .int 0, .int 0, .int 0, .int 0, .null, .long 0]) C hA lay_X7 tyX7 tyX7_ok ql_L_85 qz_X7 qn_X7 rfl (fun j hj => by rcases (show j = 0 ∨ j = 1 ∨ j = 2 ∨ j = 3 ∨ j = 4 ∨ j = 5 ∨ j = 6 ∨ j = 7 ∨ j = 8 ∨ j = 9 ∨ j = 10 by omega) with rfl | rfl | rfl | rfl | rfl | rfl | rfl | rfl | rfl | rfl | rfl <;> rfl) (Nat.le_of_ble_eq_true rfl) (Nat.le_of_ble_eq_true rfl) dL_law_8 (fun q7 => ?_)
    refine n_dup C dL_law_11 rfl ?_
    refine n_callI C hA b_X7 qm_L_87 qn_X7 qi_X7_init qc_X7_init rfl (by decide +kernel) ⟨Nat.le_of_ble_eq_true rfl, Nat.le_of_ble_eq_true rfl, Nat.le_of_ble_eq_true rfl, Nat.le_of_ble_eq_true rfl⟩ (Nat.le_of_ble_eq_true rfl) dL_law_12 (fun F7 => ?_)
    refine n_astore_n C dL_law_15 rfl (by decide) rfl rfl ?_
    refine n_iconst (v := nI 1) C dL_law_16 (by decide) ?_
    refine n_newa C hA (i := 5) (N := 1) (ty := .long) (atype := .long) (a0 := (1, .inr (.inl (fun _ => 0)))) qa_long rfl rfl (fun c1 h1 h2 => Option.some.inj (h1.symm.trans h2)) (fun _ => rfl) (by decide) (by decide) (Nat.le_of_ble_eq_true rfl) (Nat.le_of_ble_eq_true rfl) (Nat.le_of_ble_eq_true rfl) dL_law_17 (fun qo => ?_)
    refine n_astore_n C dL_law_19 rfl (by decide) rfl rfl ?_
    refine n_iconst (v := nI 0) C dL_law_20 (by decide) ?_
    refine n_istore C dL_law_21 (by decide) rfl rfl ?_
    intro H locs ls hP hD hS hlv
    rw [BX6_g (d' := adl q6 F6 q7 F7 qo), BX7_g (d' := adl q6 F6 q7 F7 qo)] at hP hD
    have hDJ := world_D (dC := dC) (dI := dI) (cA := cA) (H0 := s.heap) hD
    have hTW := world_P (dC := dC) (dI := dI) (cA := cA) (H0 := s.heap) hP
    have Cg : Cx p s #[Value.ref b0] m meth c cL_law 9 RL (some .boolean) (dC, dI, adl q6 F6 q7 F7 qo, cA, s.heap) := ⟨hx, hb, hml, hown, hT, hlocks, hr, hK _ _, hDJ, ⟨Nat.le_refl _, fun _ _ => rfl⟩, hXT, xh_start rfl hts hgv⟩
    have X : SX s (dC, dI, adl q6 F6 q7 F7 qo, cA, s.heap) b0 N xs := ⟨hX, hbl, rfl, by omega⟩
    have hJ := law_loop (p := p) (l := l) (e := e) (below := below) (Q := Q) Cg X hf hN (fun V L i cells slots h1 h2 H locs ls hw hlv => kx H locs ls cells slots h1 h2 hw.2.2.2) 513 0 V0 L0 0 0 0 0 0 (by omega) (by omega) IV.start
    exact hJ H locs ls ⟨hTW, hS⟩ hlv
  refine key s.heap [] _ (fun k q h => by simp at h) ⟨fun i j x y hi => by simp at hi, fun k x hk => by simp at hk⟩ va_S.rf ?_
  show lv_has _ 9 (en 0 [some (.ref b0), none, none, none, none, none, none, none, none])
  exact hl
