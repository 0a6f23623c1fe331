/-! THE LAW'S WRAPPERS: they call a method and catch (laid by wip/whole/p33.py) -/
abbrev RW (d mc ms : Nat) : Room := { frames := d, cells := mc, slots := ms, locals := 30 * d }
abbrev WSH (y : MethodName) (b : ByteArray) (n : Nat) (ret : Option FieldType) (hh : List (Nat × Nat × Nat × Nat)) : List Cond := Cond.codeWith y b n ret hh :: TG
/-- a wrapper's contract: it answers v and catches -/
def WM (l : Launch) (y : MethodName) (b : ByteArray) (n : Nat) (ret : Option FieldType) (hh : List (Nat × Nat × Nat × Nat)) (d mc ms : Nat) (g : GC) (V : Mem) (L : LMem) (As : List Value) (v : Option Value) (V' : Mem) (L' : LMem) : Prop :=
  vx_Met l y (WSH y b n ret hh) (RW d mc ms) (va_Pc As (AtW g V L)) (QG v (PW g V' L') (AA g)) (fun _ _ _ => False) mc ms (AA g)
theorem WM.of {l : Launch} {y : MethodName} {b : ByteArray} {n : Nat} {ret : Option FieldType} {hh : List (Nat × Nat × Nat × Nat)} {d mc ms : Nat} {g : GC} {V : Mem} {L : LMem} {As : List Value} {v : Option Value} {V' : Mem} {L' : LMem} (lv0 : List (Option Value)) (hy : plainName y.cls = true) (h0 : en 0 lv0 = lv_args 0 As) (hn : (lg_sl As).length ≤ n)
    (body : ∀ (p : Program) (e : Env) (s : State) (m : MethodId) (args : Array Value) (below : List Frame) (meth : Method) (c : Code), Cx p s args m meth c b n y.cls ret g → c.exceptionTable.toList = tableOf hh → J p l e (RW d mc ms) s m args below meth c n g 0 0 (MQ below (QG v (PW g V' L') (AA g)) args s mc ms (AA g)) V L 0 lv0 []) : WM l y b n ret hh d mc ms g V L As v V' L' := by
  refine vx_ofWH (cc := b) (maxL := n) (ret := ret) (hh := hh) hy rfl ?_
  intro p e s m args below meth c s₁ B hml hv
  obtain ⟨rfl, hP, hC⟩ := hv
  have hts0 := atoms_spec (ws := WSH y b n ret hh) B.pre
  have hl := lv_entry As (n := n) hn
  refine vx_ret ?_
  rw [lg_entry_eq]
  refine body p e s m As.toArray below meth c ⟨B.exec, B.bytes, hml, findClass_of_methodNamed B.named, fun w hw => hts0 w (List.mem_cons_of_mem _ hw), B.notSynchronized, B.returns, hC⟩ (vx_table (x := y) B (hts0 _ List.mem_cons_self)) s.heap [] _ ⟨hP, va_S.rf⟩ ?_
  show lv_has _ n (en 0 lv0)
  rw [h0]
  exact hl
section XCATCH
variable {p : Program} {l : Launch} {e : Env} {R : Room} {s : State} {m : MethodId} {args : Array Value} {below : List Frame} {meth : Method} {c : Code} {nL : Nat} {g : GC} {cells slots : Nat} {Q : State → Prop} {V : Mem} {L : LMem} {pc : Nat} {lv : List (Option Value)} {st : List Value} {cc : ByteArray} {own : String} {ret : Option FieldType}
theorem j_xcatch (C : Cx p s args m meth c cc nL own ret g) {hh : List (Nat × Nat × Nat × Nat)} (hT : c.exceptionTable.toList = tableOf hh) {E : String} (pre : List ExceptionTableEntry) (x : ExceptionTableEntry) (suf : List ExceptionTableEntry) (hsplit : tableOf hh = pre ++ x :: suf)
    (hpass : ∀ z ∈ pre, ∃ nm : String, z.catchType ≠ 0 ∧ Cond.classLink own z.catchType nm ∈ TG ∧ (E, nm) ∈ NCs) (hx : covers x pc = true) (h0 : x.catchType ≠ 0) (hl : Cond.classLink own x.catchType E ∈ TG) (hE : (E, E) ∈ CSs)
    (k : ∀ q : Nat, J p l e R s m args below meth c nL g cells slots Q V L x.handlerPc lv [.ref q]) : JX p l e R s m args below meth c nL g cells slots Q V L pc lv st E := fun H locs ls q ce hw hlv hce hcv hcl =>
  vx_catch C.2.2.2.1 pre x suf (hT.trans hsplit) (fun z hz => by
    obtain ⟨nm, h1, h2, h3⟩ := hpass z hz
    exact Or.inr ⟨h1, nm, C.2.2.2.2.1 _ h2, C.2.2.2.2.2.2.2.2.2.2.1.2.2.1 _ h3⟩) hx h0 (C.2.2.2.2.1 _ hl) (va_tabs rfl rfl (C.2.2.2.2.2.2.2.2.2.2.1.2.1 _ hE)) hce hcv hcl (k q H locs ls hw hlv)
theorem j_callW (C : Cx p s args m meth c cc nL own ret g) {y : MethodName} {b : ByteArray} {n d' i0 mc ms : Nat} {hh : List (Nat × Nat × Nat × Nat)} {r : Option FieldType} {V' : Mem} {L' : LMem} {v : Option Value} {As stk : List Value} (hM : WM l y b n r hh d' mc ms g V L As v V' L') (hl : Cond.methodLink own i0 y ∈ TG) (ht : Cond.static y ∈ TG) (hi : Cond.initialized y.cls ∈ TG) (hc : Cond.codeWith y b n r hh ∈ TG)
    (hy : y.cls ≠ "java/lang/invoke/MethodHandle" ∧ y.cls ≠ "java/lang/invoke/VarHandle" ∧ (parseMethodDescriptor y.desc).map (fun d => d.parameters.length) = some As.length) (hd : d' + 1 ≤ R.frames ∧ 8 + (n + 11) + 30 * d' ≤ R.locals ∧ cells + mc ≤ R.cells ∧ slots + ms ≤ R.slots) (hW : (st.map fun v => v.category).sum ≤ 8) (hdg : decode cc pc = .ok (.invokestatic i0, 3)) (hs : stk = As.reverse ++ st) (k : J p l e R s m args below meth c nL g (cells + mc) (slots + ms) Q V' L' (pc + 3) lv (v.toList ++ st)) : J p l e R s m args below meth c nL g cells slots Q V L pc lv stk := by
  intro H locs ls hw hlv T hT X
  have hr := vx_runSX (meth := meth) (p := p) (l := l) (e := e) (R := R) (below := below) (H := H) (locs := locs) (cells := cells) (slots := slots) (g := F0 m pc ls stk) (As := As) (rest := st) ⟨C.1, C.2.1, C.2.2.1, C.2.2.2.1, C.2.2.2.2.1⟩ hM
    (vx_cwSW As.length C.2.2.2.2.1 (TG_sub (TG_c hl (TG_c ht (TG_c hi (fun w hw => (List.mem_cons.mp hw).elim (fun e => by rw [e]; exact hc) id))))) rfl rfl rfl hy ⟨hd.1, hd.2.1⟩) ⟨AtW.blind, fun U hU hW => ⟨rfl, AtW.go C hw hU hW⟩⟩ rfl rfl hlv.1 hs (lv_room hW) hdg ⟨hd.2.2.1, hd.2.2.2⟩
  rcases hr T hT X with ⟨v1, st₀, t, T', Lc, h0, X', hL, e1, e2, ⟨⟨hv, hB⟩, hz, hk⟩, stp⟩ | ⟨q, st₀, t, T', Lc, E', ce, h0, X', hL, e1, e2, hF, -⟩
  · cases hv
    rw [h0] at hz hk
    obtain ⟨t2, a1, b1⟩ := k T'.heap (locs ++ Lc) ls ⟨by rw [e1]; exact hB, Nat.le_trans hw.2.1 (by rw [e1]; exact hz), fun q h1 h2 => by rw [e1, hk q (Nat.lt_of_lt_of_le h1 hw.2.1) h2]; exact hw.2.2.1 q h1 h2, fun q hq => (List.mem_append.mp hq).elim (hw.2.2.2 q) (hL q)⟩ hlv T' rfl X'
    exact ⟨t2, stp t2 a1, b1⟩
  · exact hF.elim
end XCATCH
theorem nc_xIA_xIO : (xIA, xIO) ∈ NCs := by simp [NCs]
theorem nc_xIS_xIO : (xIS, xIO) ∈ NCs := by simp [NCs]
theorem nc_xIS_xIA : (xIS, xIA) ∈ NCs := by simp [NCs]
set_option maxHeartbeats 4000000 in
theorem w_open {l : Launch} {g : GC} {V V' : Mem} {L : LMem} {p0 p1 p2 p3 : Int32} {r : Int32} (hM : MC l yX6_open cX6_open 5 (some .int) 5 g V L [.ref (ad g 223), .int p0, .int p1, .int p2, .int p3] (some (.int r)) V' L) : WM l yL_open cL_open 7 (some .int) [(0, 14, 17, 13), (0, 14, 21, 15)] 9 0 0 g V L [.ref (ad g 223), .int p0, .int p1, .int p2, .int p3, .ref (ad g 230)] (some (.int (nI 0))) V' (lset L 1 r.toInt64) := by
  refine WM.of [some (.ref (ad g 223)), some (.int p0), some (.int p1), some (.int p2), some (.int p3), some (.ref (ad g 230)), none] (by decide +kernel) rfl (Nat.le_of_ble_eq_true rfl) (fun p e s m args below meth c C hT => ?_)
  refine j_aload C dL_open_0 rfl ?_
  refine j_iconst (v := (nI 0)) C dL_open_2 (by decide) ?_
  refine j_aload_n C dL_open_3 rfl rfl ?_
  refine j_iload_n C dL_open_4 rfl rfl ?_
  refine j_iload_n C dL_open_5 rfl rfl ?_
  refine j_iload_n C dL_open_6 rfl rfl ?_
  refine j_iload C dL_open_7 rfl ?_
  refine j_callV4r C (oa_X6 (by first | assumption | exact kd_sums (by assumption) | exact kd_st1 (by assumption) | exact kd_st2 (by assumption) | exact kd_ls (by first | assumption | rfl) (by assumption) | exact kd_sb (by first | assumption | rfl) (by assumption) | exact kd_sv (by assumption) | rfl)) rfl rfl (hM) qm_L_7 qi_X6_open qs_X6_open qn_X6 qc_X6_open fit_X6_open ⟨Nat.le_of_ble_eq_true rfl, Nat.le_of_ble_eq_true rfl, Nat.le_of_ble_eq_true rfl, Nat.le_of_ble_eq_true rfl⟩ (Nat.le_of_ble_eq_true rfl) dL_open_9 ?_
  refine j_i2l C dL_open_12 ?_
  refine j_last C dL_open_13 ?_
  refine j_goto (tgt := 25) C dL_open_14 (by decide) ?_
  refine j_iconst (v := (nI 0)) C dL_open_25 (by decide) ?_
  exact j_iret C dL_open_26 (by rfl) (by rfl) (by rfl)
set_option maxHeartbeats 4000000 in
theorem w_open_xIA {l : Launch} {g : GC} {V V' : Mem} {L : LMem} {p0 p1 p2 p3 : Int32} (hM : TC l yX6_open cX6_open 5 (some .int) 8 g V L [.ref (ad g 223), .int p0, .int p1, .int p2, .int p3] xIA V' L) : WM l yL_open cL_open 7 (some .int) [(0, 14, 17, 13), (0, 14, 21, 15)] 9 1 6 g V L [.ref (ad g 223), .int p0, .int p1, .int p2, .int p3, .ref (ad g 230)] (some (.int (nI 1))) V' L := by
  refine WM.of [some (.ref (ad g 223)), some (.int p0), some (.int p1), some (.int p2), some (.int p3), some (.ref (ad g 230)), none] (by decide +kernel) rfl (Nat.le_of_ble_eq_true rfl) (fun p e s m args below meth c C hT => ?_)
  refine j_aload C dL_open_0 rfl ?_
  refine j_iconst (v := (nI 0)) C dL_open_2 (by decide) ?_
  refine j_aload_n C dL_open_3 rfl rfl ?_
  refine j_iload_n C dL_open_4 rfl rfl ?_
  refine j_iload_n C dL_open_5 rfl rfl ?_
  refine j_iload_n C dL_open_6 rfl rfl ?_
  refine j_iload C dL_open_7 rfl ?_
  refine j_xcallV C (oa_X6 rfl) rfl rfl hM qm_L_7 qi_X6_open qs_X6_open qn_X6 qc_X6_open fit_X6_open ⟨Nat.le_of_ble_eq_true rfl, Nat.le_of_ble_eq_true rfl, Nat.le_of_ble_eq_true rfl, Nat.le_of_ble_eq_true rfl⟩ (Nat.le_of_ble_eq_true rfl) dL_open_9 rfl (j_xcatch C hT [] { startPc := 0, endPc := 14, handlerPc := 17, catchType := 13 } [{ startPc := 0, endPc := 14, handlerPc := 21, catchType := 15 }] rfl (fun z hz => nomatch hz) rfl (by decide) ql_L_13 xa5_xIA (fun q => ?_))
  refine j_ast6 C dL_open_17 (Nat.le_of_ble_eq_true rfl) rfl ?_
  refine j_iconst (v := (nI 1)) C dL_open_19 (by decide) ?_
  exact j_iret C dL_open_20 (by rfl) (by rfl) (by rfl)
set_option maxHeartbeats 4000000 in
theorem w_open_xIS {l : Launch} {g : GC} {V V' : Mem} {L : LMem} {p0 p1 p2 p3 : Int32} (hM : TC l yX6_open cX6_open 5 (some .int) 8 g V L [.ref (ad g 223), .int p0, .int p1, .int p2, .int p3] xIS V' L) : WM l yL_open cL_open 7 (some .int) [(0, 14, 17, 13), (0, 14, 21, 15)] 9 1 6 g V L [.ref (ad g 223), .int p0, .int p1, .int p2, .int p3, .ref (ad g 230)] (some (.int (nI 2))) V' L := by
  refine WM.of [some (.ref (ad g 223)), some (.int p0), some (.int p1), some (.int p2), some (.int p3), some (.ref (ad g 230)), none] (by decide +kernel) rfl (Nat.le_of_ble_eq_true rfl) (fun p e s m args below meth c C hT => ?_)
  refine j_aload C dL_open_0 rfl ?_
  refine j_iconst (v := (nI 0)) C dL_open_2 (by decide) ?_
  refine j_aload_n C dL_open_3 rfl rfl ?_
  refine j_iload_n C dL_open_4 rfl rfl ?_
  refine j_iload_n C dL_open_5 rfl rfl ?_
  refine j_iload_n C dL_open_6 rfl rfl ?_
  refine j_iload C dL_open_7 rfl ?_
  refine j_xcallV C (oa_X6 rfl) rfl rfl hM qm_L_7 qi_X6_open qs_X6_open qn_X6 qc_X6_open fit_X6_open ⟨Nat.le_of_ble_eq_true rfl, Nat.le_of_ble_eq_true rfl, Nat.le_of_ble_eq_true rfl, Nat.le_of_ble_eq_true rfl⟩ (Nat.le_of_ble_eq_true rfl) dL_open_9 rfl (j_xcatch C hT [{ startPc := 0, endPc := 14, handlerPc := 17, catchType := 13 }] { startPc := 0, endPc := 14, handlerPc := 21, catchType := 15 } [] rfl (List.forall_mem_cons.mpr ⟨⟨_, by decide, ql_L_13, nc_xIS_xIA⟩, (List.forall_mem_nil _)⟩) rfl (by decide) ql_L_15 xa5_xIS (fun q => ?_))
  refine j_ast6 C dL_open_21 (Nat.le_of_ble_eq_true rfl) rfl ?_
  refine j_iconst (v := (nI 2)) C dL_open_23 (by decide) ?_
  exact j_iret C dL_open_24 (by rfl) (by rfl) (by rfl)
set_option maxHeartbeats 4000000 in
theorem w_term {l : Launch} {g : GC} {V V' : Mem} {L : LMem} {p0 p1 p2 : Int32} {r : Int32} (hM : MC l yX6_term cX6_term 5 (some .int) 5 g V L [.ref (ad g 223), .int p0, .int p1, .int p2] (some (.int r)) V' L) : WM l yL_term cL_term 6 (some .int) [(0, 12, 15, 21), (0, 12, 19, 13), (0, 12, 23, 15)] 9 0 0 g V L [.ref (ad g 223), .int p0, .int p1, .int p2, .ref (ad g 230)] (some (.int (nI 0))) V' (lset L 1 r.toInt64) := by
  refine WM.of [some (.ref (ad g 223)), some (.int p0), some (.int p1), some (.int p2), some (.ref (ad g 230)), none] (by decide +kernel) rfl (Nat.le_of_ble_eq_true rfl) (fun p e s m args below meth c C hT => ?_)
  refine j_aload C dL_term_0 rfl ?_
  refine j_iconst (v := (nI 0)) C dL_term_2 (by decide) ?_
  refine j_aload_n C dL_term_3 rfl rfl ?_
  refine j_iload_n C dL_term_4 rfl rfl ?_
  refine j_iload_n C dL_term_5 rfl rfl ?_
  refine j_iload_n C dL_term_6 rfl rfl ?_
  refine j_callV3r C (oa_X6 (by first | assumption | exact kd_sums (by assumption) | exact kd_st1 (by assumption) | exact kd_st2 (by assumption) | exact kd_ls (by first | assumption | rfl) (by assumption) | exact kd_sb (by first | assumption | rfl) (by assumption) | exact kd_sv (by assumption) | rfl)) rfl rfl (hM) qm_L_17 qi_X6_term qs_X6_term qn_X6 qc_X6_term fit_X6_term ⟨Nat.le_of_ble_eq_true rfl, Nat.le_of_ble_eq_true rfl, Nat.le_of_ble_eq_true rfl, Nat.le_of_ble_eq_true rfl⟩ (Nat.le_of_ble_eq_true rfl) dL_term_7 ?_
  refine j_i2l C dL_term_10 ?_
  refine j_last C dL_term_11 ?_
  refine j_goto (tgt := 27) C dL_term_12 (by decide) ?_
  refine j_iconst (v := (nI 0)) C dL_term_27 (by decide) ?_
  exact j_iret C dL_term_28 (by rfl) (by rfl) (by rfl)
set_option maxHeartbeats 4000000 in
theorem w_term_xIO {l : Launch} {g : GC} {V V' : Mem} {L : LMem} {p0 p1 p2 : Int32} (hM : TC l yX6_term cX6_term 5 (some .int) 8 g V L [.ref (ad g 223), .int p0, .int p1, .int p2] xIO V' L) : WM l yL_term cL_term 6 (some .int) [(0, 12, 15, 21), (0, 12, 19, 13), (0, 12, 23, 15)] 9 1 6 g V L [.ref (ad g 223), .int p0, .int p1, .int p2, .ref (ad g 230)] (some (.int (nI 1))) V' L := by
  refine WM.of [some (.ref (ad g 223)), some (.int p0), some (.int p1), some (.int p2), some (.ref (ad g 230)), none] (by decide +kernel) rfl (Nat.le_of_ble_eq_true rfl) (fun p e s m args below meth c C hT => ?_)
  refine j_aload C dL_term_0 rfl ?_
  refine j_iconst (v := (nI 0)) C dL_term_2 (by decide) ?_
  refine j_aload_n C dL_term_3 rfl rfl ?_
  refine j_iload_n C dL_term_4 rfl rfl ?_
  refine j_iload_n C dL_term_5 rfl rfl ?_
  refine j_iload_n C dL_term_6 rfl rfl ?_
  refine j_xcallV C (oa_X6 rfl) rfl rfl hM qm_L_17 qi_X6_term qs_X6_term qn_X6 qc_X6_term fit_X6_term ⟨Nat.le_of_ble_eq_true rfl, Nat.le_of_ble_eq_true rfl, Nat.le_of_ble_eq_true rfl, Nat.le_of_ble_eq_true rfl⟩ (Nat.le_of_ble_eq_true rfl) dL_term_7 rfl (j_xcatch C hT [] { startPc := 0, endPc := 12, handlerPc := 15, catchType := 21 } [{ startPc := 0, endPc := 12, handlerPc := 19, catchType := 13 }, { startPc := 0, endPc := 12, handlerPc := 23, catchType := 15 }] rfl (fun z hz => nomatch hz) rfl (by decide) ql_L_21 xa5_xIO (fun q => ?_))
  refine j_ast5 C dL_term_15 (Nat.le_of_ble_eq_true rfl) rfl ?_
  refine j_iconst (v := (nI 1)) C dL_term_17 (by decide) ?_
  exact j_iret C dL_term_18 (by rfl) (by rfl) (by rfl)
set_option maxHeartbeats 4000000 in
theorem w_term_xIA {l : Launch} {g : GC} {V V' : Mem} {L : LMem} {p0 p1 p2 : Int32} (hM : TC l yX6_term cX6_term 5 (some .int) 8 g V L [.ref (ad g 223), .int p0, .int p1, .int p2] xIA V' L) : WM l yL_term cL_term 6 (some .int) [(0, 12, 15, 21), (0, 12, 19, 13), (0, 12, 23, 15)] 9 1 6 g V L [.ref (ad g 223), .int p0, .int p1, .int p2, .ref (ad g 230)] (some (.int (nI 2))) V' L := by
  refine WM.of [some (.ref (ad g 223)), some (.int p0), some (.int p1), some (.int p2), some (.ref (ad g 230)), none] (by decide +kernel) rfl (Nat.le_of_ble_eq_true rfl) (fun p e s m args below meth c C hT => ?_)
  refine j_aload C dL_term_0 rfl ?_
  refine j_iconst (v := (nI 0)) C dL_term_2 (by decide) ?_
  refine j_aload_n C dL_term_3 rfl rfl ?_
  refine j_iload_n C dL_term_4 rfl rfl ?_
  refine j_iload_n C dL_term_5 rfl rfl ?_
  refine j_iload_n C dL_term_6 rfl rfl ?_
  refine j_xcallV C (oa_X6 rfl) rfl rfl hM qm_L_17 qi_X6_term qs_X6_term qn_X6 qc_X6_term fit_X6_term ⟨Nat.le_of_ble_eq_true rfl, Nat.le_of_ble_eq_true rfl, Nat.le_of_ble_eq_true rfl, Nat.le_of_ble_eq_true rfl⟩ (Nat.le_of_ble_eq_true rfl) dL_term_7 rfl (j_xcatch C hT [{ startPc := 0, endPc := 12, handlerPc := 15, catchType := 21 }] { startPc := 0, endPc := 12, handlerPc := 19, catchType := 13 } [{ startPc := 0, endPc := 12, handlerPc := 23, catchType := 15 }] rfl (List.forall_mem_cons.mpr ⟨⟨_, by decide, ql_L_21, nc_xIA_xIO⟩, (List.forall_mem_nil _)⟩) rfl (by decide) ql_L_13 xa5_xIA (fun q => ?_))
  refine j_ast5 C dL_term_19 (Nat.le_of_ble_eq_true rfl) rfl ?_
  refine j_iconst (v := (nI 2)) C dL_term_21 (by decide) ?_
  exact j_iret C dL_term_22 (by rfl) (by rfl) (by rfl)
set_option maxHeartbeats 4000000 in
theorem w_term_xIS {l : Launch} {g : GC} {V V' : Mem} {L : LMem} {p0 p1 p2 : Int32} (hM : TC l yX6_term cX6_term 5 (some .int) 8 g V L [.ref (ad g 223), .int p0, .int p1, .int p2] xIS V' L) : WM l yL_term cL_term 6 (some .int) [(0, 12, 15, 21), (0, 12, 19, 13), (0, 12, 23, 15)] 9 1 6 g V L [.ref (ad g 223), .int p0, .int p1, .int p2, .ref (ad g 230)] (some (.int (nI 3))) V' L := by
  refine WM.of [some (.ref (ad g 223)), some (.int p0), some (.int p1), some (.int p2), some (.ref (ad g 230)), none] (by decide +kernel) rfl (Nat.le_of_ble_eq_true rfl) (fun p e s m args below meth c C hT => ?_)
  refine j_aload C dL_term_0 rfl ?_
  refine j_iconst (v := (nI 0)) C dL_term_2 (by decide) ?_
  refine j_aload_n C dL_term_3 rfl rfl ?_
  refine j_iload_n C dL_term_4 rfl rfl ?_
  refine j_iload_n C dL_term_5 rfl rfl ?_
  refine j_iload_n C dL_term_6 rfl rfl ?_
  refine j_xcallV C (oa_X6 rfl) rfl rfl hM qm_L_17 qi_X6_term qs_X6_term qn_X6 qc_X6_term fit_X6_term ⟨Nat.le_of_ble_eq_true rfl, Nat.le_of_ble_eq_true rfl, Nat.le_of_ble_eq_true rfl, Nat.le_of_ble_eq_true rfl⟩ (Nat.le_of_ble_eq_true rfl) dL_term_7 rfl (j_xcatch C hT [{ startPc := 0, endPc := 12, handlerPc := 15, catchType := 21 }, { startPc := 0, endPc := 12, handlerPc := 19, catchType := 13 }] { startPc := 0, endPc := 12, handlerPc := 23, catchType := 15 } [] rfl (List.forall_mem_cons.mpr ⟨⟨_, by decide, ql_L_21, nc_xIS_xIO⟩, (List.forall_mem_cons.mpr ⟨⟨_, by decide, ql_L_13, nc_xIS_xIA⟩, (List.forall_mem_nil _)⟩)⟩) rfl (by decide) ql_L_15 xa5_xIS (fun q => ?_))
  refine j_ast5 C dL_term_23 (Nat.le_of_ble_eq_true rfl) rfl ?_
  refine j_iconst (v := (nI 3)) C dL_term_25 (by decide) ?_
  exact j_iret C dL_term_26 (by rfl) (by rfl) (by rfl)
set_option maxHeartbeats 4000000 in
theorem w_rent {l : Launch} {g : GC} {V V' : Mem} {L : LMem} {p0 p1 : Int32} {r : Int32} (hM : MC l yX6_rent cX6_rent 4 (some .int) 5 g V L [.ref (ad g 223), .int p0, .int p1] (some (.int r)) V' L) : WM l yL_rent cL_rent 5 (some .int) [(0, 10, 13, 21), (0, 10, 17, 13), (0, 10, 21, 15)] 9 0 0 g V L [.ref (ad g 223), .int p0, .int p1, .ref (ad g 230)] (some (.int (nI 0))) V' (lset L 1 r.toInt64) := by
  refine WM.of [some (.ref (ad g 223)), some (.int p0), some (.int p1), some (.ref (ad g 230)), none] (by decide +kernel) rfl (Nat.le_of_ble_eq_true rfl) (fun p e s m args below meth c C hT => ?_)
  refine j_aload_n C dL_rent_0 rfl rfl ?_
  refine j_iconst (v := (nI 0)) C dL_rent_1 (by decide) ?_
  refine j_aload_n C dL_rent_2 rfl rfl ?_
  refine j_iload_n C dL_rent_3 rfl rfl ?_
  refine j_iload_n C dL_rent_4 rfl rfl ?_
  refine j_callV2r C (oa_X6 (by first | assumption | exact kd_sums (by assumption) | exact kd_st1 (by assumption) | exact kd_st2 (by assumption) | exact kd_ls (by first | assumption | rfl) (by assumption) | exact kd_sb (by first | assumption | rfl) (by assumption) | exact kd_sv (by assumption) | rfl)) rfl rfl (hM) qm_L_23 qi_X6_rent qs_X6_rent qn_X6 qc_X6_rent fit_X6_rent ⟨Nat.le_of_ble_eq_true rfl, Nat.le_of_ble_eq_true rfl, Nat.le_of_ble_eq_true rfl, Nat.le_of_ble_eq_true rfl⟩ (Nat.le_of_ble_eq_true rfl) dL_rent_5 ?_
  refine j_i2l C dL_rent_8 ?_
  refine j_last C dL_rent_9 ?_
  refine j_goto (tgt := 25) C dL_rent_10 (by decide) ?_
  refine j_iconst (v := (nI 0)) C dL_rent_25 (by decide) ?_
  exact j_iret C dL_rent_26 (by rfl) (by rfl) (by rfl)
set_option maxHeartbeats 4000000 in
theorem w_rent_xIO {l : Launch} {g : GC} {V V' : Mem} {L : LMem} {p0 p1 : Int32} (hM : TC l yX6_rent cX6_rent 4 (some .int) 8 g V L [.ref (ad g 223), .int p0, .int p1] xIO V' L) : WM l yL_rent cL_rent 5 (some .int) [(0, 10, 13, 21), (0, 10, 17, 13), (0, 10, 21, 15)] 9 1 6 g V L [.ref (ad g 223), .int p0, .int p1, .ref (ad g 230)] (some (.int (nI 1))) V' L := by
  refine WM.of [some (.ref (ad g 223)), some (.int p0), some (.int p1), some (.ref (ad g 230)), none] (by decide +kernel) rfl (Nat.le_of_ble_eq_true rfl) (fun p e s m args below meth c C hT => ?_)
  refine j_aload_n C dL_rent_0 rfl rfl ?_
  refine j_iconst (v := (nI 0)) C dL_rent_1 (by decide) ?_
  refine j_aload_n C dL_rent_2 rfl rfl ?_
  refine j_iload_n C dL_rent_3 rfl rfl ?_
  refine j_iload_n C dL_rent_4 rfl rfl ?_
  refine j_xcallV C (oa_X6 rfl) rfl rfl hM qm_L_23 qi_X6_rent qs_X6_rent qn_X6 qc_X6_rent fit_X6_rent ⟨Nat.le_of_ble_eq_true rfl, Nat.le_of_ble_eq_true rfl, Nat.le_of_ble_eq_true rfl, Nat.le_of_ble_eq_true rfl⟩ (Nat.le_of_ble_eq_true rfl) dL_rent_5 rfl (j_xcatch C hT [] { startPc := 0, endPc := 10, handlerPc := 13, catchType := 21 } [{ startPc := 0, endPc := 10, handlerPc := 17, catchType := 13 }, { startPc := 0, endPc := 10, handlerPc := 21, catchType := 15 }] rfl (fun z hz => nomatch hz) rfl (by decide) ql_L_21 xa5_xIO (fun q => ?_))
  refine j_ast4 C dL_rent_13 (Nat.le_of_ble_eq_true rfl) rfl ?_
  refine j_iconst (v := (nI 1)) C dL_rent_15 (by decide) ?_
  exact j_iret C dL_rent_16 (by rfl) (by rfl) (by rfl)
set_option maxHeartbeats 4000000 in
theorem w_rent_xIA {l : Launch} {g : GC} {V V' : Mem} {L : LMem} {p0 p1 : Int32} (hM : TC l yX6_rent cX6_rent 4 (some .int) 8 g V L [.ref (ad g 223), .int p0, .int p1] xIA V' L) : WM l yL_rent cL_rent 5 (some .int) [(0, 10, 13, 21), (0, 10, 17, 13), (0, 10, 21, 15)] 9 1 6 g V L [.ref (ad g 223), .int p0, .int p1, .ref (ad g 230)] (some (.int (nI 2))) V' L := by
  refine WM.of [some (.ref (ad g 223)), some (.int p0), some (.int p1), some (.ref (ad g 230)), none] (by decide +kernel) rfl (Nat.le_of_ble_eq_true rfl) (fun p e s m args below meth c C hT => ?_)
  refine j_aload_n C dL_rent_0 rfl rfl ?_
  refine j_iconst (v := (nI 0)) C dL_rent_1 (by decide) ?_
  refine j_aload_n C dL_rent_2 rfl rfl ?_
  refine j_iload_n C dL_rent_3 rfl rfl ?_
  refine j_iload_n C dL_rent_4 rfl rfl ?_
  refine j_xcallV C (oa_X6 rfl) rfl rfl hM qm_L_23 qi_X6_rent qs_X6_rent qn_X6 qc_X6_rent fit_X6_rent ⟨Nat.le_of_ble_eq_true rfl, Nat.le_of_ble_eq_true rfl, Nat.le_of_ble_eq_true rfl, Nat.le_of_ble_eq_true rfl⟩ (Nat.le_of_ble_eq_true rfl) dL_rent_5 rfl (j_xcatch C hT [{ startPc := 0, endPc := 10, handlerPc := 13, catchType := 21 }] { startPc := 0, endPc := 10, handlerPc := 17, catchType := 13 } [{ startPc := 0, endPc := 10, handlerPc := 21, catchType := 15 }] rfl (List.forall_mem_cons.mpr ⟨⟨_, by decide, ql_L_21, nc_xIA_xIO⟩, (List.forall_mem_nil _)⟩) rfl (by decide) ql_L_13 xa5_xIA (fun q => ?_))
  refine j_ast4 C dL_rent_17 (Nat.le_of_ble_eq_true rfl) rfl ?_
  refine j_iconst (v := (nI 2)) C dL_rent_19 (by decide) ?_
  exact j_iret C dL_rent_20 (by rfl) (by rfl) (by rfl)
set_option maxHeartbeats 4000000 in
theorem w_rent_xIS {l : Launch} {g : GC} {V V' : Mem} {L : LMem} {p0 p1 : Int32} (hM : TC l yX6_rent cX6_rent 4 (some .int) 8 g V L [.ref (ad g 223), .int p0, .int p1] xIS V' L) : WM l yL_rent cL_rent 5 (some .int) [(0, 10, 13, 21), (0, 10, 17, 13), (0, 10, 21, 15)] 9 1 6 g V L [.ref (ad g 223), .int p0, .int p1, .ref (ad g 230)] (some (.int (nI 3))) V' L := by
  refine WM.of [some (.ref (ad g 223)), some (.int p0), some (.int p1), some (.ref (ad g 230)), none] (by decide +kernel) rfl (Nat.le_of_ble_eq_true rfl) (fun p e s m args below meth c C hT => ?_)
  refine j_aload_n C dL_rent_0 rfl rfl ?_
  refine j_iconst (v := (nI 0)) C dL_rent_1 (by decide) ?_
  refine j_aload_n C dL_rent_2 rfl rfl ?_
  refine j_iload_n C dL_rent_3 rfl rfl ?_
  refine j_iload_n C dL_rent_4 rfl rfl ?_
  refine j_xcallV C (oa_X6 rfl) rfl rfl hM qm_L_23 qi_X6_rent qs_X6_rent qn_X6 qc_X6_rent fit_X6_rent ⟨Nat.le_of_ble_eq_true rfl, Nat.le_of_ble_eq_true rfl, Nat.le_of_ble_eq_true rfl, Nat.le_of_ble_eq_true rfl⟩ (Nat.le_of_ble_eq_true rfl) dL_rent_5 rfl (j_xcatch C hT [{ startPc := 0, endPc := 10, handlerPc := 13, catchType := 21 }, { startPc := 0, endPc := 10, handlerPc := 17, catchType := 13 }] { startPc := 0, endPc := 10, handlerPc := 21, catchType := 15 } [] rfl (List.forall_mem_cons.mpr ⟨⟨_, by decide, ql_L_21, nc_xIS_xIO⟩, (List.forall_mem_cons.mpr ⟨⟨_, by decide, ql_L_13, nc_xIS_xIA⟩, (List.forall_mem_nil _)⟩)⟩) rfl (by decide) ql_L_15 xa5_xIS (fun q => ?_))
  refine j_ast4 C dL_rent_21 (Nat.le_of_ble_eq_true rfl) rfl ?_
  refine j_iconst (v := (nI 3)) C dL_rent_23 (by decide) ?_
  exact j_iret C dL_rent_24 (by rfl) (by rfl) (by rfl)
set_option maxHeartbeats 4000000 in
theorem w_endPart {l : Launch} {g : GC} {V V' : Mem} {L : LMem} {p0 p1 p2 : Int32} {r : Int32} (hM : MC l yX6_endPart cX6_endPart 5 (some .int) 5 g V L [.ref (ad g 223), .int p0, .int p1, .int p2] (some (.int r)) V' L) : WM l yL_endPart cL_endPart 6 (some .int) [(0, 12, 15, 21), (0, 12, 19, 13), (0, 12, 23, 15)] 9 0 0 g V L [.ref (ad g 223), .int p0, .int p1, .int p2, .ref (ad g 230)] (some (.int (nI 0))) V' (lset L 1 r.toInt64) := by
  refine WM.of [some (.ref (ad g 223)), some (.int p0), some (.int p1), some (.int p2), some (.ref (ad g 230)), none] (by decide +kernel) rfl (Nat.le_of_ble_eq_true rfl) (fun p e s m args below meth c C hT => ?_)
  refine j_aload C dL_endPart_0 rfl ?_
  refine j_iconst (v := (nI 0)) C dL_endPart_2 (by decide) ?_
  refine j_aload_n C dL_endPart_3 rfl rfl ?_
  refine j_iload_n C dL_endPart_4 rfl rfl ?_
  refine j_iload_n C dL_endPart_5 rfl rfl ?_
  refine j_iload_n C dL_endPart_6 rfl rfl ?_
  refine j_callV3r C (oa_X6 (by first | assumption | exact kd_sums (by assumption) | exact kd_st1 (by assumption) | exact kd_st2 (by assumption) | exact kd_ls (by first | assumption | rfl) (by assumption) | exact kd_sb (by first | assumption | rfl) (by assumption) | exact kd_sv (by assumption) | rfl)) rfl rfl (hM) qm_L_27 qi_X6_endPart qs_X6_endPart qn_X6 qc_X6_endPart fit_X6_endPart ⟨Nat.le_of_ble_eq_true rfl, Nat.le_of_ble_eq_true rfl, Nat.le_of_ble_eq_true rfl, Nat.le_of_ble_eq_true rfl⟩ (Nat.le_of_ble_eq_true rfl) dL_endPart_7 ?_
  refine j_i2l C dL_endPart_10 ?_
  refine j_last C dL_endPart_11 ?_
  refine j_goto (tgt := 27) C dL_endPart_12 (by decide) ?_
  refine j_iconst (v := (nI 0)) C dL_endPart_27 (by decide) ?_
  exact j_iret C dL_endPart_28 (by rfl) (by rfl) (by rfl)
set_option maxHeartbeats 4000000 in
theorem w_endPart_xIO {l : Launch} {g : GC} {V V' : Mem} {L : LMem} {p0 p1 p2 : Int32} (hM : TC l yX6_endPart cX6_endPart 5 (some .int) 8 g V L [.ref (ad g 223), .int p0, .int p1, .int p2] xIO V' L) : WM l yL_endPart cL_endPart 6 (some .int) [(0, 12, 15, 21), (0, 12, 19, 13), (0, 12, 23, 15)] 9 1 6 g V L [.ref (ad g 223), .int p0, .int p1, .int p2, .ref (ad g 230)] (some (.int (nI 1))) V' L := by
  refine WM.of [some (.ref (ad g 223)), some (.int p0), some (.int p1), some (.int p2), some (.ref (ad g 230)), none] (by decide +kernel) rfl (Nat.le_of_ble_eq_true rfl) (fun p e s m args below meth c C hT => ?_)
  refine j_aload C dL_endPart_0 rfl ?_
  refine j_iconst (v := (nI 0)) C dL_endPart_2 (by decide) ?_
  refine j_aload_n C dL_endPart_3 rfl rfl ?_
  refine j_iload_n C dL_endPart_4 rfl rfl ?_
  refine j_iload_n C dL_endPart_5 rfl rfl ?_
  refine j_iload_n C dL_endPart_6 rfl rfl ?_
  refine j_xcallV C (oa_X6 rfl) rfl rfl hM qm_L_27 qi_X6_endPart qs_X6_endPart qn_X6 qc_X6_endPart fit_X6_endPart ⟨Nat.le_of_ble_eq_true rfl, Nat.le_of_ble_eq_true rfl, Nat.le_of_ble_eq_true rfl, Nat.le_of_ble_eq_true rfl⟩ (Nat.le_of_ble_eq_true rfl) dL_endPart_7 rfl (j_xcatch C hT [] { startPc := 0, endPc := 12, handlerPc := 15, catchType := 21 } [{ startPc := 0, endPc := 12, handlerPc := 19, catchType := 13 }, { startPc := 0, endPc := 12, handlerPc := 23, catchType := 15 }] rfl (fun z hz => nomatch hz) rfl (by decide) ql_L_21 xa5_xIO (fun q => ?_))
  refine j_ast5 C dL_endPart_15 (Nat.le_of_ble_eq_true rfl) rfl ?_
  refine j_iconst (v := (nI 1)) C dL_endPart_17 (by decide) ?_
  exact j_iret C dL_endPart_18 (by rfl) (by rfl) (by rfl)
set_option maxHeartbeats 4000000 in
theorem w_endPart_xIA {l : Launch} {g : GC} {V V' : Mem} {L : LMem} {p0 p1 p2 : Int32} (hM : TC l yX6_endPart cX6_endPart 5 (some .int) 8 g V L [.ref (ad g 223), .int p0, .int p1, .int p2] xIA V' L) : WM l yL_endPart cL_endPart 6 (some .int) [(0, 12, 15, 21), (0, 12, 19, 13), (0, 12, 23, 15)] 9 1 6 g V L [.ref (ad g 223), .int p0, .int p1, .int p2, .ref (ad g 230)] (some (.int (nI 2))) V' L := by
  refine WM.of [some (.ref (ad g 223)), some (.int p0), some (.int p1), some (.int p2), some (.ref (ad g 230)), none] (by decide +kernel) rfl (Nat.le_of_ble_eq_true rfl) (fun p e s m args below meth c C hT => ?_)
  refine j_aload C dL_endPart_0 rfl ?_
  refine j_iconst (v := (nI 0)) C dL_endPart_2 (by decide) ?_
  refine j_aload_n C dL_endPart_3 rfl rfl ?_
  refine j_iload_n C dL_endPart_4 rfl rfl ?_
  refine j_iload_n C dL_endPart_5 rfl rfl ?_
  refine j_iload_n C dL_endPart_6 rfl rfl ?_
  refine j_xcallV C (oa_X6 rfl) rfl rfl hM qm_L_27 qi_X6_endPart qs_X6_endPart qn_X6 qc_X6_endPart fit_X6_endPart ⟨Nat.le_of_ble_eq_true rfl, Nat.le_of_ble_eq_true rfl, Nat.le_of_ble_eq_true rfl, Nat.le_of_ble_eq_true rfl⟩ (Nat.le_of_ble_eq_true rfl) dL_endPart_7 rfl (j_xcatch C hT [{ startPc := 0, endPc := 12, handlerPc := 15, catchType := 21 }] { startPc := 0, endPc := 12, handlerPc := 19, catchType := 13 } [{ startPc := 0, endPc := 12, handlerPc := 23, catchType := 15 }] rfl (List.forall_mem_cons.mpr ⟨⟨_, by decide, ql_L_21, nc_xIA_xIO⟩, (List.forall_mem_nil _)⟩) rfl (by decide) ql_L_13 xa5_xIA (fun q => ?_))
  refine j_ast5 C dL_endPart_19 (Nat.le_of_ble_eq_true rfl) rfl ?_
  refine j_iconst (v := (nI 2)) C dL_endPart_21 (by decide) ?_
  exact j_iret C dL_endPart_22 (by rfl) (by rfl) (by rfl)
set_option maxHeartbeats 4000000 in
theorem w_endPart_xIS {l : Launch} {g : GC} {V V' : Mem} {L : LMem} {p0 p1 p2 : Int32} (hM : TC l yX6_endPart cX6_endPart 5 (some .int) 8 g V L [.ref (ad g 223), .int p0, .int p1, .int p2] xIS V' L) : WM l yL_endPart cL_endPart 6 (some .int) [(0, 12, 15, 21), (0, 12, 19, 13), (0, 12, 23, 15)] 9 1 6 g V L [.ref (ad g 223), .int p0, .int p1, .int p2, .ref (ad g 230)] (some (.int (nI 3))) V' L := by
  refine WM.of [some (.ref (ad g 223)), some (.int p0), some (.int p1), some (.int p2), some (.ref (ad g 230)), none] (by decide +kernel) rfl (Nat.le_of_ble_eq_true rfl) (fun p e s m args below meth c C hT => ?_)
  refine j_aload C dL_endPart_0 rfl ?_
  refine j_iconst (v := (nI 0)) C dL_endPart_2 (by decide) ?_
  refine j_aload_n C dL_endPart_3 rfl rfl ?_
  refine j_iload_n C dL_endPart_4 rfl rfl ?_
  refine j_iload_n C dL_endPart_5 rfl rfl ?_
  refine j_iload_n C dL_endPart_6 rfl rfl ?_
  refine j_xcallV C (oa_X6 rfl) rfl rfl hM qm_L_27 qi_X6_endPart qs_X6_endPart qn_X6 qc_X6_endPart fit_X6_endPart ⟨Nat.le_of_ble_eq_true rfl, Nat.le_of_ble_eq_true rfl, Nat.le_of_ble_eq_true rfl, Nat.le_of_ble_eq_true rfl⟩ (Nat.le_of_ble_eq_true rfl) dL_endPart_7 rfl (j_xcatch C hT [{ startPc := 0, endPc := 12, handlerPc := 15, catchType := 21 }, { startPc := 0, endPc := 12, handlerPc := 19, catchType := 13 }] { startPc := 0, endPc := 12, handlerPc := 23, catchType := 15 } [] rfl (List.forall_mem_cons.mpr ⟨⟨_, by decide, ql_L_21, nc_xIS_xIO⟩, (List.forall_mem_cons.mpr ⟨⟨_, by decide, ql_L_13, nc_xIS_xIA⟩, (List.forall_mem_nil _)⟩)⟩) rfl (by decide) ql_L_15 xa5_xIS (fun q => ?_))
  refine j_ast5 C dL_endPart_23 (Nat.le_of_ble_eq_true rfl) rfl ?_
  refine j_iconst (v := (nI 3)) C dL_endPart_25 (by decide) ?_
  exact j_iret C dL_endPart_26 (by rfl) (by rfl) (by rfl)
set_option maxHeartbeats 4000000 in
theorem w_impair {l : Launch} {g : GC} {V V' : Mem} {L : LMem} {p0 p1 : Int32} {r : Int32} (hM : MC l yX6_impair cX6_impair 4 (some .int) 5 g V L [.ref (ad g 223), .int p0, .int p1] (some (.int r)) V' L) : WM l yL_impair cL_impair 5 (some .int) [(0, 10, 13, 21), (0, 10, 17, 13), (0, 10, 21, 15)] 9 0 0 g V L [.ref (ad g 223), .int p0, .int p1, .ref (ad g 230)] (some (.int (nI 0))) V' (lset L 1 r.toInt64) := by
  refine WM.of [some (.ref (ad g 223)), some (.int p0), some (.int p1), some (.ref (ad g 230)), none] (by decide +kernel) rfl (Nat.le_of_ble_eq_true rfl) (fun p e s m args below meth c C hT => ?_)
  refine j_aload_n C dL_impair_0 rfl rfl ?_
  refine j_iconst (v := (nI 0)) C dL_impair_1 (by decide) ?_
  refine j_aload_n C dL_impair_2 rfl rfl ?_
  refine j_iload_n C dL_impair_3 rfl rfl ?_
  refine j_iload_n C dL_impair_4 rfl rfl ?_
  refine j_callV2r C (oa_X6 (by first | assumption | exact kd_sums (by assumption) | exact kd_st1 (by assumption) | exact kd_st2 (by assumption) | exact kd_ls (by first | assumption | rfl) (by assumption) | exact kd_sb (by first | assumption | rfl) (by assumption) | exact kd_sv (by assumption) | rfl)) rfl rfl (hM) qm_L_30 qi_X6_impair qs_X6_impair qn_X6 qc_X6_impair fit_X6_impair ⟨Nat.le_of_ble_eq_true rfl, Nat.le_of_ble_eq_true rfl, Nat.le_of_ble_eq_true rfl, Nat.le_of_ble_eq_true rfl⟩ (Nat.le_of_ble_eq_true rfl) dL_impair_5 ?_
  refine j_i2l C dL_impair_8 ?_
  refine j_last C dL_impair_9 ?_
  refine j_goto (tgt := 25) C dL_impair_10 (by decide) ?_
  refine j_iconst (v := (nI 0)) C dL_impair_25 (by decide) ?_
  exact j_iret C dL_impair_26 (by rfl) (by rfl) (by rfl)
set_option maxHeartbeats 4000000 in
theorem w_impair_xIO {l : Launch} {g : GC} {V V' : Mem} {L : LMem} {p0 p1 : Int32} (hM : TC l yX6_impair cX6_impair 4 (some .int) 8 g V L [.ref (ad g 223), .int p0, .int p1] xIO V' L) : WM l yL_impair cL_impair 5 (some .int) [(0, 10, 13, 21), (0, 10, 17, 13), (0, 10, 21, 15)] 9 1 6 g V L [.ref (ad g 223), .int p0, .int p1, .ref (ad g 230)] (some (.int (nI 1))) V' L := by
  refine WM.of [some (.ref (ad g 223)), some (.int p0), some (.int p1), some (.ref (ad g 230)), none] (by decide +kernel) rfl (Nat.le_of_ble_eq_true rfl) (fun p e s m args below meth c C hT => ?_)
  refine j_aload_n C dL_impair_0 rfl rfl ?_
  refine j_iconst (v := (nI 0)) C dL_impair_1 (by decide) ?_
  refine j_aload_n C dL_impair_2 rfl rfl ?_
  refine j_iload_n C dL_impair_3 rfl rfl ?_
  refine j_iload_n C dL_impair_4 rfl rfl ?_
  refine j_xcallV C (oa_X6 rfl) rfl rfl hM qm_L_30 qi_X6_impair qs_X6_impair qn_X6 qc_X6_impair fit_X6_impair ⟨Nat.le_of_ble_eq_true rfl, Nat.le_of_ble_eq_true rfl, Nat.le_of_ble_eq_true rfl, Nat.le_of_ble_eq_true rfl⟩ (Nat.le_of_ble_eq_true rfl) dL_impair_5 rfl (j_xcatch C hT [] { startPc := 0, endPc := 10, handlerPc := 13, catchType := 21 } [{ startPc := 0, endPc := 10, handlerPc := 17, catchType := 13 }, { startPc := 0, endPc := 10, handlerPc := 21, catchType := 15 }] rfl (fun z hz => nomatch hz) rfl (by decide) ql_L_21 xa5_xIO (fun q => ?_))
  refine j_ast4 C dL_impair_13 (Nat.le_of_ble_eq_true rfl) rfl ?_
  refine j_iconst (v := (nI 1)) C dL_impair_15 (by decide) ?_
  exact j_iret C dL_impair_16 (by rfl) (by rfl) (by rfl)
set_option maxHeartbeats 4000000 in
theorem w_impair_xIA {l : Launch} {g : GC} {V V' : Mem} {L : LMem} {p0 p1 : Int32} (hM : TC l yX6_impair cX6_impair 4 (some .int) 8 g V L [.ref (ad g 223), .int p0, .int p1] xIA V' L) : WM l yL_impair cL_impair 5 (some .int) [(0, 10, 13, 21), (0, 10, 17, 13), (0, 10, 21, 15)] 9 1 6 g V L [.ref (ad g 223), .int p0, .int p1, .ref (ad g 230)] (some (.int (nI 2))) V' L := by
  refine WM.of [some (.ref (ad g 223)), some (.int p0), some (.int p1), some (.ref (ad g 230)), none] (by decide +kernel) rfl (Nat.le_of_ble_eq_true rfl) (fun p e s m args below meth c C hT => ?_)
  refine j_aload_n C dL_impair_0 rfl rfl ?_
  refine j_iconst (v := (nI 0)) C dL_impair_1 (by decide) ?_
  refine j_aload_n C dL_impair_2 rfl rfl ?_
  refine j_iload_n C dL_impair_3 rfl rfl ?_
  refine j_iload_n C dL_impair_4 rfl rfl ?_
  refine j_xcallV C (oa_X6 rfl) rfl rfl hM qm_L_30 qi_X6_impair qs_X6_impair qn_X6 qc_X6_impair fit_X6_impair ⟨Nat.le_of_ble_eq_true rfl, Nat.le_of_ble_eq_true rfl, Nat.le_of_ble_eq_true rfl, Nat.le_of_ble_eq_true rfl⟩ (Nat.le_of_ble_eq_true rfl) dL_impair_5 rfl (j_xcatch C hT [{ startPc := 0, endPc := 10, handlerPc := 13, catchType := 21 }] { startPc := 0, endPc := 10, handlerPc := 17, catchType := 13 } [{ startPc := 0, endPc := 10, handlerPc := 21, catchType := 15 }] rfl (List.forall_mem_cons.mpr ⟨⟨_, by decide, ql_L_21, nc_xIA_xIO⟩, (List.forall_mem_nil _)⟩) rfl (by decide) ql_L_13 xa5_xIA (fun q => ?_))
  refine j_ast4 C dL_impair_17 (Nat.le_of_ble_eq_true rfl) rfl ?_
  refine j_iconst (v := (nI 2)) C dL_impair_19 (by decide) ?_
  exact j_iret C dL_impair_20 (by rfl) (by rfl) (by rfl)
set_option maxHeartbeats 4000000 in
theorem w_impair_xIS {l : Launch} {g : GC} {V V' : Mem} {L : LMem} {p0 p1 : Int32} (hM : TC l yX6_impair cX6_impair 4 (some .int) 8 g V L [.ref (ad g 223), .int p0, .int p1] xIS V' L) : WM l yL_impair cL_impair 5 (some .int) [(0, 10, 13, 21), (0, 10, 17, 13), (0, 10, 21, 15)] 9 1 6 g V L [.ref (ad g 223), .int p0, .int p1, .ref (ad g 230)] (some (.int (nI 3))) V' L := by
  refine WM.of [some (.ref (ad g 223)), some (.int p0), some (.int p1), some (.ref (ad g 230)), none] (by decide +kernel) rfl (Nat.le_of_ble_eq_true rfl) (fun p e s m args below meth c C hT => ?_)
  refine j_aload_n C dL_impair_0 rfl rfl ?_
  refine j_iconst (v := (nI 0)) C dL_impair_1 (by decide) ?_
  refine j_aload_n C dL_impair_2 rfl rfl ?_
  refine j_iload_n C dL_impair_3 rfl rfl ?_
  refine j_iload_n C dL_impair_4 rfl rfl ?_
  refine j_xcallV C (oa_X6 rfl) rfl rfl hM qm_L_30 qi_X6_impair qs_X6_impair qn_X6 qc_X6_impair fit_X6_impair ⟨Nat.le_of_ble_eq_true rfl, Nat.le_of_ble_eq_true rfl, Nat.le_of_ble_eq_true rfl, Nat.le_of_ble_eq_true rfl⟩ (Nat.le_of_ble_eq_true rfl) dL_impair_5 rfl (j_xcatch C hT [{ startPc := 0, endPc := 10, handlerPc := 13, catchType := 21 }, { startPc := 0, endPc := 10, handlerPc := 17, catchType := 13 }] { startPc := 0, endPc := 10, handlerPc := 21, catchType := 15 } [] rfl (List.forall_mem_cons.mpr ⟨⟨_, by decide, ql_L_21, nc_xIS_xIO⟩, (List.forall_mem_cons.mpr ⟨⟨_, by decide, ql_L_13, nc_xIS_xIA⟩, (List.forall_mem_nil _)⟩)⟩) rfl (by decide) ql_L_15 xa5_xIS (fun q => ?_))
  refine j_ast4 C dL_impair_21 (Nat.le_of_ble_eq_true rfl) rfl ?_
  refine j_iconst (v := (nI 3)) C dL_impair_23 (by decide) ?_
  exact j_iret C dL_impair_24 (by rfl) (by rfl) (by rfl)
set_option maxHeartbeats 4000000 in
theorem w_sublet {l : Launch} {g : GC} {V V' : Mem} {L : LMem} {p0 p1 p2 p3 : Int32} {r : Int32} (hM : MC l yX6_sublet cX6_sublet 6 (some .int) 5 g V L [.ref (ad g 223), .int p0, .int p1, .int p2, .int p3] (some (.int r)) V' L) : WM l yL_sublet cL_sublet 7 (some .int) [(0, 14, 17, 21), (0, 14, 21, 13), (0, 14, 25, 15)] 9 0 0 g V L [.ref (ad g 223), .int p0, .int p1, .int p2, .int p3, .ref (ad g 230)] (some (.int (nI 0))) V' (lset L 1 r.toInt64) := by
  refine WM.of [some (.ref (ad g 223)), some (.int p0), some (.int p1), some (.int p2), some (.int p3), some (.ref (ad g 230)), none] (by decide +kernel) rfl (Nat.le_of_ble_eq_true rfl) (fun p e s m args below meth c C hT => ?_)
  refine j_aload C dL_sublet_0 rfl ?_
  refine j_iconst (v := (nI 0)) C dL_sublet_2 (by decide) ?_
  refine j_aload_n C dL_sublet_3 rfl rfl ?_
  refine j_iload_n C dL_sublet_4 rfl rfl ?_
  refine j_iload_n C dL_sublet_5 rfl rfl ?_
  refine j_iload_n C dL_sublet_6 rfl rfl ?_
  refine j_iload C dL_sublet_7 rfl ?_
  refine j_callV4r C (oa_X6 (by first | assumption | exact kd_sums (by assumption) | exact kd_st1 (by assumption) | exact kd_st2 (by assumption) | exact kd_ls (by first | assumption | rfl) (by assumption) | exact kd_sb (by first | assumption | rfl) (by assumption) | exact kd_sv (by assumption) | rfl)) rfl rfl (hM) qm_L_33 qi_X6_sublet qs_X6_sublet qn_X6 qc_X6_sublet fit_X6_sublet ⟨Nat.le_of_ble_eq_true rfl, Nat.le_of_ble_eq_true rfl, Nat.le_of_ble_eq_true rfl, Nat.le_of_ble_eq_true rfl⟩ (Nat.le_of_ble_eq_true rfl) dL_sublet_9 ?_
  refine j_i2l C dL_sublet_12 ?_
  refine j_last C dL_sublet_13 ?_
  refine j_goto (tgt := 29) C dL_sublet_14 (by decide) ?_
  refine j_iconst (v := (nI 0)) C dL_sublet_29 (by decide) ?_
  exact j_iret C dL_sublet_30 (by rfl) (by rfl) (by rfl)
set_option maxHeartbeats 4000000 in
theorem w_sublet_xIO {l : Launch} {g : GC} {V V' : Mem} {L : LMem} {p0 p1 p2 p3 : Int32} (hM : TC l yX6_sublet cX6_sublet 6 (some .int) 8 g V L [.ref (ad g 223), .int p0, .int p1, .int p2, .int p3] xIO V' L) : WM l yL_sublet cL_sublet 7 (some .int) [(0, 14, 17, 21), (0, 14, 21, 13), (0, 14, 25, 15)] 9 1 6 g V L [.ref (ad g 223), .int p0, .int p1, .int p2, .int p3, .ref (ad g 230)] (some (.int (nI 1))) V' L := by
  refine WM.of [some (.ref (ad g 223)), some (.int p0), some (.int p1), some (.int p2), some (.int p3), some (.ref (ad g 230)), none] (by decide +kernel) rfl (Nat.le_of_ble_eq_true rfl) (fun p e s m args below meth c C hT => ?_)
  refine j_aload C dL_sublet_0 rfl ?_
  refine j_iconst (v := (nI 0)) C dL_sublet_2 (by decide) ?_
  refine j_aload_n C dL_sublet_3 rfl rfl ?_
  refine j_iload_n C dL_sublet_4 rfl rfl ?_
  refine j_iload_n C dL_sublet_5 rfl rfl ?_
  refine j_iload_n C dL_sublet_6 rfl rfl ?_
  refine j_iload C dL_sublet_7 rfl ?_
  refine j_xcallV C (oa_X6 rfl) rfl rfl hM qm_L_33 qi_X6_sublet qs_X6_sublet qn_X6 qc_X6_sublet fit_X6_sublet ⟨Nat.le_of_ble_eq_true rfl, Nat.le_of_ble_eq_true rfl, Nat.le_of_ble_eq_true rfl, Nat.le_of_ble_eq_true rfl⟩ (Nat.le_of_ble_eq_true rfl) dL_sublet_9 rfl (j_xcatch C hT [] { startPc := 0, endPc := 14, handlerPc := 17, catchType := 21 } [{ startPc := 0, endPc := 14, handlerPc := 21, catchType := 13 }, { startPc := 0, endPc := 14, handlerPc := 25, catchType := 15 }] rfl (fun z hz => nomatch hz) rfl (by decide) ql_L_21 xa5_xIO (fun q => ?_))
  refine j_ast6 C dL_sublet_17 (Nat.le_of_ble_eq_true rfl) rfl ?_
  refine j_iconst (v := (nI 1)) C dL_sublet_19 (by decide) ?_
  exact j_iret C dL_sublet_20 (by rfl) (by rfl) (by rfl)
set_option maxHeartbeats 4000000 in
theorem w_sublet_xIA {l : Launch} {g : GC} {V V' : Mem} {L : LMem} {p0 p1 p2 p3 : Int32} (hM : TC l yX6_sublet cX6_sublet 6 (some .int) 8 g V L [.ref (ad g 223), .int p0, .int p1, .int p2, .int p3] xIA V' L) : WM l yL_sublet cL_sublet 7 (some .int) [(0, 14, 17, 21), (0, 14, 21, 13), (0, 14, 25, 15)] 9 1 6 g V L [.ref (ad g 223), .int p0, .int p1, .int p2, .int p3, .ref (ad g 230)] (some (.int (nI 2))) V' L := by
  refine WM.of [some (.ref (ad g 223)), some (.int p0), some (.int p1), some (.int p2), some (.int p3), some (.ref (ad g 230)), none] (by decide +kernel) rfl (Nat.le_of_ble_eq_true rfl) (fun p e s m args below meth c C hT => ?_)
  refine j_aload C dL_sublet_0 rfl ?_
  refine j_iconst (v := (nI 0)) C dL_sublet_2 (by decide) ?_
  refine j_aload_n C dL_sublet_3 rfl rfl ?_
  refine j_iload_n C dL_sublet_4 rfl rfl ?_
  refine j_iload_n C dL_sublet_5 rfl rfl ?_
  refine j_iload_n C dL_sublet_6 rfl rfl ?_
  refine j_iload C dL_sublet_7 rfl ?_
  refine j_xcallV C (oa_X6 rfl) rfl rfl hM qm_L_33 qi_X6_sublet qs_X6_sublet qn_X6 qc_X6_sublet fit_X6_sublet ⟨Nat.le_of_ble_eq_true rfl, Nat.le_of_ble_eq_true rfl, Nat.le_of_ble_eq_true rfl, Nat.le_of_ble_eq_true rfl⟩ (Nat.le_of_ble_eq_true rfl) dL_sublet_9 rfl (j_xcatch C hT [{ startPc := 0, endPc := 14, handlerPc := 17, catchType := 21 }] { startPc := 0, endPc := 14, handlerPc := 21, catchType := 13 } [{ startPc := 0, endPc := 14, handlerPc := 25, catchType := 15 }] rfl (List.forall_mem_cons.mpr ⟨⟨_, by decide, ql_L_21, nc_xIA_xIO⟩, (List.forall_mem_nil _)⟩) rfl (by decide) ql_L_13 xa5_xIA (fun q => ?_))
  refine j_ast6 C dL_sublet_21 (Nat.le_of_ble_eq_true rfl) rfl ?_
  refine j_iconst (v := (nI 2)) C dL_sublet_23 (by decide) ?_
  exact j_iret C dL_sublet_24 (by rfl) (by rfl) (by rfl)
set_option maxHeartbeats 4000000 in
theorem w_sublet_xIS {l : Launch} {g : GC} {V V' : Mem} {L : LMem} {p0 p1 p2 p3 : Int32} (hM : TC l yX6_sublet cX6_sublet 6 (some .int) 8 g V L [.ref (ad g 223), .int p0, .int p1, .int p2, .int p3] xIS V' L) : WM l yL_sublet cL_sublet 7 (some .int) [(0, 14, 17, 21), (0, 14, 21, 13), (0, 14, 25, 15)] 9 1 6 g V L [.ref (ad g 223), .int p0, .int p1, .int p2, .int p3, .ref (ad g 230)] (some (.int (nI 3))) V' L := by
  refine WM.of [some (.ref (ad g 223)), some (.int p0), some (.int p1), some (.int p2), some (.int p3), some (.ref (ad g 230)), none] (by decide +kernel) rfl (Nat.le_of_ble_eq_true rfl) (fun p e s m args below meth c C hT => ?_)
  refine j_aload C dL_sublet_0 rfl ?_
  refine j_iconst (v := (nI 0)) C dL_sublet_2 (by decide) ?_
  refine j_aload_n C dL_sublet_3 rfl rfl ?_
  refine j_iload_n C dL_sublet_4 rfl rfl ?_
  refine j_iload_n C dL_sublet_5 rfl rfl ?_
  refine j_iload_n C dL_sublet_6 rfl rfl ?_
  refine j_iload C dL_sublet_7 rfl ?_
  refine j_xcallV C (oa_X6 rfl) rfl rfl hM qm_L_33 qi_X6_sublet qs_X6_sublet qn_X6 qc_X6_sublet fit_X6_sublet ⟨Nat.le_of_ble_eq_true rfl, Nat.le_of_ble_eq_true rfl, Nat.le_of_ble_eq_true rfl, Nat.le_of_ble_eq_true rfl⟩ (Nat.le_of_ble_eq_true rfl) dL_sublet_9 rfl (j_xcatch C hT [{ startPc := 0, endPc := 14, handlerPc := 17, catchType := 21 }, { startPc := 0, endPc := 14, handlerPc := 21, catchType := 13 }] { startPc := 0, endPc := 14, handlerPc := 25, catchType := 15 } [] rfl (List.forall_mem_cons.mpr ⟨⟨_, by decide, ql_L_21, nc_xIS_xIO⟩, (List.forall_mem_cons.mpr ⟨⟨_, by decide, ql_L_13, nc_xIS_xIA⟩, (List.forall_mem_nil _)⟩)⟩) rfl (by decide) ql_L_15 xa5_xIS (fun q => ?_))
  refine j_ast6 C dL_sublet_25 (Nat.le_of_ble_eq_true rfl) rfl ?_
  refine j_iconst (v := (nI 3)) C dL_sublet_27 (by decide) ?_
  exact j_iret C dL_sublet_28 (by rfl) (by rfl) (by rfl)
set_option maxHeartbeats 4000000 in
theorem w_pass {l : Launch} {g : GC} {V V' : Mem} {L : LMem} {p0 : Int32} {r : Int32} (hM : MC l yX6_pass cX6_pass 2 (some .int) 5 g V L [.ref (ad g 223), .int p0] (some (.int r)) V' L) : WM l yL_pass cL_pass 4 (some .int) [(0, 9, 12, 13), (0, 9, 15, 15)] 9 0 0 g V L [.ref (ad g 223), .int p0, .ref (ad g 230)] (some (.int (nI 0))) V' (lset L 1 r.toInt64) := by
  refine WM.of [some (.ref (ad g 223)), some (.int p0), some (.ref (ad g 230)), none] (by decide +kernel) rfl (Nat.le_of_ble_eq_true rfl) (fun p e s m args below meth c C hT => ?_)
  refine j_aload_n C dL_pass_0 rfl rfl ?_
  refine j_iconst (v := (nI 0)) C dL_pass_1 (by decide) ?_
  refine j_aload_n C dL_pass_2 rfl rfl ?_
  refine j_iload_n C dL_pass_3 rfl rfl ?_
  refine j_callV1r C (oa_X6 (by first | assumption | exact kd_sums (by assumption) | exact kd_st1 (by assumption) | exact kd_st2 (by assumption) | exact kd_ls (by first | assumption | rfl) (by assumption) | exact kd_sb (by first | assumption | rfl) (by assumption) | exact kd_sv (by assumption) | rfl)) rfl rfl (hM) qm_L_36 qi_X6_pass qs_X6_pass qn_X6 qc_X6_pass fit_X6_pass ⟨Nat.le_of_ble_eq_true rfl, Nat.le_of_ble_eq_true rfl, Nat.le_of_ble_eq_true rfl, Nat.le_of_ble_eq_true rfl⟩ (Nat.le_of_ble_eq_true rfl) dL_pass_4 ?_
  refine j_i2l C dL_pass_7 ?_
  refine j_last C dL_pass_8 ?_
  refine j_goto (tgt := 18) C dL_pass_9 (by decide) ?_
  refine j_iconst (v := (nI 0)) C dL_pass_18 (by decide) ?_
  exact j_iret C dL_pass_19 (by rfl) (by rfl) (by rfl)
set_option maxHeartbeats 4000000 in
theorem w_pass_xIA {l : Launch} {g : GC} {V V' : Mem} {L : LMem} {p0 : Int32} (hM : TC l yX6_pass cX6_pass 2 (some .int) 8 g V L [.ref (ad g 223), .int p0] xIA V' L) : WM l yL_pass cL_pass 4 (some .int) [(0, 9, 12, 13), (0, 9, 15, 15)] 9 1 6 g V L [.ref (ad g 223), .int p0, .ref (ad g 230)] (some (.int (nI 1))) V' L := by
  refine WM.of [some (.ref (ad g 223)), some (.int p0), some (.ref (ad g 230)), none] (by decide +kernel) rfl (Nat.le_of_ble_eq_true rfl) (fun p e s m args below meth c C hT => ?_)
  refine j_aload_n C dL_pass_0 rfl rfl ?_
  refine j_iconst (v := (nI 0)) C dL_pass_1 (by decide) ?_
  refine j_aload_n C dL_pass_2 rfl rfl ?_
  refine j_iload_n C dL_pass_3 rfl rfl ?_
  refine j_xcallV C (oa_X6 rfl) rfl rfl hM qm_L_36 qi_X6_pass qs_X6_pass qn_X6 qc_X6_pass fit_X6_pass ⟨Nat.le_of_ble_eq_true rfl, Nat.le_of_ble_eq_true rfl, Nat.le_of_ble_eq_true rfl, Nat.le_of_ble_eq_true rfl⟩ (Nat.le_of_ble_eq_true rfl) dL_pass_4 rfl (j_xcatch C hT [] { startPc := 0, endPc := 9, handlerPc := 12, catchType := 13 } [{ startPc := 0, endPc := 9, handlerPc := 15, catchType := 15 }] rfl (fun z hz => nomatch hz) rfl (by decide) ql_L_13 xa5_xIA (fun q => ?_))
  refine j_ast3 C dL_pass_12 rfl (Nat.le_of_ble_eq_true rfl) rfl ?_
  refine j_iconst (v := (nI 1)) C dL_pass_13 (by decide) ?_
  exact j_iret C dL_pass_14 (by rfl) (by rfl) (by rfl)
set_option maxHeartbeats 4000000 in
theorem w_pass_xIS {l : Launch} {g : GC} {V V' : Mem} {L : LMem} {p0 : Int32} (hM : TC l yX6_pass cX6_pass 2 (some .int) 8 g V L [.ref (ad g 223), .int p0] xIS V' L) : WM l yL_pass cL_pass 4 (some .int) [(0, 9, 12, 13), (0, 9, 15, 15)] 9 1 6 g V L [.ref (ad g 223), .int p0, .ref (ad g 230)] (some (.int (nI 2))) V' L := by
  refine WM.of [some (.ref (ad g 223)), some (.int p0), some (.ref (ad g 230)), none] (by decide +kernel) rfl (Nat.le_of_ble_eq_true rfl) (fun p e s m args below meth c C hT => ?_)
  refine j_aload_n C dL_pass_0 rfl rfl ?_
  refine j_iconst (v := (nI 0)) C dL_pass_1 (by decide) ?_
  refine j_aload_n C dL_pass_2 rfl rfl ?_
  refine j_iload_n C dL_pass_3 rfl rfl ?_
  refine j_xcallV C (oa_X6 rfl) rfl rfl hM qm_L_36 qi_X6_pass qs_X6_pass qn_X6 qc_X6_pass fit_X6_pass ⟨Nat.le_of_ble_eq_true rfl, Nat.le_of_ble_eq_true rfl, Nat.le_of_ble_eq_true rfl, Nat.le_of_ble_eq_true rfl⟩ (Nat.le_of_ble_eq_true rfl) dL_pass_4 rfl (j_xcatch C hT [{ startPc := 0, endPc := 9, handlerPc := 12, catchType := 13 }] { startPc := 0, endPc := 9, handlerPc := 15, catchType := 15 } [] rfl (List.forall_mem_cons.mpr ⟨⟨_, by decide, ql_L_13, nc_xIS_xIA⟩, (List.forall_mem_nil _)⟩) rfl (by decide) ql_L_15 xa5_xIS (fun q => ?_))
  refine j_ast3 C dL_pass_15 rfl (Nat.le_of_ble_eq_true rfl) rfl ?_
  refine j_iconst (v := (nI 2)) C dL_pass_16 (by decide) ?_
  exact j_iret C dL_pass_17 (by rfl) (by rfl) (by rfl)
set_option maxHeartbeats 4000000 in
theorem w_append {l : Launch} {g : GC} {V V' : Mem} {L : LMem} {p0 : Int32} {r : Int32} (hM : MC l yX6_append cX6_append 2 (some .int) 5 g V L [.ref (ad g 223), .int p0] (some (.int r)) V' L) : WM l yL_append cL_append 4 (some .int) [(0, 9, 12, 13), (0, 9, 15, 15)] 9 0 0 g V L [.ref (ad g 223), .int p0, .ref (ad g 230)] (some (.int (nI 0))) V' (lset L 1 r.toInt64) := by
  refine WM.of [some (.ref (ad g 223)), some (.int p0), some (.ref (ad g 230)), none] (by decide +kernel) rfl (Nat.le_of_ble_eq_true rfl) (fun p e s m args below meth c C hT => ?_)
  refine j_aload_n C dL_append_0 rfl rfl ?_
  refine j_iconst (v := (nI 0)) C dL_append_1 (by decide) ?_
  refine j_aload_n C dL_append_2 rfl rfl ?_
  refine j_iload_n C dL_append_3 rfl rfl ?_
  refine j_callV1r C (oa_X6 (by first | assumption | exact kd_sums (by assumption) | exact kd_st1 (by assumption) | exact kd_st2 (by assumption) | exact kd_ls (by first | assumption | rfl) (by assumption) | exact kd_sb (by first | assumption | rfl) (by assumption) | exact kd_sv (by assumption) | rfl)) rfl rfl (hM) qm_L_40 qi_X6_append qs_X6_append qn_X6 qc_X6_append fit_X6_append ⟨Nat.le_of_ble_eq_true rfl, Nat.le_of_ble_eq_true rfl, Nat.le_of_ble_eq_true rfl, Nat.le_of_ble_eq_true rfl⟩ (Nat.le_of_ble_eq_true rfl) dL_append_4 ?_
  refine j_i2l C dL_append_7 ?_
  refine j_last C dL_append_8 ?_
  refine j_goto (tgt := 18) C dL_append_9 (by decide) ?_
  refine j_iconst (v := (nI 0)) C dL_append_18 (by decide) ?_
  exact j_iret C dL_append_19 (by rfl) (by rfl) (by rfl)
set_option maxHeartbeats 4000000 in
theorem w_append_xIA {l : Launch} {g : GC} {V V' : Mem} {L : LMem} {p0 : Int32} (hM : TC l yX6_append cX6_append 2 (some .int) 8 g V L [.ref (ad g 223), .int p0] xIA V' L) : WM l yL_append cL_append 4 (some .int) [(0, 9, 12, 13), (0, 9, 15, 15)] 9 1 6 g V L [.ref (ad g 223), .int p0, .ref (ad g 230)] (some (.int (nI 1))) V' L := by
  refine WM.of [some (.ref (ad g 223)), some (.int p0), some (.ref (ad g 230)), none] (by decide +kernel) rfl (Nat.le_of_ble_eq_true rfl) (fun p e s m args below meth c C hT => ?_)
  refine j_aload_n C dL_append_0 rfl rfl ?_
  refine j_iconst (v := (nI 0)) C dL_append_1 (by decide) ?_
  refine j_aload_n C dL_append_2 rfl rfl ?_
  refine j_iload_n C dL_append_3 rfl rfl ?_
  refine j_xcallV C (oa_X6 rfl) rfl rfl hM qm_L_40 qi_X6_append qs_X6_append qn_X6 qc_X6_append fit_X6_append ⟨Nat.le_of_ble_eq_true rfl, Nat.le_of_ble_eq_true rfl, Nat.le_of_ble_eq_true rfl, Nat.le_of_ble_eq_true rfl⟩ (Nat.le_of_ble_eq_true rfl) dL_append_4 rfl (j_xcatch C hT [] { startPc := 0, endPc := 9, handlerPc := 12, catchType := 13 } [{ startPc := 0, endPc := 9, handlerPc := 15, catchType := 15 }] rfl (fun z hz => nomatch hz) rfl (by decide) ql_L_13 xa5_xIA (fun q => ?_))
  refine j_ast3 C dL_append_12 rfl (Nat.le_of_ble_eq_true rfl) rfl ?_
  refine j_iconst (v := (nI 1)) C dL_append_13 (by decide) ?_
  exact j_iret C dL_append_14 (by rfl) (by rfl) (by rfl)
set_option maxHeartbeats 4000000 in
theorem w_append_xIS {l : Launch} {g : GC} {V V' : Mem} {L : LMem} {p0 : Int32} (hM : TC l yX6_append cX6_append 2 (some .int) 8 g V L [.ref (ad g 223), .int p0] xIS V' L) : WM l yL_append cL_append 4 (some .int) [(0, 9, 12, 13), (0, 9, 15, 15)] 9 1 6 g V L [.ref (ad g 223), .int p0, .ref (ad g 230)] (some (.int (nI 2))) V' L := by
  refine WM.of [some (.ref (ad g 223)), some (.int p0), some (.ref (ad g 230)), none] (by decide +kernel) rfl (Nat.le_of_ble_eq_true rfl) (fun p e s m args below meth c C hT => ?_)
  refine j_aload_n C dL_append_0 rfl rfl ?_
  refine j_iconst (v := (nI 0)) C dL_append_1 (by decide) ?_
  refine j_aload_n C dL_append_2 rfl rfl ?_
  refine j_iload_n C dL_append_3 rfl rfl ?_
  refine j_xcallV C (oa_X6 rfl) rfl rfl hM qm_L_40 qi_X6_append qs_X6_append qn_X6 qc_X6_append fit_X6_append ⟨Nat.le_of_ble_eq_true rfl, Nat.le_of_ble_eq_true rfl, Nat.le_of_ble_eq_true rfl, Nat.le_of_ble_eq_true rfl⟩ (Nat.le_of_ble_eq_true rfl) dL_append_4 rfl (j_xcatch C hT [{ startPc := 0, endPc := 9, handlerPc := 12, catchType := 13 }] { startPc := 0, endPc := 9, handlerPc := 15, catchType := 15 } [] rfl (List.forall_mem_cons.mpr ⟨⟨_, by decide, ql_L_13, nc_xIS_xIA⟩, (List.forall_mem_nil _)⟩) rfl (by decide) ql_L_15 xa5_xIS (fun q => ?_))
  refine j_ast3 C dL_append_15 rfl (Nat.le_of_ble_eq_true rfl) rfl ?_
  refine j_iconst (v := (nI 2)) C dL_append_16 (by decide) ?_
  exact j_iret C dL_append_17 (by rfl) (by rfl) (by rfl)
set_option maxHeartbeats 4000000 in
theorem w_openAll {l : Launch} {g : GC} {V V' : Mem} {L : LMem} {r : Int32} (hM : MC l yX6_openAll cX6_openAll 2 (some .int) 5 g V L [.ref (ad g 223)] (some (.int r)) V' L) : WM l yL_openAll cL_openAll 3 (some .int) [(0, 8, 11, 13), (0, 8, 14, 15)] 9 0 0 g V L [.ref (ad g 223), .ref (ad g 230)] (some (.int (nI 0))) V' (lset L 1 r.toInt64) := by
  refine WM.of [some (.ref (ad g 223)), some (.ref (ad g 230)), none] (by decide +kernel) rfl (Nat.le_of_ble_eq_true rfl) (fun p e s m args below meth c C hT => ?_)
  refine j_aload_n C dL_openAll_0 rfl rfl ?_
  refine j_iconst (v := (nI 0)) C dL_openAll_1 (by decide) ?_
  refine j_aload_n C dL_openAll_2 rfl rfl ?_
  refine j_callV0r C (oa_X6 (by first | assumption | exact kd_sums (by assumption) | exact kd_st1 (by assumption) | exact kd_st2 (by assumption) | exact kd_ls (by first | assumption | rfl) (by assumption) | exact kd_sb (by first | assumption | rfl) (by assumption) | exact kd_sv (by assumption) | rfl)) rfl rfl (hM) qm_L_43 qi_X6_openAll qs_X6_openAll qn_X6 qc_X6_openAll fit_X6_openAll ⟨Nat.le_of_ble_eq_true rfl, Nat.le_of_ble_eq_true rfl, Nat.le_of_ble_eq_true rfl, Nat.le_of_ble_eq_true rfl⟩ (Nat.le_of_ble_eq_true rfl) dL_openAll_3 ?_
  refine j_i2l C dL_openAll_6 ?_
  refine j_last C dL_openAll_7 ?_
  refine j_goto (tgt := 17) C dL_openAll_8 (by decide) ?_
  refine j_iconst (v := (nI 0)) C dL_openAll_17 (by decide) ?_
  exact j_iret C dL_openAll_18 (by rfl) (by rfl) (by rfl)
set_option maxHeartbeats 4000000 in
theorem w_openAll_xIA {l : Launch} {g : GC} {V V' : Mem} {L : LMem} (hM : TC l yX6_openAll cX6_openAll 2 (some .int) 8 g V L [.ref (ad g 223)] xIA V' L) : WM l yL_openAll cL_openAll 3 (some .int) [(0, 8, 11, 13), (0, 8, 14, 15)] 9 1 6 g V L [.ref (ad g 223), .ref (ad g 230)] (some (.int (nI 1))) V' L := by
  refine WM.of [some (.ref (ad g 223)), some (.ref (ad g 230)), none] (by decide +kernel) rfl (Nat.le_of_ble_eq_true rfl) (fun p e s m args below meth c C hT => ?_)
  refine j_aload_n C dL_openAll_0 rfl rfl ?_
  refine j_iconst (v := (nI 0)) C dL_openAll_1 (by decide) ?_
  refine j_aload_n C dL_openAll_2 rfl rfl ?_
  refine j_xcallV C (oa_X6 rfl) rfl rfl hM qm_L_43 qi_X6_openAll qs_X6_openAll qn_X6 qc_X6_openAll fit_X6_openAll ⟨Nat.le_of_ble_eq_true rfl, Nat.le_of_ble_eq_true rfl, Nat.le_of_ble_eq_true rfl, Nat.le_of_ble_eq_true rfl⟩ (Nat.le_of_ble_eq_true rfl) dL_openAll_3 rfl (j_xcatch C hT [] { startPc := 0, endPc := 8, handlerPc := 11, catchType := 13 } [{ startPc := 0, endPc := 8, handlerPc := 14, catchType := 15 }] rfl (fun z hz => nomatch hz) rfl (by decide) ql_L_13 xa5_xIA (fun q => ?_))
  refine j_ast2 C dL_openAll_11 rfl (Nat.le_of_ble_eq_true rfl) rfl ?_
  refine j_iconst (v := (nI 1)) C dL_openAll_12 (by decide) ?_
  exact j_iret C dL_openAll_13 (by rfl) (by rfl) (by rfl)
set_option maxHeartbeats 4000000 in
theorem w_openAll_xIS {l : Launch} {g : GC} {V V' : Mem} {L : LMem} (hM : TC l yX6_openAll cX6_openAll 2 (some .int) 8 g V L [.ref (ad g 223)] xIS V' L) : WM l yL_openAll cL_openAll 3 (some .int) [(0, 8, 11, 13), (0, 8, 14, 15)] 9 1 6 g V L [.ref (ad g 223), .ref (ad g 230)] (some (.int (nI 2))) V' L := by
  refine WM.of [some (.ref (ad g 223)), some (.ref (ad g 230)), none] (by decide +kernel) rfl (Nat.le_of_ble_eq_true rfl) (fun p e s m args below meth c C hT => ?_)
  refine j_aload_n C dL_openAll_0 rfl rfl ?_
  refine j_iconst (v := (nI 0)) C dL_openAll_1 (by decide) ?_
  refine j_aload_n C dL_openAll_2 rfl rfl ?_
  refine j_xcallV C (oa_X6 rfl) rfl rfl hM qm_L_43 qi_X6_openAll qs_X6_openAll qn_X6 qc_X6_openAll fit_X6_openAll ⟨Nat.le_of_ble_eq_true rfl, Nat.le_of_ble_eq_true rfl, Nat.le_of_ble_eq_true rfl, Nat.le_of_ble_eq_true rfl⟩ (Nat.le_of_ble_eq_true rfl) dL_openAll_3 rfl (j_xcatch C hT [{ startPc := 0, endPc := 8, handlerPc := 11, catchType := 13 }] { startPc := 0, endPc := 8, handlerPc := 14, catchType := 15 } [] rfl (List.forall_mem_cons.mpr ⟨⟨_, by decide, ql_L_13, nc_xIS_xIA⟩, (List.forall_mem_nil _)⟩) rfl (by decide) ql_L_15 xa5_xIS (fun q => ?_))
  refine j_ast2 C dL_openAll_14 rfl (Nat.le_of_ble_eq_true rfl) rfl ?_
  refine j_iconst (v := (nI 2)) C dL_openAll_15 (by decide) ?_
  exact j_iret C dL_openAll_16 (by rfl) (by rfl) (by rfl)
set_option maxHeartbeats 4000000 in
theorem w_undo {l : Launch} {g : GC} {V V' : Mem} {L : LMem} {r : Int32} (hM : MC l yX6_undo cX6_undo 1 (some .int) 5 g V L [.ref (ad g 223)] (some (.int r)) V' L) : WM l yL_undo cL_undo 3 (some .int) [(0, 8, 11, 15)] 9 0 0 g V L [.ref (ad g 223), .ref (ad g 230)] (some (.int (nI 0))) V' (lset L 1 r.toInt64) := by
  refine WM.of [some (.ref (ad g 223)), some (.ref (ad g 230)), none] (by decide +kernel) rfl (Nat.le_of_ble_eq_true rfl) (fun p e s m args below meth c C hT => ?_)
  refine j_aload_n C dL_undo_0 rfl rfl ?_
  refine j_iconst (v := (nI 0)) C dL_undo_1 (by decide) ?_
  refine j_aload_n C dL_undo_2 rfl rfl ?_
  refine j_callV0r C (oa_X6 (by first | assumption | exact kd_sums (by assumption) | exact kd_st1 (by assumption) | exact kd_st2 (by assumption) | exact kd_ls (by first | assumption | rfl) (by assumption) | exact kd_sb (by first | assumption | rfl) (by assumption) | exact kd_sv (by assumption) | rfl)) rfl rfl (hM) qm_L_47 qi_X6_undo qs_X6_undo qn_X6 qc_X6_undo fit_X6_undo ⟨Nat.le_of_ble_eq_true rfl, Nat.le_of_ble_eq_true rfl, Nat.le_of_ble_eq_true rfl, Nat.le_of_ble_eq_true rfl⟩ (Nat.le_of_ble_eq_true rfl) dL_undo_3 ?_
  refine j_i2l C dL_undo_6 ?_
  refine j_last C dL_undo_7 ?_
  refine j_goto (tgt := 14) C dL_undo_8 (by decide) ?_
  refine j_iconst (v := (nI 0)) C dL_undo_14 (by decide) ?_
  exact j_iret C dL_undo_15 (by rfl) (by rfl) (by rfl)
set_option maxHeartbeats 4000000 in
theorem w_undo_xIS {l : Launch} {g : GC} {V V' : Mem} {L : LMem} (hM : TC l yX6_undo cX6_undo 1 (some .int) 8 g V L [.ref (ad g 223)] xIS V' L) : WM l yL_undo cL_undo 3 (some .int) [(0, 8, 11, 15)] 9 1 6 g V L [.ref (ad g 223), .ref (ad g 230)] (some (.int (nI 1))) V' L := by
  refine WM.of [some (.ref (ad g 223)), some (.ref (ad g 230)), none] (by decide +kernel) rfl (Nat.le_of_ble_eq_true rfl) (fun p e s m args below meth c C hT => ?_)
  refine j_aload_n C dL_undo_0 rfl rfl ?_
  refine j_iconst (v := (nI 0)) C dL_undo_1 (by decide) ?_
  refine j_aload_n C dL_undo_2 rfl rfl ?_
  refine j_xcallV C (oa_X6 rfl) rfl rfl hM qm_L_47 qi_X6_undo qs_X6_undo qn_X6 qc_X6_undo fit_X6_undo ⟨Nat.le_of_ble_eq_true rfl, Nat.le_of_ble_eq_true rfl, Nat.le_of_ble_eq_true rfl, Nat.le_of_ble_eq_true rfl⟩ (Nat.le_of_ble_eq_true rfl) dL_undo_3 rfl (j_xcatch C hT [] { startPc := 0, endPc := 8, handlerPc := 11, catchType := 15 } [] rfl (fun z hz => nomatch hz) rfl (by decide) ql_L_15 xa5_xIS (fun q => ?_))
  refine j_ast2 C dL_undo_11 rfl (Nat.le_of_ble_eq_true rfl) rfl ?_
  refine j_iconst (v := (nI 1)) C dL_undo_12 (by decide) ?_
  exact j_iret C dL_undo_13 (by rfl) (by rfl) (by rfl)
set_option maxHeartbeats 4000000 in
theorem w_lease {l : Launch} {g : GC} {V V' : Mem} {L : LMem} {p0 p1 : Int32} {r : Int32} (hM : MC l yX6_lease cX6_lease 3 (some .int) 5 g V L [.ref (ad g 223), .int p0, .int p1] (some (.int r)) V' L) : WM l yL_lease cL_lease 5 (some .int) [(0, 10, 13, 21), (0, 10, 17, 13)] 9 0 0 g V L [.ref (ad g 223), .int p0, .int p1, .ref (ad g 230)] (some (.int (nI 0))) V' (lset L 1 r.toInt64) := by
  refine WM.of [some (.ref (ad g 223)), some (.int p0), some (.int p1), some (.ref (ad g 230)), none] (by decide +kernel) rfl (Nat.le_of_ble_eq_true rfl) (fun p e s m args below meth c C hT => ?_)
  refine j_aload_n C dL_lease_0 rfl rfl ?_
  refine j_iconst (v := (nI 0)) C dL_lease_1 (by decide) ?_
  refine j_aload_n C dL_lease_2 rfl rfl ?_
  refine j_iload_n C dL_lease_3 rfl rfl ?_
  refine j_iload_n C dL_lease_4 rfl rfl ?_
  refine j_callV2r C (oa_X6 (by first | assumption | exact kd_sums (by assumption) | exact kd_st1 (by assumption) | exact kd_st2 (by assumption) | exact kd_ls (by first | assumption | rfl) (by assumption) | exact kd_sb (by first | assumption | rfl) (by assumption) | exact kd_sv (by assumption) | rfl)) rfl rfl (hM) qm_L_50 qi_X6_lease qs_X6_lease qn_X6 qc_X6_lease fit_X6_lease ⟨Nat.le_of_ble_eq_true rfl, Nat.le_of_ble_eq_true rfl, Nat.le_of_ble_eq_true rfl, Nat.le_of_ble_eq_true rfl⟩ (Nat.le_of_ble_eq_true rfl) dL_lease_5 ?_
  refine j_i2l C dL_lease_8 ?_
  refine j_last C dL_lease_9 ?_
  refine j_goto (tgt := 21) C dL_lease_10 (by decide) ?_
  refine j_iconst (v := (nI 0)) C dL_lease_21 (by decide) ?_
  exact j_iret C dL_lease_22 (by rfl) (by rfl) (by rfl)
set_option maxHeartbeats 4000000 in
theorem w_lease_xIO {l : Launch} {g : GC} {V V' : Mem} {L : LMem} {p0 p1 : Int32} (hM : TC l yX6_lease cX6_lease 3 (some .int) 8 g V L [.ref (ad g 223), .int p0, .int p1] xIO V' L) : WM l yL_lease cL_lease 5 (some .int) [(0, 10, 13, 21), (0, 10, 17, 13)] 9 1 6 g V L [.ref (ad g 223), .int p0, .int p1, .ref (ad g 230)] (some (.int (nI 1))) V' L := by
  refine WM.of [some (.ref (ad g 223)), some (.int p0), some (.int p1), some (.ref (ad g 230)), none] (by decide +kernel) rfl (Nat.le_of_ble_eq_true rfl) (fun p e s m args below meth c C hT => ?_)
  refine j_aload_n C dL_lease_0 rfl rfl ?_
  refine j_iconst (v := (nI 0)) C dL_lease_1 (by decide) ?_
  refine j_aload_n C dL_lease_2 rfl rfl ?_
  refine j_iload_n C dL_lease_3 rfl rfl ?_
  refine j_iload_n C dL_lease_4 rfl rfl ?_
  refine j_xcallV C (oa_X6 rfl) rfl rfl hM qm_L_50 qi_X6_lease qs_X6_lease qn_X6 qc_X6_lease fit_X6_lease ⟨Nat.le_of_ble_eq_true rfl, Nat.le_of_ble_eq_true rfl, Nat.le_of_ble_eq_true rfl, Nat.le_of_ble_eq_true rfl⟩ (Nat.le_of_ble_eq_true rfl) dL_lease_5 rfl (j_xcatch C hT [] { startPc := 0, endPc := 10, handlerPc := 13, catchType := 21 } [{ startPc := 0, endPc := 10, handlerPc := 17, catchType := 13 }] rfl (fun z hz => nomatch hz) rfl (by decide) ql_L_21 xa5_xIO (fun q => ?_))
  refine j_ast4 C dL_lease_13 (Nat.le_of_ble_eq_true rfl) rfl ?_
  refine j_iconst (v := (nI 1)) C dL_lease_15 (by decide) ?_
  exact j_iret C dL_lease_16 (by rfl) (by rfl) (by rfl)
set_option maxHeartbeats 4000000 in
theorem w_lease_xIA {l : Launch} {g : GC} {V V' : Mem} {L : LMem} {p0 p1 : Int32} (hM : TC l yX6_lease cX6_lease 3 (some .int) 8 g V L [.ref (ad g 223), .int p0, .int p1] xIA V' L) : WM l yL_lease cL_lease 5 (some .int) [(0, 10, 13, 21), (0, 10, 17, 13)] 9 1 6 g V L [.ref (ad g 223), .int p0, .int p1, .ref (ad g 230)] (some (.int (nI 2))) V' L := by
  refine WM.of [some (.ref (ad g 223)), some (.int p0), some (.int p1), some (.ref (ad g 230)), none] (by decide +kernel) rfl (Nat.le_of_ble_eq_true rfl) (fun p e s m args below meth c C hT => ?_)
  refine j_aload_n C dL_lease_0 rfl rfl ?_
  refine j_iconst (v := (nI 0)) C dL_lease_1 (by decide) ?_
  refine j_aload_n C dL_lease_2 rfl rfl ?_
  refine j_iload_n C dL_lease_3 rfl rfl ?_
  refine j_iload_n C dL_lease_4 rfl rfl ?_
  refine j_xcallV C (oa_X6 rfl) rfl rfl hM qm_L_50 qi_X6_lease qs_X6_lease qn_X6 qc_X6_lease fit_X6_lease ⟨Nat.le_of_ble_eq_true rfl, Nat.le_of_ble_eq_true rfl, Nat.le_of_ble_eq_true rfl, Nat.le_of_ble_eq_true rfl⟩ (Nat.le_of_ble_eq_true rfl) dL_lease_5 rfl (j_xcatch C hT [{ startPc := 0, endPc := 10, handlerPc := 13, catchType := 21 }] { startPc := 0, endPc := 10, handlerPc := 17, catchType := 13 } [] rfl (List.forall_mem_cons.mpr ⟨⟨_, by decide, ql_L_21, nc_xIA_xIO⟩, (List.forall_mem_nil _)⟩) rfl (by decide) ql_L_13 xa5_xIA (fun q => ?_))
  refine j_ast4 C dL_lease_17 (Nat.le_of_ble_eq_true rfl) rfl ?_
  refine j_iconst (v := (nI 2)) C dL_lease_19 (by decide) ?_
  exact j_iret C dL_lease_20 (by rfl) (by rfl) (by rfl)
set_option maxHeartbeats 4000000 in
theorem w_sublease {l : Launch} {g : GC} {V V' : Mem} {L : LMem} {p0 p1 : Int32} {r : Int32} (hM : MC l yX6_sublease cX6_sublease 3 (some .int) 5 g V L [.ref (ad g 223), .int p0, .int p1] (some (.int r)) V' L) : WM l yL_sublease cL_sublease 5 (some .int) [(0, 10, 13, 21), (0, 10, 17, 13)] 9 0 0 g V L [.ref (ad g 223), .int p0, .int p1, .ref (ad g 230)] (some (.int (nI 0))) V' (lset L 1 r.toInt64) := by
  refine WM.of [some (.ref (ad g 223)), some (.int p0), some (.int p1), some (.ref (ad g 230)), none] (by decide +kernel) rfl (Nat.le_of_ble_eq_true rfl) (fun p e s m args below meth c C hT => ?_)
  refine j_aload_n C dL_sublease_0 rfl rfl ?_
  refine j_iconst (v := (nI 0)) C dL_sublease_1 (by decide) ?_
  refine j_aload_n C dL_sublease_2 rfl rfl ?_
  refine j_iload_n C dL_sublease_3 rfl rfl ?_
  refine j_iload_n C dL_sublease_4 rfl rfl ?_
  refine j_callV2r C (oa_X6 (by first | assumption | exact kd_sums (by assumption) | exact kd_st1 (by assumption) | exact kd_st2 (by assumption) | exact kd_ls (by first | assumption | rfl) (by assumption) | exact kd_sb (by first | assumption | rfl) (by assumption) | exact kd_sv (by assumption) | rfl)) rfl rfl (hM) qm_L_53 qi_X6_sublease qs_X6_sublease qn_X6 qc_X6_sublease fit_X6_sublease ⟨Nat.le_of_ble_eq_true rfl, Nat.le_of_ble_eq_true rfl, Nat.le_of_ble_eq_true rfl, Nat.le_of_ble_eq_true rfl⟩ (Nat.le_of_ble_eq_true rfl) dL_sublease_5 ?_
  refine j_i2l C dL_sublease_8 ?_
  refine j_last C dL_sublease_9 ?_
  refine j_goto (tgt := 21) C dL_sublease_10 (by decide) ?_
  refine j_iconst (v := (nI 0)) C dL_sublease_21 (by decide) ?_
  exact j_iret C dL_sublease_22 (by rfl) (by rfl) (by rfl)
set_option maxHeartbeats 4000000 in
theorem w_sublease_xIO {l : Launch} {g : GC} {V V' : Mem} {L : LMem} {p0 p1 : Int32} (hM : TC l yX6_sublease cX6_sublease 3 (some .int) 8 g V L [.ref (ad g 223), .int p0, .int p1] xIO V' L) : WM l yL_sublease cL_sublease 5 (some .int) [(0, 10, 13, 21), (0, 10, 17, 13)] 9 1 6 g V L [.ref (ad g 223), .int p0, .int p1, .ref (ad g 230)] (some (.int (nI 1))) V' L := by
  refine WM.of [some (.ref (ad g 223)), some (.int p0), some (.int p1), some (.ref (ad g 230)), none] (by decide +kernel) rfl (Nat.le_of_ble_eq_true rfl) (fun p e s m args below meth c C hT => ?_)
  refine j_aload_n C dL_sublease_0 rfl rfl ?_
  refine j_iconst (v := (nI 0)) C dL_sublease_1 (by decide) ?_
  refine j_aload_n C dL_sublease_2 rfl rfl ?_
  refine j_iload_n C dL_sublease_3 rfl rfl ?_
  refine j_iload_n C dL_sublease_4 rfl rfl ?_
  refine j_xcallV C (oa_X6 rfl) rfl rfl hM qm_L_53 qi_X6_sublease qs_X6_sublease qn_X6 qc_X6_sublease fit_X6_sublease ⟨Nat.le_of_ble_eq_true rfl, Nat.le_of_ble_eq_true rfl, Nat.le_of_ble_eq_true rfl, Nat.le_of_ble_eq_true rfl⟩ (Nat.le_of_ble_eq_true rfl) dL_sublease_5 rfl (j_xcatch C hT [] { startPc := 0, endPc := 10, handlerPc := 13, catchType := 21 } [{ startPc := 0, endPc := 10, handlerPc := 17, catchType := 13 }] rfl (fun z hz => nomatch hz) rfl (by decide) ql_L_21 xa5_xIO (fun q => ?_))
  refine j_ast4 C dL_sublease_13 (Nat.le_of_ble_eq_true rfl) rfl ?_
  refine j_iconst (v := (nI 1)) C dL_sublease_15 (by decide) ?_
  exact j_iret C dL_sublease_16 (by rfl) (by rfl) (by rfl)
set_option maxHeartbeats 4000000 in
theorem w_sublease_xIA {l : Launch} {g : GC} {V V' : Mem} {L : LMem} {p0 p1 : Int32} (hM : TC l yX6_sublease cX6_sublease 3 (some .int) 8 g V L [.ref (ad g 223), .int p0, .int p1] xIA V' L) : WM l yL_sublease cL_sublease 5 (some .int) [(0, 10, 13, 21), (0, 10, 17, 13)] 9 1 6 g V L [.ref (ad g 223), .int p0, .int p1, .ref (ad g 230)] (some (.int (nI 2))) V' L := by
  refine WM.of [some (.ref (ad g 223)), some (.int p0), some (.int p1), some (.ref (ad g 230)), none] (by decide +kernel) rfl (Nat.le_of_ble_eq_true rfl) (fun p e s m args below meth c C hT => ?_)
  refine j_aload_n C dL_sublease_0 rfl rfl ?_
  refine j_iconst (v := (nI 0)) C dL_sublease_1 (by decide) ?_
  refine j_aload_n C dL_sublease_2 rfl rfl ?_
  refine j_iload_n C dL_sublease_3 rfl rfl ?_
  refine j_iload_n C dL_sublease_4 rfl rfl ?_
  refine j_xcallV C (oa_X6 rfl) rfl rfl hM qm_L_53 qi_X6_sublease qs_X6_sublease qn_X6 qc_X6_sublease fit_X6_sublease ⟨Nat.le_of_ble_eq_true rfl, Nat.le_of_ble_eq_true rfl, Nat.le_of_ble_eq_true rfl, Nat.le_of_ble_eq_true rfl⟩ (Nat.le_of_ble_eq_true rfl) dL_sublease_5 rfl (j_xcatch C hT [{ startPc := 0, endPc := 10, handlerPc := 13, catchType := 21 }] { startPc := 0, endPc := 10, handlerPc := 17, catchType := 13 } [] rfl (List.forall_mem_cons.mpr ⟨⟨_, by decide, ql_L_21, nc_xIA_xIO⟩, (List.forall_mem_nil _)⟩) rfl (by decide) ql_L_13 xa5_xIA (fun q => ?_))
  refine j_ast4 C dL_sublease_17 (Nat.le_of_ble_eq_true rfl) rfl ?_
  refine j_iconst (v := (nI 2)) C dL_sublease_19 (by decide) ?_
  exact j_iret C dL_sublease_20 (by rfl) (by rfl) (by rfl)
set_option maxHeartbeats 4000000 in
theorem w_movement {l : Launch} {g : GC} {V V' : Mem} {L : LMem} {p0 p1 : Int32} {r : Int32} (hM : MC l yX6_movement cX6_movement 4 (some .int) 5 g V L [.ref (ad g 223), .int p0, .int p1] (some (.int r)) V' L) : WM l yL_movement cL_movement 5 (some .int) [(0, 10, 13, 21), (0, 10, 17, 13)] 9 0 0 g V L [.ref (ad g 223), .int p0, .int p1, .ref (ad g 230)] (some (.int (nI 0))) V' (lset L 1 r.toInt64) := by
  refine WM.of [some (.ref (ad g 223)), some (.int p0), some (.int p1), some (.ref (ad g 230)), none] (by decide +kernel) rfl (Nat.le_of_ble_eq_true rfl) (fun p e s m args below meth c C hT => ?_)
  refine j_aload_n C dL_movement_0 rfl rfl ?_
  refine j_iconst (v := (nI 0)) C dL_movement_1 (by decide) ?_
  refine j_aload_n C dL_movement_2 rfl rfl ?_
  refine j_iload_n C dL_movement_3 rfl rfl ?_
  refine j_iload_n C dL_movement_4 rfl rfl ?_
  refine j_callV2r C (oa_X6 (by first | assumption | exact kd_sums (by assumption) | exact kd_st1 (by assumption) | exact kd_st2 (by assumption) | exact kd_ls (by first | assumption | rfl) (by assumption) | exact kd_sb (by first | assumption | rfl) (by assumption) | exact kd_sv (by assumption) | rfl)) rfl rfl (hM) qm_L_56 qi_X6_movement qs_X6_movement qn_X6 qc_X6_movement fit_X6_movement ⟨Nat.le_of_ble_eq_true rfl, Nat.le_of_ble_eq_true rfl, Nat.le_of_ble_eq_true rfl, Nat.le_of_ble_eq_true rfl⟩ (Nat.le_of_ble_eq_true rfl) dL_movement_5 ?_
  refine j_i2l C dL_movement_8 ?_
  refine j_last C dL_movement_9 ?_
  refine j_goto (tgt := 21) C dL_movement_10 (by decide) ?_
  refine j_iconst (v := (nI 0)) C dL_movement_21 (by decide) ?_
  exact j_iret C dL_movement_22 (by rfl) (by rfl) (by rfl)
set_option maxHeartbeats 4000000 in
theorem w_movement_xIO {l : Launch} {g : GC} {V V' : Mem} {L : LMem} {p0 p1 : Int32} (hM : TC l yX6_movement cX6_movement 4 (some .int) 8 g V L [.ref (ad g 223), .int p0, .int p1] xIO V' L) : WM l yL_movement cL_movement 5 (some .int) [(0, 10, 13, 21), (0, 10, 17, 13)] 9 1 6 g V L [.ref (ad g 223), .int p0, .int p1, .ref (ad g 230)] (some (.int (nI 1))) V' L := by
  refine WM.of [some (.ref (ad g 223)), some (.int p0), some (.int p1), some (.ref (ad g 230)), none] (by decide +kernel) rfl (Nat.le_of_ble_eq_true rfl) (fun p e s m args below meth c C hT => ?_)
  refine j_aload_n C dL_movement_0 rfl rfl ?_
  refine j_iconst (v := (nI 0)) C dL_movement_1 (by decide) ?_
  refine j_aload_n C dL_movement_2 rfl rfl ?_
  refine j_iload_n C dL_movement_3 rfl rfl ?_
  refine j_iload_n C dL_movement_4 rfl rfl ?_
  refine j_xcallV C (oa_X6 rfl) rfl rfl hM qm_L_56 qi_X6_movement qs_X6_movement qn_X6 qc_X6_movement fit_X6_movement ⟨Nat.le_of_ble_eq_true rfl, Nat.le_of_ble_eq_true rfl, Nat.le_of_ble_eq_true rfl, Nat.le_of_ble_eq_true rfl⟩ (Nat.le_of_ble_eq_true rfl) dL_movement_5 rfl (j_xcatch C hT [] { startPc := 0, endPc := 10, handlerPc := 13, catchType := 21 } [{ startPc := 0, endPc := 10, handlerPc := 17, catchType := 13 }] rfl (fun z hz => nomatch hz) rfl (by decide) ql_L_21 xa5_xIO (fun q => ?_))
  refine j_ast4 C dL_movement_13 (Nat.le_of_ble_eq_true rfl) rfl ?_
  refine j_iconst (v := (nI 1)) C dL_movement_15 (by decide) ?_
  exact j_iret C dL_movement_16 (by rfl) (by rfl) (by rfl)
set_option maxHeartbeats 4000000 in
theorem w_movement_xIA {l : Launch} {g : GC} {V V' : Mem} {L : LMem} {p0 p1 : Int32} (hM : TC l yX6_movement cX6_movement 4 (some .int) 8 g V L [.ref (ad g 223), .int p0, .int p1] xIA V' L) : WM l yL_movement cL_movement 5 (some .int) [(0, 10, 13, 21), (0, 10, 17, 13)] 9 1 6 g V L [.ref (ad g 223), .int p0, .int p1, .ref (ad g 230)] (some (.int (nI 2))) V' L := by
  refine WM.of [some (.ref (ad g 223)), some (.int p0), some (.int p1), some (.ref (ad g 230)), none] (by decide +kernel) rfl (Nat.le_of_ble_eq_true rfl) (fun p e s m args below meth c C hT => ?_)
  refine j_aload_n C dL_movement_0 rfl rfl ?_
  refine j_iconst (v := (nI 0)) C dL_movement_1 (by decide) ?_
  refine j_aload_n C dL_movement_2 rfl rfl ?_
  refine j_iload_n C dL_movement_3 rfl rfl ?_
  refine j_iload_n C dL_movement_4 rfl rfl ?_
  refine j_xcallV C (oa_X6 rfl) rfl rfl hM qm_L_56 qi_X6_movement qs_X6_movement qn_X6 qc_X6_movement fit_X6_movement ⟨Nat.le_of_ble_eq_true rfl, Nat.le_of_ble_eq_true rfl, Nat.le_of_ble_eq_true rfl, Nat.le_of_ble_eq_true rfl⟩ (Nat.le_of_ble_eq_true rfl) dL_movement_5 rfl (j_xcatch C hT [{ startPc := 0, endPc := 10, handlerPc := 13, catchType := 21 }] { startPc := 0, endPc := 10, handlerPc := 17, catchType := 13 } [] rfl (List.forall_mem_cons.mpr ⟨⟨_, by decide, ql_L_21, nc_xIA_xIO⟩, (List.forall_mem_nil _)⟩) rfl (by decide) ql_L_13 xa5_xIA (fun q => ?_))
  refine j_ast4 C dL_movement_17 (Nat.le_of_ble_eq_true rfl) rfl ?_
  refine j_iconst (v := (nI 2)) C dL_movement_19 (by decide) ?_
  exact j_iret C dL_movement_20 (by rfl) (by rfl) (by rfl)
set_option maxHeartbeats 4000000 in
theorem w_profit {l : Launch} {g : GC} {V V' : Mem} {L : LMem} {p0 p1 : Int32} {r : Int32} (hM : MC l yX6_profit cX6_profit 4 (some .int) 5 g V L [.ref (ad g 223), .int p0, .int p1] (some (.int r)) V' L) : WM l yL_profit cL_profit 5 (some .int) [(0, 10, 13, 21), (0, 10, 17, 13)] 9 0 0 g V L [.ref (ad g 223), .int p0, .int p1, .ref (ad g 230)] (some (.int (nI 0))) V' (lset L 1 r.toInt64) := by
  refine WM.of [some (.ref (ad g 223)), some (.int p0), some (.int p1), some (.ref (ad g 230)), none] (by decide +kernel) rfl (Nat.le_of_ble_eq_true rfl) (fun p e s m args below meth c C hT => ?_)
  refine j_aload_n C dL_profit_0 rfl rfl ?_
  refine j_iconst (v := (nI 0)) C dL_profit_1 (by decide) ?_
  refine j_aload_n C dL_profit_2 rfl rfl ?_
  refine j_iload_n C dL_profit_3 rfl rfl ?_
  refine j_iload_n C dL_profit_4 rfl rfl ?_
  refine j_callV2r C (oa_X6 (by first | assumption | exact kd_sums (by assumption) | exact kd_st1 (by assumption) | exact kd_st2 (by assumption) | exact kd_ls (by first | assumption | rfl) (by assumption) | exact kd_sb (by first | assumption | rfl) (by assumption) | exact kd_sv (by assumption) | rfl)) rfl rfl (hM) qm_L_59 qi_X6_profit qs_X6_profit qn_X6 qc_X6_profit fit_X6_profit ⟨Nat.le_of_ble_eq_true rfl, Nat.le_of_ble_eq_true rfl, Nat.le_of_ble_eq_true rfl, Nat.le_of_ble_eq_true rfl⟩ (Nat.le_of_ble_eq_true rfl) dL_profit_5 ?_
  refine j_i2l C dL_profit_8 ?_
  refine j_last C dL_profit_9 ?_
  refine j_goto (tgt := 21) C dL_profit_10 (by decide) ?_
  refine j_iconst (v := (nI 0)) C dL_profit_21 (by decide) ?_
  exact j_iret C dL_profit_22 (by rfl) (by rfl) (by rfl)
set_option maxHeartbeats 4000000 in
theorem w_profit_xIO {l : Launch} {g : GC} {V V' : Mem} {L : LMem} {p0 p1 : Int32} (hM : TC l yX6_profit cX6_profit 4 (some .int) 8 g V L [.ref (ad g 223), .int p0, .int p1] xIO V' L) : WM l yL_profit cL_profit 5 (some .int) [(0, 10, 13, 21), (0, 10, 17, 13)] 9 1 6 g V L [.ref (ad g 223), .int p0, .int p1, .ref (ad g 230)] (some (.int (nI 1))) V' L := by
  refine WM.of [some (.ref (ad g 223)), some (.int p0), some (.int p1), some (.ref (ad g 230)), none] (by decide +kernel) rfl (Nat.le_of_ble_eq_true rfl) (fun p e s m args below meth c C hT => ?_)
  refine j_aload_n C dL_profit_0 rfl rfl ?_
  refine j_iconst (v := (nI 0)) C dL_profit_1 (by decide) ?_
  refine j_aload_n C dL_profit_2 rfl rfl ?_
  refine j_iload_n C dL_profit_3 rfl rfl ?_
  refine j_iload_n C dL_profit_4 rfl rfl ?_
  refine j_xcallV C (oa_X6 rfl) rfl rfl hM qm_L_59 qi_X6_profit qs_X6_profit qn_X6 qc_X6_profit fit_X6_profit ⟨Nat.le_of_ble_eq_true rfl, Nat.le_of_ble_eq_true rfl, Nat.le_of_ble_eq_true rfl, Nat.le_of_ble_eq_true rfl⟩ (Nat.le_of_ble_eq_true rfl) dL_profit_5 rfl (j_xcatch C hT [] { startPc := 0, endPc := 10, handlerPc := 13, catchType := 21 } [{ startPc := 0, endPc := 10, handlerPc := 17, catchType := 13 }] rfl (fun z hz => nomatch hz) rfl (by decide) ql_L_21 xa5_xIO (fun q => ?_))
  refine j_ast4 C dL_profit_13 (Nat.le_of_ble_eq_true rfl) rfl ?_
  refine j_iconst (v := (nI 1)) C dL_profit_15 (by decide) ?_
  exact j_iret C dL_profit_16 (by rfl) (by rfl) (by rfl)
set_option maxHeartbeats 4000000 in
theorem w_profit_xIA {l : Launch} {g : GC} {V V' : Mem} {L : LMem} {p0 p1 : Int32} (hM : TC l yX6_profit cX6_profit 4 (some .int) 8 g V L [.ref (ad g 223), .int p0, .int p1] xIA V' L) : WM l yL_profit cL_profit 5 (some .int) [(0, 10, 13, 21), (0, 10, 17, 13)] 9 1 6 g V L [.ref (ad g 223), .int p0, .int p1, .ref (ad g 230)] (some (.int (nI 2))) V' L := by
  refine WM.of [some (.ref (ad g 223)), some (.int p0), some (.int p1), some (.ref (ad g 230)), none] (by decide +kernel) rfl (Nat.le_of_ble_eq_true rfl) (fun p e s m args below meth c C hT => ?_)
  refine j_aload_n C dL_profit_0 rfl rfl ?_
  refine j_iconst (v := (nI 0)) C dL_profit_1 (by decide) ?_
  refine j_aload_n C dL_profit_2 rfl rfl ?_
  refine j_iload_n C dL_profit_3 rfl rfl ?_
  refine j_iload_n C dL_profit_4 rfl rfl ?_
  refine j_xcallV C (oa_X6 rfl) rfl rfl hM qm_L_59 qi_X6_profit qs_X6_profit qn_X6 qc_X6_profit fit_X6_profit ⟨Nat.le_of_ble_eq_true rfl, Nat.le_of_ble_eq_true rfl, Nat.le_of_ble_eq_true rfl, Nat.le_of_ble_eq_true rfl⟩ (Nat.le_of_ble_eq_true rfl) dL_profit_5 rfl (j_xcatch C hT [{ startPc := 0, endPc := 10, handlerPc := 13, catchType := 21 }] { startPc := 0, endPc := 10, handlerPc := 17, catchType := 13 } [] rfl (List.forall_mem_cons.mpr ⟨⟨_, by decide, ql_L_21, nc_xIA_xIO⟩, (List.forall_mem_nil _)⟩) rfl (by decide) ql_L_13 xa5_xIA (fun q => ?_))
  refine j_ast4 C dL_profit_17 (Nat.le_of_ble_eq_true rfl) rfl ?_
  refine j_iconst (v := (nI 2)) C dL_profit_19 (by decide) ?_
  exact j_iret C dL_profit_20 (by rfl) (by rfl) (by rfl)
set_option maxHeartbeats 4000000 in
theorem w_count {l : Launch} {g : GC} {V V' : Mem} {L : LMem} {p0 : Int32} {r : Int32} (hM : MC l yX6_count cX6_count 2 (some .int) 5 g V L [.ref (ad g 223), .int p0] (some (.int r)) V' L) : WM l yL_count cL_count 4 (some .int) [(0, 9, 12, 13)] 9 0 0 g V L [.ref (ad g 223), .int p0, .ref (ad g 230)] (some (.int (nI 0))) V' (lset L 1 r.toInt64) := by
  refine WM.of [some (.ref (ad g 223)), some (.int p0), some (.ref (ad g 230)), none] (by decide +kernel) rfl (Nat.le_of_ble_eq_true rfl) (fun p e s m args below meth c C hT => ?_)
  refine j_aload_n C dL_count_0 rfl rfl ?_
  refine j_iconst (v := (nI 0)) C dL_count_1 (by decide) ?_
  refine j_aload_n C dL_count_2 rfl rfl ?_
  refine j_iload_n C dL_count_3 rfl rfl ?_
  refine j_callV1r C (oa_X6 (by first | assumption | exact kd_sums (by assumption) | exact kd_st1 (by assumption) | exact kd_st2 (by assumption) | exact kd_ls (by first | assumption | rfl) (by assumption) | exact kd_sb (by first | assumption | rfl) (by assumption) | exact kd_sv (by assumption) | rfl)) rfl rfl (hM) qm_L_62 qi_X6_count qs_X6_count qn_X6 qc_X6_count fit_X6_count ⟨Nat.le_of_ble_eq_true rfl, Nat.le_of_ble_eq_true rfl, Nat.le_of_ble_eq_true rfl, Nat.le_of_ble_eq_true rfl⟩ (Nat.le_of_ble_eq_true rfl) dL_count_4 ?_
  refine j_i2l C dL_count_7 ?_
  refine j_last C dL_count_8 ?_
  refine j_goto (tgt := 15) C dL_count_9 (by decide) ?_
  refine j_iconst (v := (nI 0)) C dL_count_15 (by decide) ?_
  exact j_iret C dL_count_16 (by rfl) (by rfl) (by rfl)
set_option maxHeartbeats 4000000 in
theorem w_count_xIA {l : Launch} {g : GC} {V V' : Mem} {L : LMem} {p0 : Int32} (hM : TC l yX6_count cX6_count 2 (some .int) 8 g V L [.ref (ad g 223), .int p0] xIA V' L) : WM l yL_count cL_count 4 (some .int) [(0, 9, 12, 13)] 9 1 6 g V L [.ref (ad g 223), .int p0, .ref (ad g 230)] (some (.int (nI 1))) V' L := by
  refine WM.of [some (.ref (ad g 223)), some (.int p0), some (.ref (ad g 230)), none] (by decide +kernel) rfl (Nat.le_of_ble_eq_true rfl) (fun p e s m args below meth c C hT => ?_)
  refine j_aload_n C dL_count_0 rfl rfl ?_
  refine j_iconst (v := (nI 0)) C dL_count_1 (by decide) ?_
  refine j_aload_n C dL_count_2 rfl rfl ?_
  refine j_iload_n C dL_count_3 rfl rfl ?_
  refine j_xcallV C (oa_X6 rfl) rfl rfl hM qm_L_62 qi_X6_count qs_X6_count qn_X6 qc_X6_count fit_X6_count ⟨Nat.le_of_ble_eq_true rfl, Nat.le_of_ble_eq_true rfl, Nat.le_of_ble_eq_true rfl, Nat.le_of_ble_eq_true rfl⟩ (Nat.le_of_ble_eq_true rfl) dL_count_4 rfl (j_xcatch C hT [] { startPc := 0, endPc := 9, handlerPc := 12, catchType := 13 } [] rfl (fun z hz => nomatch hz) rfl (by decide) ql_L_13 xa5_xIA (fun q => ?_))
  refine j_ast3 C dL_count_12 rfl (Nat.le_of_ble_eq_true rfl) rfl ?_
  refine j_iconst (v := (nI 1)) C dL_count_13 (by decide) ?_
  exact j_iret C dL_count_14 (by rfl) (by rfl) (by rfl)
set_option maxHeartbeats 4000000 in
theorem w_worth {l : Launch} {g : GC} {V V' : Mem} {L : LMem} {p0 p1 p2 : Int32} {r : Int32} (hM : MC l yX6_worth cX6_worth 4 (some .int) 5 g V L [.ref (ad g 223), .int p0, .int p1, .int p2] (some (.int r)) V' L) : WM l yL_worth cL_worth 6 (some .int) [(0, 12, 15, 13)] 9 0 0 g V L [.ref (ad g 223), .int p0, .int p1, .int p2, .ref (ad g 230)] (some (.int (nI 0))) V' (lset L 1 r.toInt64) := by
  refine WM.of [some (.ref (ad g 223)), some (.int p0), some (.int p1), some (.int p2), some (.ref (ad g 230)), none] (by decide +kernel) rfl (Nat.le_of_ble_eq_true rfl) (fun p e s m args below meth c C hT => ?_)
  refine j_aload C dL_worth_0 rfl ?_
  refine j_iconst (v := (nI 0)) C dL_worth_2 (by decide) ?_
  refine j_aload_n C dL_worth_3 rfl rfl ?_
  refine j_iload_n C dL_worth_4 rfl rfl ?_
  refine j_iload_n C dL_worth_5 rfl rfl ?_
  refine j_iload_n C dL_worth_6 rfl rfl ?_
  refine j_callV3r C (oa_X6 (by first | assumption | exact kd_sums (by assumption) | exact kd_st1 (by assumption) | exact kd_st2 (by assumption) | exact kd_ls (by first | assumption | rfl) (by assumption) | exact kd_sb (by first | assumption | rfl) (by assumption) | exact kd_sv (by assumption) | rfl)) rfl rfl (hM) qm_L_65 qi_X6_worth qs_X6_worth qn_X6 qc_X6_worth fit_X6_worth ⟨Nat.le_of_ble_eq_true rfl, Nat.le_of_ble_eq_true rfl, Nat.le_of_ble_eq_true rfl, Nat.le_of_ble_eq_true rfl⟩ (Nat.le_of_ble_eq_true rfl) dL_worth_7 ?_
  refine j_i2l C dL_worth_10 ?_
  refine j_last C dL_worth_11 ?_
  refine j_goto (tgt := 19) C dL_worth_12 (by decide) ?_
  refine j_iconst (v := (nI 0)) C dL_worth_19 (by decide) ?_
  exact j_iret C dL_worth_20 (by rfl) (by rfl) (by rfl)
set_option maxHeartbeats 4000000 in
theorem w_worth_xIA {l : Launch} {g : GC} {V V' : Mem} {L : LMem} {p0 p1 p2 : Int32} (hM : TC l yX6_worth cX6_worth 4 (some .int) 8 g V L [.ref (ad g 223), .int p0, .int p1, .int p2] xIA V' L) : WM l yL_worth cL_worth 6 (some .int) [(0, 12, 15, 13)] 9 1 6 g V L [.ref (ad g 223), .int p0, .int p1, .int p2, .ref (ad g 230)] (some (.int (nI 1))) V' L := by
  refine WM.of [some (.ref (ad g 223)), some (.int p0), some (.int p1), some (.int p2), some (.ref (ad g 230)), none] (by decide +kernel) rfl (Nat.le_of_ble_eq_true rfl) (fun p e s m args below meth c C hT => ?_)
  refine j_aload C dL_worth_0 rfl ?_
  refine j_iconst (v := (nI 0)) C dL_worth_2 (by decide) ?_
  refine j_aload_n C dL_worth_3 rfl rfl ?_
  refine j_iload_n C dL_worth_4 rfl rfl ?_
  refine j_iload_n C dL_worth_5 rfl rfl ?_
  refine j_iload_n C dL_worth_6 rfl rfl ?_
  refine j_xcallV C (oa_X6 rfl) rfl rfl hM qm_L_65 qi_X6_worth qs_X6_worth qn_X6 qc_X6_worth fit_X6_worth ⟨Nat.le_of_ble_eq_true rfl, Nat.le_of_ble_eq_true rfl, Nat.le_of_ble_eq_true rfl, Nat.le_of_ble_eq_true rfl⟩ (Nat.le_of_ble_eq_true rfl) dL_worth_7 rfl (j_xcatch C hT [] { startPc := 0, endPc := 12, handlerPc := 15, catchType := 13 } [] rfl (fun z hz => nomatch hz) rfl (by decide) ql_L_13 xa5_xIA (fun q => ?_))
  refine j_ast5 C dL_worth_15 (Nat.le_of_ble_eq_true rfl) rfl ?_
  refine j_iconst (v := (nI 1)) C dL_worth_17 (by decide) ?_
  exact j_iret C dL_worth_18 (by rfl) (by rfl) (by rfl)
set_option maxHeartbeats 4000000 in
theorem w_plan {l : Launch} {g : GC} {V V' : Mem} {L : LMem} {p0 p1 p2 : Int32} {r : Int32} (hM : MC l yX6_plan cX6_plan 5 (some .int) 5 g V L [.ref (ad g 223), .int p0, .int p1, .int p2] (some (.int r)) V' L) : WM l yL_plan cL_plan 6 (some .int) [(0, 12, 15, 21), (0, 12, 19, 13)] 9 0 0 g V L [.ref (ad g 223), .int p0, .int p1, .int p2, .ref (ad g 230)] (some (.int (nI 0))) V' (lset L 1 r.toInt64) := by
  refine WM.of [some (.ref (ad g 223)), some (.int p0), some (.int p1), some (.int p2), some (.ref (ad g 230)), none] (by decide +kernel) rfl (Nat.le_of_ble_eq_true rfl) (fun p e s m args below meth c C hT => ?_)
  refine j_aload C dL_plan_0 rfl ?_
  refine j_iconst (v := (nI 0)) C dL_plan_2 (by decide) ?_
  refine j_aload_n C dL_plan_3 rfl rfl ?_
  refine j_iload_n C dL_plan_4 rfl rfl ?_
  refine j_iload_n C dL_plan_5 rfl rfl ?_
  refine j_iload_n C dL_plan_6 rfl rfl ?_
  refine j_callV3r C (oa_X6 (by first | assumption | exact kd_sums (by assumption) | exact kd_st1 (by assumption) | exact kd_st2 (by assumption) | exact kd_ls (by first | assumption | rfl) (by assumption) | exact kd_sb (by first | assumption | rfl) (by assumption) | exact kd_sv (by assumption) | rfl)) rfl rfl (hM) qm_L_68 qi_X6_plan qs_X6_plan qn_X6 qc_X6_plan fit_X6_plan ⟨Nat.le_of_ble_eq_true rfl, Nat.le_of_ble_eq_true rfl, Nat.le_of_ble_eq_true rfl, Nat.le_of_ble_eq_true rfl⟩ (Nat.le_of_ble_eq_true rfl) dL_plan_7 ?_
  refine j_i2l C dL_plan_10 ?_
  refine j_last C dL_plan_11 ?_
  refine j_goto (tgt := 23) C dL_plan_12 (by decide) ?_
  refine j_iconst (v := (nI 0)) C dL_plan_23 (by decide) ?_
  exact j_iret C dL_plan_24 (by rfl) (by rfl) (by rfl)
set_option maxHeartbeats 4000000 in
theorem w_plan_xIO {l : Launch} {g : GC} {V V' : Mem} {L : LMem} {p0 p1 p2 : Int32} (hM : TC l yX6_plan cX6_plan 5 (some .int) 8 g V L [.ref (ad g 223), .int p0, .int p1, .int p2] xIO V' L) : WM l yL_plan cL_plan 6 (some .int) [(0, 12, 15, 21), (0, 12, 19, 13)] 9 1 6 g V L [.ref (ad g 223), .int p0, .int p1, .int p2, .ref (ad g 230)] (some (.int (nI 1))) V' L := by
  refine WM.of [some (.ref (ad g 223)), some (.int p0), some (.int p1), some (.int p2), some (.ref (ad g 230)), none] (by decide +kernel) rfl (Nat.le_of_ble_eq_true rfl) (fun p e s m args below meth c C hT => ?_)
  refine j_aload C dL_plan_0 rfl ?_
  refine j_iconst (v := (nI 0)) C dL_plan_2 (by decide) ?_
  refine j_aload_n C dL_plan_3 rfl rfl ?_
  refine j_iload_n C dL_plan_4 rfl rfl ?_
  refine j_iload_n C dL_plan_5 rfl rfl ?_
  refine j_iload_n C dL_plan_6 rfl rfl ?_
  refine j_xcallV C (oa_X6 rfl) rfl rfl hM qm_L_68 qi_X6_plan qs_X6_plan qn_X6 qc_X6_plan fit_X6_plan ⟨Nat.le_of_ble_eq_true rfl, Nat.le_of_ble_eq_true rfl, Nat.le_of_ble_eq_true rfl, Nat.le_of_ble_eq_true rfl⟩ (Nat.le_of_ble_eq_true rfl) dL_plan_7 rfl (j_xcatch C hT [] { startPc := 0, endPc := 12, handlerPc := 15, catchType := 21 } [{ startPc := 0, endPc := 12, handlerPc := 19, catchType := 13 }] rfl (fun z hz => nomatch hz) rfl (by decide) ql_L_21 xa5_xIO (fun q => ?_))
  refine j_ast5 C dL_plan_15 (Nat.le_of_ble_eq_true rfl) rfl ?_
  refine j_iconst (v := (nI 1)) C dL_plan_17 (by decide) ?_
  exact j_iret C dL_plan_18 (by rfl) (by rfl) (by rfl)
set_option maxHeartbeats 4000000 in
theorem w_plan_xIA {l : Launch} {g : GC} {V V' : Mem} {L : LMem} {p0 p1 p2 : Int32} (hM : TC l yX6_plan cX6_plan 5 (some .int) 8 g V L [.ref (ad g 223), .int p0, .int p1, .int p2] xIA V' L) : WM l yL_plan cL_plan 6 (some .int) [(0, 12, 15, 21), (0, 12, 19, 13)] 9 1 6 g V L [.ref (ad g 223), .int p0, .int p1, .int p2, .ref (ad g 230)] (some (.int (nI 2))) V' L := by
  refine WM.of [some (.ref (ad g 223)), some (.int p0), some (.int p1), some (.int p2), some (.ref (ad g 230)), none] (by decide +kernel) rfl (Nat.le_of_ble_eq_true rfl) (fun p e s m args below meth c C hT => ?_)
  refine j_aload C dL_plan_0 rfl ?_
  refine j_iconst (v := (nI 0)) C dL_plan_2 (by decide) ?_
  refine j_aload_n C dL_plan_3 rfl rfl ?_
  refine j_iload_n C dL_plan_4 rfl rfl ?_
  refine j_iload_n C dL_plan_5 rfl rfl ?_
  refine j_iload_n C dL_plan_6 rfl rfl ?_
  refine j_xcallV C (oa_X6 rfl) rfl rfl hM qm_L_68 qi_X6_plan qs_X6_plan qn_X6 qc_X6_plan fit_X6_plan ⟨Nat.le_of_ble_eq_true rfl, Nat.le_of_ble_eq_true rfl, Nat.le_of_ble_eq_true rfl, Nat.le_of_ble_eq_true rfl⟩ (Nat.le_of_ble_eq_true rfl) dL_plan_7 rfl (j_xcatch C hT [{ startPc := 0, endPc := 12, handlerPc := 15, catchType := 21 }] { startPc := 0, endPc := 12, handlerPc := 19, catchType := 13 } [] rfl (List.forall_mem_cons.mpr ⟨⟨_, by decide, ql_L_21, nc_xIA_xIO⟩, (List.forall_mem_nil _)⟩) rfl (by decide) ql_L_13 xa5_xIA (fun q => ?_))
  refine j_ast5 C dL_plan_19 (Nat.le_of_ble_eq_true rfl) rfl ?_
  refine j_iconst (v := (nI 2)) C dL_plan_21 (by decide) ?_
  exact j_iret C dL_plan_22 (by rfl) (by rfl) (by rfl)
set_option maxHeartbeats 4000000 in
theorem w_ifMeasured {l : Launch} {g : GC} {V V' : Mem} {L : LMem} {p0 p1 p2 p3 p4 : Int32} {r : Int32} (hM : MC l yX6_ifMeasured cX6_ifMeasured 9 (some .int) 5 g V L [.ref (ad g 223), .int p0, .int p1, .int p2, .int p3, .int p4] (some (.int r)) V' L) : WM l yL_ifMeasured cL_ifMeasured 8 (some .int) [(0, 16, 19, 21), (0, 16, 23, 13)] 9 0 0 g V L [.ref (ad g 223), .int p0, .int p1, .int p2, .int p3, .int p4, .ref (ad g 230)] (some (.int (nI 0))) V' (lset L 1 r.toInt64) := by
  refine WM.of [some (.ref (ad g 223)), some (.int p0), some (.int p1), some (.int p2), some (.int p3), some (.int p4), some (.ref (ad g 230)), none] (by decide +kernel) rfl (Nat.le_of_ble_eq_true rfl) (fun p e s m args below meth c C hT => ?_)
  refine j_aload C dL_ifMeasured_0 rfl ?_
  refine j_iconst (v := (nI 0)) C dL_ifMeasured_2 (by decide) ?_
  refine j_aload_n C dL_ifMeasured_3 rfl rfl ?_
  refine j_iload_n C dL_ifMeasured_4 rfl rfl ?_
  refine j_iload_n C dL_ifMeasured_5 rfl rfl ?_
  refine j_iload_n C dL_ifMeasured_6 rfl rfl ?_
  refine j_iload C dL_ifMeasured_7 rfl ?_
  refine j_iload C dL_ifMeasured_9 rfl ?_
  refine j_callV5r C (oa_X6 (by first | assumption | exact kd_sums (by assumption) | exact kd_st1 (by assumption) | exact kd_st2 (by assumption) | exact kd_ls (by first | assumption | rfl) (by assumption) | exact kd_sb (by first | assumption | rfl) (by assumption) | exact kd_sv (by assumption) | rfl)) rfl rfl (hM) qm_L_71 qi_X6_ifMeasured qs_X6_ifMeasured qn_X6 qc_X6_ifMeasured fit_X6_ifMeasured ⟨Nat.le_of_ble_eq_true rfl, Nat.le_of_ble_eq_true rfl, Nat.le_of_ble_eq_true rfl, Nat.le_of_ble_eq_true rfl⟩ (Nat.le_of_ble_eq_true rfl) dL_ifMeasured_11 ?_
  refine j_i2l C dL_ifMeasured_14 ?_
  refine j_last C dL_ifMeasured_15 ?_
  refine j_goto (tgt := 27) C dL_ifMeasured_16 (by decide) ?_
  refine j_iconst (v := (nI 0)) C dL_ifMeasured_27 (by decide) ?_
  exact j_iret C dL_ifMeasured_28 (by rfl) (by rfl) (by rfl)
set_option maxHeartbeats 4000000 in
theorem w_ifMeasured_xIO {l : Launch} {g : GC} {V V' : Mem} {L : LMem} {p0 p1 p2 p3 p4 : Int32} (hM : TC l yX6_ifMeasured cX6_ifMeasured 9 (some .int) 8 g V L [.ref (ad g 223), .int p0, .int p1, .int p2, .int p3, .int p4] xIO V' L) : WM l yL_ifMeasured cL_ifMeasured 8 (some .int) [(0, 16, 19, 21), (0, 16, 23, 13)] 9 1 6 g V L [.ref (ad g 223), .int p0, .int p1, .int p2, .int p3, .int p4, .ref (ad g 230)] (some (.int (nI 1))) V' L := by
  refine WM.of [some (.ref (ad g 223)), some (.int p0), some (.int p1), some (.int p2), some (.int p3), some (.int p4), some (.ref (ad g 230)), none] (by decide +kernel) rfl (Nat.le_of_ble_eq_true rfl) (fun p e s m args below meth c C hT => ?_)
  refine j_aload C dL_ifMeasured_0 rfl ?_
  refine j_iconst (v := (nI 0)) C dL_ifMeasured_2 (by decide) ?_
  refine j_aload_n C dL_ifMeasured_3 rfl rfl ?_
  refine j_iload_n C dL_ifMeasured_4 rfl rfl ?_
  refine j_iload_n C dL_ifMeasured_5 rfl rfl ?_
  refine j_iload_n C dL_ifMeasured_6 rfl rfl ?_
  refine j_iload C dL_ifMeasured_7 rfl ?_
  refine j_iload C dL_ifMeasured_9 rfl ?_
  refine j_xcallV C (oa_X6 rfl) rfl rfl hM qm_L_71 qi_X6_ifMeasured qs_X6_ifMeasured qn_X6 qc_X6_ifMeasured fit_X6_ifMeasured ⟨Nat.le_of_ble_eq_true rfl, Nat.le_of_ble_eq_true rfl, Nat.le_of_ble_eq_true rfl, Nat.le_of_ble_eq_true rfl⟩ (Nat.le_of_ble_eq_true rfl) dL_ifMeasured_11 rfl (j_xcatch C hT [] { startPc := 0, endPc := 16, handlerPc := 19, catchType := 21 } [{ startPc := 0, endPc := 16, handlerPc := 23, catchType := 13 }] rfl (fun z hz => nomatch hz) rfl (by decide) ql_L_21 xa5_xIO (fun q => ?_))
  refine j_ast7 C dL_ifMeasured_19 (Nat.le_of_ble_eq_true rfl) rfl ?_
  refine j_iconst (v := (nI 1)) C dL_ifMeasured_21 (by decide) ?_
  exact j_iret C dL_ifMeasured_22 (by rfl) (by rfl) (by rfl)
set_option maxHeartbeats 4000000 in
theorem w_ifMeasured_xIA {l : Launch} {g : GC} {V V' : Mem} {L : LMem} {p0 p1 p2 p3 p4 : Int32} (hM : TC l yX6_ifMeasured cX6_ifMeasured 9 (some .int) 8 g V L [.ref (ad g 223), .int p0, .int p1, .int p2, .int p3, .int p4] xIA V' L) : WM l yL_ifMeasured cL_ifMeasured 8 (some .int) [(0, 16, 19, 21), (0, 16, 23, 13)] 9 1 6 g V L [.ref (ad g 223), .int p0, .int p1, .int p2, .int p3, .int p4, .ref (ad g 230)] (some (.int (nI 2))) V' L := by
  refine WM.of [some (.ref (ad g 223)), some (.int p0), some (.int p1), some (.int p2), some (.int p3), some (.int p4), some (.ref (ad g 230)), none] (by decide +kernel) rfl (Nat.le_of_ble_eq_true rfl) (fun p e s m args below meth c C hT => ?_)
  refine j_aload C dL_ifMeasured_0 rfl ?_
  refine j_iconst (v := (nI 0)) C dL_ifMeasured_2 (by decide) ?_
  refine j_aload_n C dL_ifMeasured_3 rfl rfl ?_
  refine j_iload_n C dL_ifMeasured_4 rfl rfl ?_
  refine j_iload_n C dL_ifMeasured_5 rfl rfl ?_
  refine j_iload_n C dL_ifMeasured_6 rfl rfl ?_
  refine j_iload C dL_ifMeasured_7 rfl ?_
  refine j_iload C dL_ifMeasured_9 rfl ?_
  refine j_xcallV C (oa_X6 rfl) rfl rfl hM qm_L_71 qi_X6_ifMeasured qs_X6_ifMeasured qn_X6 qc_X6_ifMeasured fit_X6_ifMeasured ⟨Nat.le_of_ble_eq_true rfl, Nat.le_of_ble_eq_true rfl, Nat.le_of_ble_eq_true rfl, Nat.le_of_ble_eq_true rfl⟩ (Nat.le_of_ble_eq_true rfl) dL_ifMeasured_11 rfl (j_xcatch C hT [{ startPc := 0, endPc := 16, handlerPc := 19, catchType := 21 }] { startPc := 0, endPc := 16, handlerPc := 23, catchType := 13 } [] rfl (List.forall_mem_cons.mpr ⟨⟨_, by decide, ql_L_21, nc_xIA_xIO⟩, (List.forall_mem_nil _)⟩) rfl (by decide) ql_L_13 xa5_xIA (fun q => ?_))
  refine j_ast7 C dL_ifMeasured_23 (Nat.le_of_ble_eq_true rfl) rfl ?_
  refine j_iconst (v := (nI 2)) C dL_ifMeasured_25 (by decide) ?_
  exact j_iret C dL_ifMeasured_26 (by rfl) (by rfl) (by rfl)
set_option maxHeartbeats 4000000 in
theorem w_paymentFor {l : Launch} {g : GC} {V V' : Mem} {L : LMem} {p0 p1 : Int32} {r : Int32} (hM : MC l yX6_paymentFor cX6_paymentFor 4 (some .int) 5 g V L [.ref (ad g 223), .int p0, .int p1] (some (.int r)) V' L) : WM l yL_paymentFor cL_paymentFor 5 (some .int) [(0, 10, 13, 21), (0, 10, 17, 13)] 9 0 0 g V L [.ref (ad g 223), .int p0, .int p1, .ref (ad g 230)] (some (.int (nI 0))) V' (lset L 1 r.toInt64) := by
  refine WM.of [some (.ref (ad g 223)), some (.int p0), some (.int p1), some (.ref (ad g 230)), none] (by decide +kernel) rfl (Nat.le_of_ble_eq_true rfl) (fun p e s m args below meth c C hT => ?_)
  refine j_aload_n C dL_paymentFor_0 rfl rfl ?_
  refine j_iconst (v := (nI 0)) C dL_paymentFor_1 (by decide) ?_
  refine j_aload_n C dL_paymentFor_2 rfl rfl ?_
  refine j_iload_n C dL_paymentFor_3 rfl rfl ?_
  refine j_iload_n C dL_paymentFor_4 rfl rfl ?_
  refine j_callV2r C (oa_X6 (by first | assumption | exact kd_sums (by assumption) | exact kd_st1 (by assumption) | exact kd_st2 (by assumption) | exact kd_ls (by first | assumption | rfl) (by assumption) | exact kd_sb (by first | assumption | rfl) (by assumption) | exact kd_sv (by assumption) | rfl)) rfl rfl (hM) qm_L_75 qi_X6_paymentFor qs_X6_paymentFor qn_X6 qc_X6_paymentFor fit_X6_paymentFor ⟨Nat.le_of_ble_eq_true rfl, Nat.le_of_ble_eq_true rfl, Nat.le_of_ble_eq_true rfl, Nat.le_of_ble_eq_true rfl⟩ (Nat.le_of_ble_eq_true rfl) dL_paymentFor_5 ?_
  refine j_i2l C dL_paymentFor_8 ?_
  refine j_last C dL_paymentFor_9 ?_
  refine j_goto (tgt := 21) C dL_paymentFor_10 (by decide) ?_
  refine j_iconst (v := (nI 0)) C dL_paymentFor_21 (by decide) ?_
  exact j_iret C dL_paymentFor_22 (by rfl) (by rfl) (by rfl)
set_option maxHeartbeats 4000000 in
theorem w_paymentFor_xIO {l : Launch} {g : GC} {V V' : Mem} {L : LMem} {p0 p1 : Int32} (hM : TC l yX6_paymentFor cX6_paymentFor 4 (some .int) 8 g V L [.ref (ad g 223), .int p0, .int p1] xIO V' L) : WM l yL_paymentFor cL_paymentFor 5 (some .int) [(0, 10, 13, 21), (0, 10, 17, 13)] 9 1 6 g V L [.ref (ad g 223), .int p0, .int p1, .ref (ad g 230)] (some (.int (nI 1))) V' L := by
  refine WM.of [some (.ref (ad g 223)), some (.int p0), some (.int p1), some (.ref (ad g 230)), none] (by decide +kernel) rfl (Nat.le_of_ble_eq_true rfl) (fun p e s m args below meth c C hT => ?_)
  refine j_aload_n C dL_paymentFor_0 rfl rfl ?_
  refine j_iconst (v := (nI 0)) C dL_paymentFor_1 (by decide) ?_
  refine j_aload_n C dL_paymentFor_2 rfl rfl ?_
  refine j_iload_n C dL_paymentFor_3 rfl rfl ?_
  refine j_iload_n C dL_paymentFor_4 rfl rfl ?_
  refine j_xcallV C (oa_X6 rfl) rfl rfl hM qm_L_75 qi_X6_paymentFor qs_X6_paymentFor qn_X6 qc_X6_paymentFor fit_X6_paymentFor ⟨Nat.le_of_ble_eq_true rfl, Nat.le_of_ble_eq_true rfl, Nat.le_of_ble_eq_true rfl, Nat.le_of_ble_eq_true rfl⟩ (Nat.le_of_ble_eq_true rfl) dL_paymentFor_5 rfl (j_xcatch C hT [] { startPc := 0, endPc := 10, handlerPc := 13, catchType := 21 } [{ startPc := 0, endPc := 10, handlerPc := 17, catchType := 13 }] rfl (fun z hz => nomatch hz) rfl (by decide) ql_L_21 xa5_xIO (fun q => ?_))
  refine j_ast4 C dL_paymentFor_13 (Nat.le_of_ble_eq_true rfl) rfl ?_
  refine j_iconst (v := (nI 1)) C dL_paymentFor_15 (by decide) ?_
  exact j_iret C dL_paymentFor_16 (by rfl) (by rfl) (by rfl)
set_option maxHeartbeats 4000000 in
theorem w_paymentFor_xIA {l : Launch} {g : GC} {V V' : Mem} {L : LMem} {p0 p1 : Int32} (hM : TC l yX6_paymentFor cX6_paymentFor 4 (some .int) 8 g V L [.ref (ad g 223), .int p0, .int p1] xIA V' L) : WM l yL_paymentFor cL_paymentFor 5 (some .int) [(0, 10, 13, 21), (0, 10, 17, 13)] 9 1 6 g V L [.ref (ad g 223), .int p0, .int p1, .ref (ad g 230)] (some (.int (nI 2))) V' L := by
  refine WM.of [some (.ref (ad g 223)), some (.int p0), some (.int p1), some (.ref (ad g 230)), none] (by decide +kernel) rfl (Nat.le_of_ble_eq_true rfl) (fun p e s m args below meth c C hT => ?_)
  refine j_aload_n C dL_paymentFor_0 rfl rfl ?_
  refine j_iconst (v := (nI 0)) C dL_paymentFor_1 (by decide) ?_
  refine j_aload_n C dL_paymentFor_2 rfl rfl ?_
  refine j_iload_n C dL_paymentFor_3 rfl rfl ?_
  refine j_iload_n C dL_paymentFor_4 rfl rfl ?_
  refine j_xcallV C (oa_X6 rfl) rfl rfl hM qm_L_75 qi_X6_paymentFor qs_X6_paymentFor qn_X6 qc_X6_paymentFor fit_X6_paymentFor ⟨Nat.le_of_ble_eq_true rfl, Nat.le_of_ble_eq_true rfl, Nat.le_of_ble_eq_true rfl, Nat.le_of_ble_eq_true rfl⟩ (Nat.le_of_ble_eq_true rfl) dL_paymentFor_5 rfl (j_xcatch C hT [{ startPc := 0, endPc := 10, handlerPc := 13, catchType := 21 }] { startPc := 0, endPc := 10, handlerPc := 17, catchType := 13 } [] rfl (List.forall_mem_cons.mpr ⟨⟨_, by decide, ql_L_21, nc_xIA_xIO⟩, (List.forall_mem_nil _)⟩) rfl (by decide) ql_L_13 xa5_xIA (fun q => ?_))
  refine j_ast4 C dL_paymentFor_17 (Nat.le_of_ble_eq_true rfl) rfl ?_
  refine j_iconst (v := (nI 2)) C dL_paymentFor_19 (by decide) ?_
  exact j_iret C dL_paymentFor_20 (by rfl) (by rfl) (by rfl)
set_option maxHeartbeats 4000000 in
theorem w_rateWithin {l : Launch} {g : GC} {V V' : Mem} {L : LMem} {p0 : Int32} {r : Int32} (hM : MC l yX6_rateWithin cX6_rateWithin 3 (some .int) 5 g V L [.ref (ad g 223), .int p0] (some (.int r)) V' L) : WM l yL_rateWithin cL_rateWithin 4 (some .int) [(0, 9, 12, 21)] 9 0 0 g V L [.ref (ad g 223), .int p0, .ref (ad g 230)] (some (.int (nI 0))) V' (lset L 1 r.toInt64) := by
  refine WM.of [some (.ref (ad g 223)), some (.int p0), some (.ref (ad g 230)), none] (by decide +kernel) rfl (Nat.le_of_ble_eq_true rfl) (fun p e s m args below meth c C hT => ?_)
  refine j_aload_n C dL_rateWithin_0 rfl rfl ?_
  refine j_iconst (v := (nI 0)) C dL_rateWithin_1 (by decide) ?_
  refine j_aload_n C dL_rateWithin_2 rfl rfl ?_
  refine j_iload_n C dL_rateWithin_3 rfl rfl ?_
  refine j_callV1r C (oa_X6 (by first | assumption | exact kd_sums (by assumption) | exact kd_st1 (by assumption) | exact kd_st2 (by assumption) | exact kd_ls (by first | assumption | rfl) (by assumption) | exact kd_sb (by first | assumption | rfl) (by assumption) | exact kd_sv (by assumption) | rfl)) rfl rfl (hM) qm_L_78 qi_X6_rateWithin qs_X6_rateWithin qn_X6 qc_X6_rateWithin fit_X6_rateWithin ⟨Nat.le_of_ble_eq_true rfl, Nat.le_of_ble_eq_true rfl, Nat.le_of_ble_eq_true rfl, Nat.le_of_ble_eq_true rfl⟩ (Nat.le_of_ble_eq_true rfl) dL_rateWithin_4 ?_
  refine j_i2l C dL_rateWithin_7 ?_
  refine j_last C dL_rateWithin_8 ?_
  refine j_goto (tgt := 15) C dL_rateWithin_9 (by decide) ?_
  refine j_iconst (v := (nI 0)) C dL_rateWithin_15 (by decide) ?_
  exact j_iret C dL_rateWithin_16 (by rfl) (by rfl) (by rfl)
set_option maxHeartbeats 4000000 in
theorem w_rateWithin_xIO {l : Launch} {g : GC} {V V' : Mem} {L : LMem} {p0 : Int32} (hM : TC l yX6_rateWithin cX6_rateWithin 3 (some .int) 8 g V L [.ref (ad g 223), .int p0] xIO V' L) : WM l yL_rateWithin cL_rateWithin 4 (some .int) [(0, 9, 12, 21)] 9 1 6 g V L [.ref (ad g 223), .int p0, .ref (ad g 230)] (some (.int (nI 1))) V' L := by
  refine WM.of [some (.ref (ad g 223)), some (.int p0), some (.ref (ad g 230)), none] (by decide +kernel) rfl (Nat.le_of_ble_eq_true rfl) (fun p e s m args below meth c C hT => ?_)
  refine j_aload_n C dL_rateWithin_0 rfl rfl ?_
  refine j_iconst (v := (nI 0)) C dL_rateWithin_1 (by decide) ?_
  refine j_aload_n C dL_rateWithin_2 rfl rfl ?_
  refine j_iload_n C dL_rateWithin_3 rfl rfl ?_
  refine j_xcallV C (oa_X6 rfl) rfl rfl hM qm_L_78 qi_X6_rateWithin qs_X6_rateWithin qn_X6 qc_X6_rateWithin fit_X6_rateWithin ⟨Nat.le_of_ble_eq_true rfl, Nat.le_of_ble_eq_true rfl, Nat.le_of_ble_eq_true rfl, Nat.le_of_ble_eq_true rfl⟩ (Nat.le_of_ble_eq_true rfl) dL_rateWithin_4 rfl (j_xcatch C hT [] { startPc := 0, endPc := 9, handlerPc := 12, catchType := 21 } [] rfl (fun z hz => nomatch hz) rfl (by decide) ql_L_21 xa5_xIO (fun q => ?_))
  refine j_ast3 C dL_rateWithin_12 rfl (Nat.le_of_ble_eq_true rfl) rfl ?_
  refine j_iconst (v := (nI 1)) C dL_rateWithin_13 (by decide) ?_
  exact j_iret C dL_rateWithin_14 (by rfl) (by rfl) (by rfl)
set_option maxHeartbeats 4000000 in
theorem w_fairReceipt {l : Launch} {g : GC} {V V' : Mem} {L : LMem} {p0 p1 p2 : Int32} {r : Int32} (hM : MC l yX6_fairReceipt cX6_fairReceipt 5 (some .int) 5 g V L [.ref (ad g 223), .int p0, .int p1, .int p2] (some (.int r)) V' L) : WM l yL_fairReceipt cL_fairReceipt 6 (some .int) [(0, 12, 15, 21), (0, 12, 19, 13)] 9 0 0 g V L [.ref (ad g 223), .int p0, .int p1, .int p2, .ref (ad g 230)] (some (.int (nI 0))) V' (lset L 1 r.toInt64) := by
  refine WM.of [some (.ref (ad g 223)), some (.int p0), some (.int p1), some (.int p2), some (.ref (ad g 230)), none] (by decide +kernel) rfl (Nat.le_of_ble_eq_true rfl) (fun p e s m args below meth c C hT => ?_)
  refine j_aload C dL_fairReceipt_0 rfl ?_
  refine j_iconst (v := (nI 0)) C dL_fairReceipt_2 (by decide) ?_
  refine j_aload_n C dL_fairReceipt_3 rfl rfl ?_
  refine j_iload_n C dL_fairReceipt_4 rfl rfl ?_
  refine j_iload_n C dL_fairReceipt_5 rfl rfl ?_
  refine j_iload_n C dL_fairReceipt_6 rfl rfl ?_
  refine j_callV3r C (oa_X6 (by first | assumption | exact kd_sums (by assumption) | exact kd_st1 (by assumption) | exact kd_st2 (by assumption) | exact kd_ls (by first | assumption | rfl) (by assumption) | exact kd_sb (by first | assumption | rfl) (by assumption) | exact kd_sv (by assumption) | rfl)) rfl rfl (hM) qm_L_81 qi_X6_fairReceipt qs_X6_fairReceipt qn_X6 qc_X6_fairReceipt fit_X6_fairReceipt ⟨Nat.le_of_ble_eq_true rfl, Nat.le_of_ble_eq_true rfl, Nat.le_of_ble_eq_true rfl, Nat.le_of_ble_eq_true rfl⟩ (Nat.le_of_ble_eq_true rfl) dL_fairReceipt_7 ?_
  refine j_i2l C dL_fairReceipt_10 ?_
  refine j_last C dL_fairReceipt_11 ?_
  refine j_goto (tgt := 23) C dL_fairReceipt_12 (by decide) ?_
  refine j_iconst (v := (nI 0)) C dL_fairReceipt_23 (by decide) ?_
  exact j_iret C dL_fairReceipt_24 (by rfl) (by rfl) (by rfl)
set_option maxHeartbeats 4000000 in
theorem w_fairReceipt_xIO {l : Launch} {g : GC} {V V' : Mem} {L : LMem} {p0 p1 p2 : Int32} (hM : TC l yX6_fairReceipt cX6_fairReceipt 5 (some .int) 8 g V L [.ref (ad g 223), .int p0, .int p1, .int p2] xIO V' L) : WM l yL_fairReceipt cL_fairReceipt 6 (some .int) [(0, 12, 15, 21), (0, 12, 19, 13)] 9 1 6 g V L [.ref (ad g 223), .int p0, .int p1, .int p2, .ref (ad g 230)] (some (.int (nI 1))) V' L := by
  refine WM.of [some (.ref (ad g 223)), some (.int p0), some (.int p1), some (.int p2), some (.ref (ad g 230)), none] (by decide +kernel) rfl (Nat.le_of_ble_eq_true rfl) (fun p e s m args below meth c C hT => ?_)
  refine j_aload C dL_fairReceipt_0 rfl ?_
  refine j_iconst (v := (nI 0)) C dL_fairReceipt_2 (by decide) ?_
  refine j_aload_n C dL_fairReceipt_3 rfl rfl ?_
  refine j_iload_n C dL_fairReceipt_4 rfl rfl ?_
  refine j_iload_n C dL_fairReceipt_5 rfl rfl ?_
  refine j_iload_n C dL_fairReceipt_6 rfl rfl ?_
  refine j_xcallV C (oa_X6 rfl) rfl rfl hM qm_L_81 qi_X6_fairReceipt qs_X6_fairReceipt qn_X6 qc_X6_fairReceipt fit_X6_fairReceipt ⟨Nat.le_of_ble_eq_true rfl, Nat.le_of_ble_eq_true rfl, Nat.le_of_ble_eq_true rfl, Nat.le_of_ble_eq_true rfl⟩ (Nat.le_of_ble_eq_true rfl) dL_fairReceipt_7 rfl (j_xcatch C hT [] { startPc := 0, endPc := 12, handlerPc := 15, catchType := 21 } [{ startPc := 0, endPc := 12, handlerPc := 19, catchType := 13 }] rfl (fun z hz => nomatch hz) rfl (by decide) ql_L_21 xa5_xIO (fun q => ?_))
  refine j_ast5 C dL_fairReceipt_15 (Nat.le_of_ble_eq_true rfl) rfl ?_
  refine j_iconst (v := (nI 1)) C dL_fairReceipt_17 (by decide) ?_
  exact j_iret C dL_fairReceipt_18 (by rfl) (by rfl) (by rfl)
set_option maxHeartbeats 4000000 in
theorem w_fairReceipt_xIA {l : Launch} {g : GC} {V V' : Mem} {L : LMem} {p0 p1 p2 : Int32} (hM : TC l yX6_fairReceipt cX6_fairReceipt 5 (some .int) 8 g V L [.ref (ad g 223), .int p0, .int p1, .int p2] xIA V' L) : WM l yL_fairReceipt cL_fairReceipt 6 (some .int) [(0, 12, 15, 21), (0, 12, 19, 13)] 9 1 6 g V L [.ref (ad g 223), .int p0, .int p1, .int p2, .ref (ad g 230)] (some (.int (nI 2))) V' L := by
  refine WM.of [some (.ref (ad g 223)), some (.int p0), some (.int p1), some (.int p2), some (.ref (ad g 230)), none] (by decide +kernel) rfl (Nat.le_of_ble_eq_true rfl) (fun p e s m args below meth c C hT => ?_)
  refine j_aload C dL_fairReceipt_0 rfl ?_
  refine j_iconst (v := (nI 0)) C dL_fairReceipt_2 (by decide) ?_
  refine j_aload_n C dL_fairReceipt_3 rfl rfl ?_
  refine j_iload_n C dL_fairReceipt_4 rfl rfl ?_
  refine j_iload_n C dL_fairReceipt_5 rfl rfl ?_
  refine j_iload_n C dL_fairReceipt_6 rfl rfl ?_
  refine j_xcallV C (oa_X6 rfl) rfl rfl hM qm_L_81 qi_X6_fairReceipt qs_X6_fairReceipt qn_X6 qc_X6_fairReceipt fit_X6_fairReceipt ⟨Nat.le_of_ble_eq_true rfl, Nat.le_of_ble_eq_true rfl, Nat.le_of_ble_eq_true rfl, Nat.le_of_ble_eq_true rfl⟩ (Nat.le_of_ble_eq_true rfl) dL_fairReceipt_7 rfl (j_xcatch C hT [{ startPc := 0, endPc := 12, handlerPc := 15, catchType := 21 }] { startPc := 0, endPc := 12, handlerPc := 19, catchType := 13 } [] rfl (List.forall_mem_cons.mpr ⟨⟨_, by decide, ql_L_21, nc_xIA_xIO⟩, (List.forall_mem_nil _)⟩) rfl (by decide) ql_L_13 xa5_xIA (fun q => ?_))
  refine j_ast5 C dL_fairReceipt_19 (Nat.le_of_ble_eq_true rfl) rfl ?_
  refine j_iconst (v := (nI 2)) C dL_fairReceipt_21 (by decide) ?_
  exact j_iret C dL_fairReceipt_22 (by rfl) (by rfl) (by rfl)
