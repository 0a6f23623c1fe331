/-! THE CLASS: methods that throw -/
def nms : List String := ["java/lang/RuntimeException", "java/lang/Exception"]
def xW (E : String) : List Cond := Cond.castable E E :: DCs.map Cond.declares
abbrev NoQ : Array Value → State → Outcome → State → Prop := fun _ _ _ _ => False
/-- E is thrown, in the world V', L' -/
def XC0 (g : GC) (E : String) (V' : Mem) (L' : LMem) : String → State → State → Prop := fun E' st t => (E' = E ∧ PW g V' L' t) ∧ va_F (AA g) st t
abbrev RX (d : Nat) : Room := { frames := d, cells := 1, slots := 6, locals := 30 * d }
def TC (l : Launch) (y : MethodName) (b : ByteArray) (n : Nat) (ret : Option FieldType) (d : Nat) (g : GC) (V : Mem) (L : LMem) (As : List Value) (E : String) (V' : Mem) (L' : LMem) : Prop :=
  vx_Met l y (WS y b n ret) (RX d) (va_Pc As (AtW g V L)) NoQ (XC0 g E V' L') 1 6 (AA g)
abbrev XQ (below : List Frame) (args : Array Value) (s : State) (g : GC) (E : String) (V' : Mem) (L' : LMem) : State → Prop := vx_MQ below NoQ (XC0 g E V' L') args s 1 6 (AA g)
theorem TC.of {l : Launch} {y : MethodName} {b : ByteArray} {n : Nat} {ret : Option FieldType} {d : Nat} {g : GC} {V : Mem} {L : LMem} {As : List Value} {E : String} {V' : Mem} {L' : LMem} (lv0 : List (Option Value)) (hy : plainName y.cls = true) (h0 : en 0 lv0 = lv_args 0 As) (hn : (lg_sl As).length ≤ n)
    (body : ∀ (p : Program) (e : Env) (s : State) (m : MethodId) (args : Array Value) (below : List Frame) (meth : Method) (c : Code), Cx p s args m meth c b n y.cls ret g → (∀ x ∈ c.exceptionTable.toList, False) → J p l e (RX d) s m args below meth c n g 0 0 (XQ below args s g E V' L') V L 0 lv0 []) : TC l y b n ret d g V L As E V' L' := by
  refine vx_ofW (cc := b) (maxL := n) (ret := ret) hy rfl ?_
  intro p e s m args below meth c s₁ B hml ht hv
  obtain ⟨rfl, hP, hC⟩ := hv
  have hts0 := atoms_spec (ws := WS y b n ret) B.pre
  have hl := lv_entry As (n := n) hn
  rw [lg_entry_eq]
  refine body p e s m As.toArray below meth c ⟨B.exec, B.bytes, hml, findClass_of_methodNamed B.named, fun w hw => hts0 w (List.mem_cons_of_mem _ hw), B.notSynchronized, B.returns, hC⟩ ht s.heap [] _ ⟨hP, va_S.rf⟩ ?_
  show lv_has _ n (en 0 lv0)
  rw [h0]
  exact hl
section XCALL
variable {p : Program} {l : Launch} {e : Env} {R : Room} {s : State} {m : MethodId} {args : Array Value} {below : List Frame} {meth : Method} {c : Code} {nL : Nat} {g : GC} {cells slots : Nat} {Q : State → Prop} {V : Mem} {L : LMem} {pc : Nat} {lv : List (Option Value)} {st : List Value} {cc : ByteArray} {own : String} {ret : Option FieldType}
/-- behind a callee that has thrown -/
def JX (p : Program) (l : Launch) (e : Env) (R : Room) (s : State) (m : MethodId) (args : Array Value) (below : List Frame) (meth : Method) (c : Code) (nL : Nat) (g : GC) (cells slots : Nat) (Q : State → Prop) (V : Mem) (L : LMem) (pc : Nat) (lv : List (Option Value)) (st : List Value) (E : String) : Prop :=
  ∀ (H : Heap) (locs : List Loc) (ls : Array Slot) (q : Addr) (ce : Cell), HW g s V L H locs → lvO ls nL lv → H[q]? = some ce → ce.vm = .none → s.vm.findClass E = some ce.cls → vx_W p l e R s m args below meth c H locs cells slots Q (F0 m pc ls st) q
theorem j_xrun {stk : List Value} {a : Array Value} {E : String} {V' : Mem} {L' : LMem} (hr : ∀ (H : Heap) (locs : List Loc) (ls : Array Slot), HW g s V L H locs → lvO ls nL lv → vx_Run p l e R s m args below meth c H locs cells slots 1 6 (F0 m pc ls stk) st (NoQ a) (XC0 g E V' L') (AA g)) (k : JX p l e R s m args below meth c nL g (cells + 1) (slots + 6) Q V' L' pc lv st E) : J p l e R s m args below meth c nL g cells slots Q V L pc lv stk := by
  intro H locs ls hw hl T hT X
  rcases hr H locs ls hw hl T hT X with ⟨v, st₀, t, T', Lc, h0, X', hL, e1, e2, hF, -⟩ | ⟨q, st₀, t, T', Lc, E', ce, h0, X', hL, e1, e2, ⟨⟨hE, hB⟩, hz, hk⟩, hce, hcv, hcl, stp⟩
  · exact hF.elim
  · subst hE
    rw [h0] at hz hk
    obtain ⟨t2, a1, b1⟩ := k T'.heap (locs ++ Lc) ls q ce ⟨by rw [e1]; exact hB, Nat.le_trans hw.2.1 (by rw [e1]; exact hz), fun q h1 h2 => by rw [e1, hk q (Nat.lt_of_lt_of_le h1 hw.2.1) h2]; exact hw.2.2.1 q h1 h2, fun q hq => (List.mem_append.mp hq).elim (hw.2.2.2 q) (hL q)⟩ hl (by rw [e1]; exact hce) hcv hcl T' rfl X'
    exact ⟨t2, stp.trans a1, b1⟩
/-- not caught here -/
theorem j_xout (C : Cx p s args m meth c cc nL own ret g) (ht : ∀ x ∈ c.exceptionTable.toList, False) {E : String} {V' : Mem} {L' : LMem} : JX p l e R s m args below meth c nL g (0 + 1) (0 + 6) (XQ below args s g E V' L') V' L' pc lv st E := fun H locs ls q ce hw hl hce hcv hcl =>
  vx_out (fun x hx => (ht x hx).elim) C.2.2.2.2.2.1 hce hcv hcl (fun t ht2 hA => ⟨⟨rfl, by show va_P _ _ _ t.heap; rw [ht2]; exact hw.1⟩, hw.2.F ht2⟩) hw.2.2.2 (Nat.le_refl _) (Nat.le_refl _)
theorem j_xcallS (C : Cx p s args m meth c cc nL own ret g) {y : MethodName} {b : ByteArray} {n d' i0 : Nat} {r : Option FieldType} {E : String} {V' : Mem} {L' : LMem} {As stk : List Value} (hM : TC l y b n r d' g V L As E V' L') (hl : Cond.methodLink own i0 y ∈ TG) (ht : Cond.static y ∈ TG) (hi : Cond.initialized y.cls ∈ TG) (hc : Cond.code y b n r ∈ TG)
    (hy : y.cls ≠ "java/lang/invoke/MethodHandle" ∧ y.cls ≠ "java/lang/invoke/VarHandle" ∧ (parseMethodDescriptor y.desc).map (fun d => d.parameters.length) = some As.length) (hd : d' + 1 ≤ R.frames ∧ 8 + (n + 11) + 30 * d' ≤ R.locals ∧ cells + 1 ≤ R.cells ∧ slots + 6 ≤ R.slots) (hW : (st.map fun v => v.category).sum ≤ 8) (hdg : decode cc pc = .ok (.invokestatic i0, 3)) (hs : stk = As.reverse ++ st) (k : JX p l e R s m args below meth c nL g (cells + 1) (slots + 6) Q V' L' pc lv st E) : J p l e R s m args below meth c nL g cells slots Q V L pc lv stk :=
  j_xrun (a := As.toArray) (fun H locs ls hw hlv => vx_runS (As := As) (rest := st) ⟨C.1, C.2.1, C.2.2.1, C.2.2.2.1, C.2.2.2.2.1⟩ hM (va_cwS As.length C.2.2.2.2.1 (TG_sub (TG_c hl (TG_c ht (TG_c hi (TG_ws hc))))) rfl rfl rfl hy ⟨hd.1, hd.2.1⟩) ⟨AtW.blind, fun U hU hW => ⟨rfl, AtW.go C hw hU hW⟩⟩ rfl rfl hlv.1 hs (lv_room hW) hdg ⟨hd.2.2.1, hd.2.2.2⟩) k
theorem j_xcallV (C : Cx p s args m meth c cc nL own ret g) {y : MethodName} {b : ByteArray} {n d' i0 k0 ci : Nat} {fs : List Value} {q : vw_C} {r : Option FieldType} {E : String} {V' : Mem} {L' : LMem} {As stk : List Value} (hob : (TW g V L)[k0]? = some (ad g k0, .inr (ci, fs))) (hcl : vwCl[ci]? = some q) (hq : y.cls = q.1) (hM : TC l y b n r d' g V L (.ref (ad g k0) :: As) E V' L') (hl : Cond.methodLink own i0 y ∈ TG) (ht : Cond.instanceMethod y ∈ TG) (hse : Cond.selects q.1 y y ∈ TG) (hi : Cond.initialized q.1 ∈ TG) (hc : Cond.code y b n r ∈ TG)
    (hy : y.cls ≠ "java/lang/invoke/MethodHandle" ∧ y.cls ≠ "java/lang/invoke/VarHandle" ∧ (parseMethodDescriptor y.desc).map (fun d => d.parameters.length) = some As.length) (hd : d' + 1 ≤ R.frames ∧ 8 + (n + 11) + 30 * d' ≤ R.locals ∧ cells + 1 ≤ R.cells ∧ slots + 6 ≤ R.slots) (hW : (st.map fun v => v.category).sum ≤ 8) (hdg : decode cc pc = .ok (.invokevirtual i0, 3)) (hs : stk = As.reverse ++ .ref (ad g k0) :: st) (k : JX p l e R s m args below meth c nL g (cells + 1) (slots + 6) Q V' L' pc lv st E) : J p l e R s m args below meth c nL g cells slots Q V L pc lv stk :=
  j_xrun (a := (Value.ref (ad g k0) :: As).toArray) (fun H locs ls hw hlv => vx_runV (C := q.1) (As := As) (rest := st) ⟨C.1, C.2.1, C.2.2.1, C.2.2.2.1, C.2.2.2.2.1⟩ hM (cwV As.length C.2.2.2.2.1 (TG_sub (TG_c hl (TG_c ht (TG_c hse (TG_c hi (TG_ws hc)))))) rfl rfl rfl ⟨hq, hy⟩ ⟨hd.1, hd.2.1⟩) ⟨AtW.blind, va_recv C.2.2.2.2.2.2.2.1 hw.1 hcl hob, fun U hU hW => ⟨rfl, AtW.go C hw hU hW⟩⟩ rfl rfl hlv.1 hs (lv_room hW) hdg ⟨hd.2.2.1, hd.2.2.2⟩) k
end XCALL
section XTHROW
variable {p : Program} {l : Launch} {e : Env} {R : Room} {s : State} {m : MethodId} {args : Array Value} {below : List Frame} {meth : Method} {c : Code} {nL : Nat} {g : GC} {V : Mem} {L : LMem} {pc : Nat} {lv : List (Option Value)} {st : List Value} {cc : ByteArray} {ret : Option FieldType}
theorem xw_before {E : String} (hE : (E, E) ∈ CSs) (hX : XT s) : ∀ w ∈ xW E, w.before args s = true := by
  intro w hw
  rcases List.mem_cons.mp hw with h | h
  · subst h
    exact va_tabs rfl rfl (hX.2.1 _ hE)
  · obtain ⟨q, hq, rfl⟩ := List.mem_map.mp h
    exact va_tabs rfl rfl (hX.2.2.2.1 q hq)
theorem PW.grow {H H1 : Heap} (h : va_P (gD g) vwCl (TW g V L) H) (hq : ∀ q : Nat, q < H.size → H1[q]? = H[q]?) : va_P (gD g) vwCl (TW g V L) H1 := h.kept (fun k q hk => hq q.1 ((h k q hk).lt))
theorem va_S.grow {A : Nat → Prop} {H0 H H1 : Heap} {locs : List Loc} (h : va_S A H0 H locs) (hs : H.size ≤ H1.size) (hq : ∀ q : Nat, q < H.size → H1[q]? = H[q]?) : H0.size ≤ H1.size ∧ ∀ q : Nat, q < H0.size → ¬ A q → H1[q]? = H0[q]? := ⟨Nat.le_trans h.1 hs, fun q h1 h2 => by rw [hq q (Nat.lt_of_lt_of_le h1 h.1)]; exact h.2.1 q h1 h2⟩
theorem XH.at1 (C : Cx p s args m meth c cc nL RX6 ret g) : vx_Zq Bundle.tN "UNASSIGNED_STACK" Bundle.steD (AA g) s s.heap := vx_Zq.kept C.2.2.2.2.2.2.2.2.2.2.2.1 (fun a ha _ => C.2.2.2.2.2.2.2.2.2.1.2 a ha)
theorem XH.at2 (C : Cx p s args m meth c cc nL RX6 ret g) : vx_Zq Bundle.tN "SUPPRESSED_SENTINEL" Bundle.listD (AA g) s s.heap := vx_Zq.kept C.2.2.2.2.2.2.2.2.2.2.2.2.1 (fun a ha _ => C.2.2.2.2.2.2.2.2.2.1.2 a ha)
theorem j_throwSW (C : Cx p s args m meth c cc nL RX6 ret g) (ht : ∀ x ∈ c.exceptionTable.toList, False) (hf : l.stackTraces = false) {E text : String} {ik is ic : Nat} (hk : Cond.classLink RX6 ik E ∈ TG) (hini : Cond.initialized E ∈ TG) (hst : (is, text) ∈ STs) (hE : (E, E) ∈ CSs) (hfit : Bundle.fit E = true)
    (a1 : ∀ w ∈ (vx_atS RX6 ic E nms).filter goodWord, w ∈ lw_tbl) (a2 : ∀ w ∈ (vx_atS RX6 ic E nms).filter (fun w => !goodWord w), w ∈ xW E) (a3 : ∀ w ∈ Cond.classLink RX6 ik E :: Cond.initialized E :: vx_atS RX6 ic E nms, vx_ot w = true)
    (d0 : decode cc pc = .ok (.new ik, 3)) (d3 : decode cc (pc + 3) = .ok (.dup, 1)) (d4 : decode cc (pc + 4) = .ok (.ldc_w is, 3)) (d7 : decode cc (pc + 7) = .ok (.invokespecial ic, 3)) (d10 : decode cc (pc + 10) = .ok (.athrow, 1))
    (hR : 5 < R.frames ∧ (st.map fun v => v.category).sum + 82 ≤ R.locals ∧ 0 + 1 ≤ R.cells ∧ 0 + 6 ≤ R.slots) : J p l e R s m args below meth c nL g 0 0 (XQ below args s g E V L) V L pc lv st := fun H locs ls hw hl => by
  obtain ⟨sa, hs⟩ := C.2.2.2.2.2.2.2.2.2.2.1.2.2.2.2 _ hst
  exact vx_throwSW C.1 C.2.1 hf C.2.2.2.1 hfit (by decide +kernel) (C.2.2.2.2.1 _ hk) (C.2.2.2.2.1 _ hini) hs
    (vx_hat (fun w hw => C.2.2.2.2.1 _ (TG_in (a1 w hw) (List.mem_filter.mp hw).2)) a2 (xw_before hE C.2.2.2.2.2.2.2.2.2.2.1)) a3 (XH.at1 C) (XH.at2 C) hw.2 (hl.1.trans C.2.2.1.symm) d0 d3 d4 d7 d10 (fun x hx => (ht x hx).elim) hR.1 hR.2.1 hR.2.2.1 hR.2.2.2 C.2.2.2.2.2.1
    (fun t hA h1 h2 => ⟨⟨rfl, PW.grow hw.1 h2⟩, va_S.grow hw.2 h1 h2⟩) hw.2.2.2 (Nat.le_refl _) (Nat.le_refl _)
end XTHROW
