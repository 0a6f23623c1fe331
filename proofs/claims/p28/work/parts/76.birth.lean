/-! BIRTH: constructors, over a world that grows -/
abbrev AOs : List String := [RX2, RX5, RX4]
def CXB (g : GC) (U : State) : Prop := va_K (gD g) vwCl (tysG g) U ∧ XT U ∧ ∀ K ∈ AOs, va_AO K U
theorem CXB.warm {g : GC} {s U : State} (hW : s.WarmedH U.vm) (h : CXB g s) : CXB g U := ⟨va_K.moved hW.alike h.1, h.2.1.warm hW, fun K hK => va_AO.moved hW.alike (h.2.2 K hK)⟩
theorem CXB.calling {g : GC} {U : State} (f : JFrame) (mk : MethodId) (a : Array Value) (h : CXB g U) : CXB g (U.calling f mk a) :=
  ⟨va_K.moved (u := U) (U := U.calling f mk a) (Vm.Alike.refl U.vm) h.1, XT.same (s := U) (U := U.calling f mk a) rfl h.2.1, fun K hK => va_AO.moved (u := U) (U := U.calling f mk a) (Vm.Alike.refl U.vm) (h.2.2 K hK)⟩
def Cn (p : Program) (s : State) (args : Array Value) (m : MethodId) (meth : Method) (c : Code) (cc : ByteArray) (nL : Nat) (own : String) (g : GC) : Prop :=
  p.tables.exec = Jvm.exec ∧ c.code = cc ∧ c.maxLocals = nL ∧ s.vm.findClass own = some m.cls ∧ (∀ w ∈ TG, w.before args s = true) ∧ meth.locks = false ∧ CXB g s
def JN (p : Program) (l : Launch) (e : Env) (R : Room) (s : State) (m : MethodId) (args : Array Value) (below : List Frame) (meth : Method) (c : Code) (nL : Nat) (g : GC) (A : Nat → Prop) (cells slots : Nat) (Q : State → Prop) (ws : va_W) (pc : Nat) (lv : List (Option Value)) (st : List Value) : Prop :=
  ∀ (H : Heap) (locs : List Loc) (ls : Array Slot), va_P (gD g) vwCl ws H → va_D A ws → va_S A s.heap H locs → lvO ls nL lv → W p l e R s m args below meth c H locs cells slots Q (F0 m pc ls st)
theorem va_D.one {A : Nat → Prop} {q : Nat} {e0 : va_E} (h : A q) : va_D A [(q, e0)] := by
  refine ⟨fun i j x y hi hj _ => ?_, fun k x hk => ?_⟩
  · have h1 := (List.getElem?_eq_some_iff.mp hi).1
    have h2 := (List.getElem?_eq_some_iff.mp hj).1
    simp at h1 h2
    omega
  · have h1 := (List.getElem?_eq_some_iff.mp hk).1
    simp at h1
    subst h1
    simp at hk
    subst hk
    exact h
theorem last_at {ws t : va_W} {x : Nat × va_E} : (ws ++ x :: t)[ws.length]? = some x := by simp
/-- the last cell's maker has come back -/
theorem join_last {A : Nat → Prop} {D : va_G} {cl : List vw_C} {ws w1 : va_W} {q : Nat} {e0 : va_E} {H H1 : Heap} (hP : va_P D cl (ws ++ [(q, e0)]) H) (hD : va_D A (ws ++ [(q, e0)])) (hF : ∀ x, va_A [(q, e0)] H.size x → A x)
    (hk : ∀ x : Nat, x < H.size → ¬ va_A [(q, e0)] H.size x → H1[x]? = H[x]?) (hP1 : va_P D cl w1 H1) (hD1 : va_D (va_A [(q, e0)] H.size) w1) : va_P D cl (ws ++ w1) H1 ∧ va_D A (ws ++ w1) := by
  have hin : ∀ (k : Nat) (x : Nat × va_E), ws[k]? = some x → (ws ++ [(q, e0)])[k]? = some x := fun k x hx => by
    have := (List.getElem?_eq_some_iff.mp hx).1
    rw [List.getElem?_append_left this]; exact hx
  have hna : ∀ (k : Nat) (x : Nat × va_E), ws[k]? = some x → x.1 < H.size ∧ x.1 ≠ q := fun k x hx => by
    refine ⟨(hP k x (hin k x hx)).lt, fun e => ?_⟩
    have h1 := hD.1 k ws.length x (q, e0) (hin k x hx) last_at e
    have h2 := (List.getElem?_eq_some_iff.mp hx).1
    omega
  have hnv : ∀ (k : Nat) (x : Nat × va_E), ws[k]? = some x → ¬ va_A [(q, e0)] H.size x.1 := fun k x hx => by
    have h1 := hna k x hx
    rintro (⟨k2, e2, h2⟩ | h2)
    · have h3 := (List.getElem?_eq_some_iff.mp h2).1
      simp at h3
      subst h3
      simp at h2
      exact h1.2 h2.1.symm
    · omega
  have hP0 : va_P D cl ws H1 := fun k x hx => (hP k x (hin k x hx)).kept (hk x.1 (hna k x hx).1 (hnv k x hx))
  refine ⟨hP0.app hP1, va_D.app ⟨fun i j x y hi hj => hD.1 i j x y (hin i x hi) (hin j y hj), fun k x hx => hD.2 k x (hin k x hx)⟩ (hD1.weaken (fun _ _ _ => hF _)) (fun i j x y hi hj e => ?_)⟩
  exact hnv i x hi (by rw [e]; exact hD1.2 j y hj)
abbrev RB (d mc ms : Nat) : Room := { frames := d, cells := mc, slots := ms, locals := 30 * d }
def QB (g : GC) (W1 : Nat → (Nat → Nat) → va_W) (h0 : Nat) (A : Nat → Prop) : Array Value → State → Outcome → State → Prop := fun _ st oc t => (oc = .returned none ∧ ∃ F : Nat → Nat, va_P (gD g) vwCl (W1 h0 F) t.heap ∧ va_D A (W1 h0 F)) ∧ va_F A st t
/-- a constructor's contract: out of the object e0 come the cells W1 -/
def BC (l : Launch) (y : MethodName) (b : ByteArray) (n d mc ms : Nat) (g : GC) (e0 : va_E) (W1 : Nat → (Nat → Nat) → va_W) : Prop :=
  ∀ h0 sz : Nat, Met l y (WS y b n none) (RB d mc ms) (va_Pc [.ref h0] (fun U => U.heap.size = sz ∧ va_P (gD g) vwCl [(h0, e0)] U.heap ∧ CXB g U)) (QB g W1 h0 (va_A [(h0, e0)] sz)) mc ms (va_A [(h0, e0)] sz)
theorem BC.of {l : Launch} {y : MethodName} {b : ByteArray} {n d mc ms : Nat} {g : GC} {e0 : va_E} {W1 : Nat → (Nat → Nat) → va_W} (lv0 : List (Option Value)) (hy : plainName y.cls = true) (h0e : ∀ h0 : Nat, en 0 (some (.ref h0) :: lv0) = lv_args 0 [.ref h0]) (hn : 1 ≤ n)
    (body : ∀ (p : Program) (e : Env) (s : State) (m : MethodId) (args : Array Value) (below : List Frame) (meth : Method) (c : Code) (h0 : Nat) (A : Nat → Prop), Cn p s args m meth c b n y.cls g → meth.name = "<init>" → meth.sig.returnType = none → (∀ q, s.heap.size ≤ q → A q) → JN p l e (RB d mc ms) s m args below meth c n g A 0 0 (MQ below (QB g W1 h0 A) args s mc ms A) [(h0, e0)] 0 (some (.ref h0) :: lv0) []) (hi : y.name = "<init>") : BC l y b n d mc ms g e0 W1 := by
  intro h0 sz
  refine Met.ofW (cc := b) (maxL := n) (ret := none) hy rfl ?_
  intro p e s m args below meth c s₁ B hml hv
  obtain ⟨rfl, hsz, hP, hC⟩ := hv
  have hts0 := atoms_spec (ws := WS y b n none) B.pre
  have hl := lv_entry [.ref h0] (n := n) hn
  have hin : meth.name = "<init>" := (name_of_methodNamed B.named B.method).1.trans hi
  subst hsz
  rw [lg_entry_eq]
  refine body p e s m _ below meth c h0 _ ⟨B.exec, B.bytes, hml, findClass_of_methodNamed B.named, fun w hw => hts0 w (List.mem_cons_of_mem _ hw), B.notSynchronized, hC⟩ hin B.returns (fun q hq => Or.inr hq) s.heap [] _ hP (va_D.one (Or.inl ⟨0, _, rfl⟩)) va_S.rf ?_
  show lv_has _ n (en 0 _)
  rw [h0e]
  exact hl
section BIRTH
variable {p : Program} {l : Launch} {e : Env} {R : Room} {s : State} {m : MethodId} {args : Array Value} {below : List Frame} {meth : Method} {c : Code} {nL : Nat} {g : GC} {A : Nat → Prop} {cells slots : Nat} {Q : State → Prop} {ws : va_W} {pc : Nat} {lv : List (Option Value)} {st : List Value} {cc : ByteArray} {own : String}
theorem JN.eq {ws' : va_W} (h : ws = ws') (k : JN p l e R s m args below meth c nL g A cells slots Q ws' pc lv st) : JN p l e R s m args below meth c nL g A cells slots Q ws pc lv st := by subst h; exact k
theorem JN.widen {k' n' : Nat} (h1 : cells ≤ k') (h2 : slots ≤ n') (k : JN p l e R s m args below meth c nL g A k' n' Q ws pc lv st) : JN p l e R s m args below meth c nL g A cells slots Q ws pc lv st := fun H locs ls hP hD hS hl => W.widen (k := k') (n := n') h1 h2 (k H locs ls hP hD hS hl)
theorem n_iconst (C : Cn p s args m meth c cc nL own g) {n : Int} {v : Int32} (hd : decode cc pc = .ok (.iconst n, 1)) (hv : Int32.ofInt n = v) (k : JN p l e R s m args below meth c nL g A cells slots Q ws (pc + 1) lv (.int v :: st)) : JN p l e R s m args below meth c nL g A cells slots Q ws pc lv st := fun H locs ls hP hD hS hl => lv_iconst C.1 C.2.1 hd hv (k H locs ls hP hD hS hl)
theorem n_bipush (C : Cn p s args m meth c cc nL own g) {n : Int} {v : Int32} (hd : decode cc pc = .ok (.bipush n, 2)) (hv : (Int8.ofInt n).toInt32 = v) (k : JN p l e R s m args below meth c nL g A cells slots Q ws (pc + 2) lv (.int v :: st)) : JN p l e R s m args below meth c nL g A cells slots Q ws pc lv st := fun H locs ls hP hD hS hl => lv_bipush C.1 C.2.1 hd hv (k H locs ls hP hD hS hl)
theorem n_sipush (C : Cn p s args m meth c cc nL own g) {n : Int} {v : Int32} (hd : decode cc pc = .ok (.sipush n, 3)) (hv : (Int16.ofInt n).toInt32 = v) (k : JN p l e R s m args below meth c nL g A cells slots Q ws (pc + 3) lv (.int v :: st)) : JN p l e R s m args below meth c nL g A cells slots Q ws pc lv st := fun H locs ls hP hD hS hl => lv_sipush C.1 C.2.1 hd hv (k H locs ls hP hD hS hl)
theorem n_iload_n (C : Cn p s args m meth c cc nL own g) {k0 : Fin 4} {i : Nat} {x : Int32} (hd : decode cc pc = .ok (.iload_n k0, 1)) (hi : (k0 : Nat) = i) (hx : lv[i]? = some (some (.int x))) (k : JN p l e R s m args below meth c nL g A cells slots Q ws (pc + 1) lv (.int x :: st)) : JN p l e R s m args below meth c nL g A cells slots Q ws pc lv st := fun H locs ls hP hD hS hl => lv_iload_n C.1 C.2.1 hd hi (hl.at hx) (k H locs ls hP hD hS hl)
theorem n_aload_n (C : Cn p s args m meth c cc nL own g) {k0 : Fin 4} {i : Nat} {x : Nat} (hd : decode cc pc = .ok (.aload_n k0, 1)) (hi : (k0 : Nat) = i) (hx : lv[i]? = some (some (.ref x))) (k : JN p l e R s m args below meth c nL g A cells slots Q ws (pc + 1) lv (.ref x :: st)) : JN p l e R s m args below meth c nL g A cells slots Q ws pc lv st := fun H locs ls hP hD hS hl => lv_aload_n C.1 C.2.1 hd hi (hl.at hx) (k H locs ls hP hD hS hl)
theorem n_istore_n (C : Cn p s args m meth c cc nL own g) {k0 : Fin 4} {i : Nat} {x : Int32} {lv' : List (Option Value)} (hd : decode cc pc = .ok (.istore_n k0, 1)) (hi : (k0 : Nat) = i) (hn : i < nL) (hc : cOk lv i = true) (hs : lv.set i (some (.int x)) = lv') (k : JN p l e R s m args below meth c nL g A cells slots Q ws (pc + 1) lv' st) : JN p l e R s m args below meth c nL g A cells slots Q ws pc lv (.int x :: st) := fun H locs ls hP hD hS hl => lv_istore_n C.1 C.2.1 hd hi hl hn rfl (fun ls' h' => k H locs ls' hP hD hS (by rw [← hs]; exact lvO.put1 hc h'))
theorem n_astore_n (C : Cn p s args m meth c cc nL own g) {k0 : Fin 4} {i : Nat} {x : Nat} {lv' : List (Option Value)} (hd : decode cc pc = .ok (.astore_n k0, 1)) (hi : (k0 : Nat) = i) (hn : i < nL) (hc : cOk lv i = true) (hs : lv.set i (some (.ref x)) = lv') (k : JN p l e R s m args below meth c nL g A cells slots Q ws (pc + 1) lv' st) : JN p l e R s m args below meth c nL g A cells slots Q ws pc lv (.ref x :: st) := fun H locs ls hP hD hS hl => lv_astore_n C.1 C.2.1 hd hi hl hn rfl (fun ls' h' => k H locs ls' hP hD hS (by rw [← hs]; exact lvO.put1 hc h'))
theorem n_dup (C : Cn p s args m meth c cc nL own g) {x : Value} (hd : decode cc pc = .ok (.dup, 1)) (hx : x.category = 1) (k : JN p l e R s m args below meth c nL g A cells slots Q ws (pc + 1) lv (x :: x :: st)) : JN p l e R s m args below meth c nL g A cells slots Q ws pc lv (x :: st) := fun H locs ls hP hD hS hl => lv_dup C.1 C.2.1 hd hx (k H locs ls hP hD hS hl)
theorem n_icmp_ge (C : Cn p s args m meth c cc nL own g) {x y : Int32} {off : Int} {tgt : Nat} (hd : decode cc pc = .ok (.if_icmp .ge off, 3)) (ht : (pc : Int) + off = (tgt : Int)) (kt : y ≤ x → JN p l e R s m args below meth c nL g A cells slots Q ws tgt lv st) (kf : ¬ y ≤ x → JN p l e R s m args below meth c nL g A cells slots Q ws (pc + 3) lv st) : JN p l e R s m args below meth c nL g A cells slots Q ws pc lv (.int y :: .int x :: st) := fun H locs ls hP hD hS hl => lv_icmp_ge C.1 C.2.1 hd ht (fun h => kt h H locs ls hP hD hS hl) (fun h => kf h H locs ls hP hD hS hl)
theorem n_goto (C : Cn p s args m meth c cc nL own g) {off : Int} {tgt : Nat} (hd : decode cc pc = .ok (.goto off, 3)) (ht : (pc : Int) + off = (tgt : Int)) (k : JN p l e R s m args below meth c nL g A cells slots Q ws tgt lv st) : JN p l e R s m args below meth c nL g A cells slots Q ws pc lv st := fun H locs ls hP hD hS hl => lv_goto C.1 C.2.1 hd ht (k H locs ls hP hD hS hl)
theorem n_inc1 (C : Cn p s args m meth c cc nL own g) {a0 : Option Value} {t : List (Option Value)} {n : Int} {x v : Int32} (hd : decode cc pc = .ok (.iinc 1 n, 3)) (hv : x + Int32.ofInt n = v) (hn : 1 < nL) (hc : cOk (a0 :: some (.int x) :: t) 1 = true) (k : JN p l e R s m args below meth c nL g A cells slots Q ws (pc + 3) (a0 :: some (.int v) :: t) st) : JN p l e R s m args below meth c nL g A cells slots Q ws pc (a0 :: some (.int x) :: t) st := by
  intro H locs ls hP hD hS hl
  obtain ⟨k1, hk1⟩ := List.getElem?_of_mem ((en_iff (a0 :: some (.int x) :: t) 0 (1, .int x)).mpr ⟨1, by simp, by simp⟩)
  exact lv_iinc C.1 C.2.1 hd hl hk1 hv hn rfl (fun ls' h' => k H locs ls' hP hD hS (lvO.put1 (i := 1) hc h'))
theorem n_obj (C : Cn p s args m meth c cc nL own g) {i0 a : Nat} (hq : Cond.methodLink own i0 objectInit ∈ TG) (hd : decode cc pc = .ok (.invokespecial i0, 3)) (hF : 1 ≤ R.frames) (hL : (st.map fun v => v.category).sum + 12 ≤ R.locals) (k : JN p l e R s m args below meth c nL g A cells slots Q ws (pc + 3) lv st) : JN p l e R s m args below meth c nL g A cells slots Q ws pc lv (.ref a :: st) := by
  intro H locs ls hP hD hS hl
  refine W.objInit C.1 C.2.1 C.2.2.2.1 (C.2.2.2.2.1 _ hq) (C.2.2.2.2.1 _ qi_objectInit) (C.2.2.2.2.1 _ qc_objectInit) rfl (by rw [C.2.2.1]; exact hl.1) rfl hd hF (by show 2 * 0 + _ + 12 ≤ _; omega) ?_
  exact W.eq (g2 := F0 m (pc + 3) ls st) rfl (k H locs ls hP hD hS hl)
theorem n_newa (C : Cn p s args m meth c cc nL own g) (hA : ∀ q, s.heap.size ≤ q → A q) {atype : ArrayType} {i N : Nat} {cA : ClassId} {ty : FieldType} {n : Int32} {a0 : vp_A} (hq : Cond.arrayClass (newarray.typeOf atype) ∈ TG) (hty : newarray.typeOf atype = ty) (hi : (tysG g)[i]? = some (cA, ty)) (hra : ∀ c1 : ClassId, va_RA s c1 ty → va_RA s cA ty → c1 = cA) (ha : ∀ cA : ClassId, vp_cell cA a0 = arrV cA N (fun _ => defaultValue ty)) (hn : ¬ n < 0) (hN : n.toNatClampNeg = N) (hb : N * componentBytes ty ≤ 536870912) (hc : cells + 1 ≤ R.cells) (hs : slots + N ≤ R.slots) (hd : decode cc pc = .ok (.newarray atype, 2))
    (k : ∀ q : Nat, JN p l e R s m args below meth c nL g A (cells + 1) (slots + N) Q (ws ++ [(q, .inl (cA, a0))]) (pc + 2) lv (.ref q :: st)) : JN p l e R s m args below meth c nL g A cells slots Q ws pc lv (.int n :: st) := by
  intro H locs ls hP hD hS hl
  refine va_newa C.1 C.2.1 (C.2.2.2.2.1 _ hq) hty C.2.2.2.2.2.2.1 hP hD hS hA ha hn hN hb hc hs hd (fun q c1 H1 hK1 hP1 hD1 hS1 => ?_)
  have e1 : c1 = cA := hra c1 (hK1.2 (tysG g).length (c1, ty) (by simp)).2 (C.2.2.2.2.2.2.1.2 i (cA, ty) hi).2
  subst e1
  exact k q H1 locs ls hP1 hD1 hS1 hl
theorem n_newq (C : Cn p s args m meth c cc nL own g) (hA : ∀ q, s.heap.size ≤ q → A q) {K : String} {i0 i N : Nat} {cA : ClassId} {n : Int32} (hq : Cond.classLink own i0 K ∈ TG) (hK : K ∈ AOs) (hi : (tysG g)[i]? = some (cA, .object K)) (hn : ¬ n < 0) (hN : n.toNatClampNeg = N) (hb : N * 4 ≤ 536870912) (hc : cells + 1 ≤ R.cells) (hs : slots + N ≤ R.slots) (hd : decode cc pc = .ok (.anewarray i0, 3))
    (k : ∀ q : Nat, JN p l e R s m args below meth c nL g A (cells + 1) (slots + N) Q (ws ++ [(q, .inl (cA, N, .inr (.inr (.inr (.inr (fun _ => none))))))]) (pc + 3) lv (.ref q :: st)) : JN p l e R s m args below meth c nL g A cells slots Q ws pc lv (.int n :: st) := by
  intro H locs ls hP hD hS hl
  refine va_newq C.1 C.2.1 C.2.2.2.1 (C.2.2.2.2.1 _ hq) (C.2.2.2.2.2.2.2.2 K hK) C.2.2.2.2.2.2.1 hP hD hS hA hn hN hb hc hs hd (fun q c1 H1 hK1 hP1 hD1 hS1 => ?_)
  obtain ⟨_, _, -, -, -, f1⟩ := (hK1.2 (tysG g).length (c1, .object K) (by simp)).2
  obtain ⟨_, _, -, -, -, f2⟩ := (C.2.2.2.2.2.2.1.2 i (cA, .object K) hi).2
  have e1 : c1 = cA := Option.some.inj (f1.symm.trans f2)
  subst e1
  exact k q H1 locs ls hP1 hD1 hS1 hl
theorem n_new (C : Cn p s args m meth c cc nL own g) (hA : ∀ q, s.heap.size ≤ q → A q) {K : String} {T : u_T} {N ci i0 : Nat} (hin : ∀ w ∈ u_ws K T N, w ∈ TG) (ty : Nat → FieldType) (hty : ∀ k, k < N → parseFieldDescriptor (T k).2.2.1 = some (ty k)) (hq : Cond.classLink own i0 K ∈ TG) (hz : Cond.instantiable K N ∈ TG) (hini : Cond.initialized K ∈ TG) (hcl : vwCl[ci]? = some (K, T, N)) {fs : List Value} (hfs : ∀ j, j < N → defaultValue (ty j) = vp_V fs j) (hc : cells + 1 ≤ R.cells) (hs : slots + N ≤ R.slots) (hd : decode cc pc = .ok (.new i0, 3))
    (k : ∀ q : Nat, JN p l e R s m args below meth c nL g A (cells + 1) (slots + N) Q (ws ++ [(q, .inr (ci, fs))]) (pc + 3) lv (.ref q :: st)) : JN p l e R s m args below meth c nL g A cells slots Q ws pc lv st := fun H locs ls hP hD hS hl =>
  va_new C.1 C.2.1 C.2.2.2.2.1 hin ty hty C.2.2.2.1 (C.2.2.2.2.1 _ hq) (C.2.2.2.2.1 _ hz) (C.2.2.2.2.1 _ hini) C.2.2.2.2.2.2.1 hP hD hS hA hcl hfs hc hs hd (fun q H1 hP1 hD1 hS1 => k q H1 locs ls hP1 hD1 hS1 hl)
theorem n_get (C : Cn p s args m meth c cc nL own g) {K : String} {T : u_T} {N ci i0 a : Nat} (hin : ∀ w ∈ u_ws K T N, w ∈ TG) (q0 : Nat) {fs : List Value} (he : ws[q0]? = some (a, .inr (ci, fs))) (hc : vwCl[ci]? = some (K, T, N)) (k0 : Nat) (hk : k0 < N) (hq : Cond.fieldLink own i0 (T k0).1 (T k0).2.1 (T k0).2.2.1 ∈ TG) {v : Value} (hv : fs[k0]? = some v) (hd : decode cc pc = .ok (.getfield i0, 3)) (k : JN p l e R s m args below meth c nL g A cells slots Q ws (pc + 3) lv (v :: st)) : JN p l e R s m args below meth c nL g A cells slots Q ws pc lv (.ref a :: st) := fun H locs ls hP hD hS hl =>
  va_get C.1 C.2.1 C.2.2.2.2.1 hin C.2.2.2.1 C.2.2.2.2.2.2.1 hP q0 he hc k0 hk (C.2.2.2.2.1 _ hq) (fun _ h9 => h9) hv hd (k H locs ls hP hD hS hl)
theorem n_putF (C : Cn p s args m meth c cc nL own g) (hmn : meth.name = "<init>") {K : String} {T : u_T} {N ci i0 a : Nat} (hin : ∀ w ∈ u_ws K T N, w ∈ TG) (ty0 : Nat → FieldType) (hty : ∀ k, k < N → parseFieldDescriptor (T k).2.2.1 = some (ty0 k)) (hnm : ∀ a, a < N → ∀ b, b < N → a ≠ b → (T a).2.1 ≠ (T b).2.1) (q0 : Nat) {fs : List Value} (he : ws[q0]? = some (a, .inr (ci, fs))) (hc : vwCl[ci]? = some (K, T, N)) (k0 : Nat) (hk : k0 < N) (hq : Cond.fieldLink own i0 (T k0).1 (T k0).2.1 (T k0).2.2.1 ∈ TG) (hfin : (T k0).2.2.2 = true) (hdecl : (T k0).1 = own) {ty : FieldType} {v : Value} (hpd : parseFieldDescriptor (T k0).2.2.1 = some ty) (hn : narrow ty v = v) (hfit : fits ty v = true) (hl0 : k0 < fs.length) (hd : decode cc pc = .ok (.putfield i0, 3))
    (k : JN p l e R s m args below meth c nL g A cells slots Q (ws.set q0 (a, .inr (ci, fs.set k0 v))) (pc + 3) lv st) : JN p l e R s m args below meth c nL g A cells slots Q ws pc lv (v :: .ref a :: st) := fun H locs ls hP hD hS hl =>
  va_putF C.1 C.2.1 C.2.2.2.2.1 hin ty0 hty hnm C.2.2.2.1 C.2.2.2.2.2.2.1 hP hD hS q0 he hc k0 hk (C.2.2.2.2.1 _ hq) (fun _ h9 => h9) hfin hmn hdecl hpd hn hfit hl0 hd (fun H1 locs1 hP1 hD1 hS1 => k H1 locs1 ls hP1 hD1 hS1 hl)
theorem n_alen (C : Cn p s args m meth c cc nL own g) (q0 t0 : Nat) {cA : ClassId} {a : Nat} {x : vp_A} (ha : ws[q0]? = some (a, .inl (cA, x))) {ty : FieldType} (ht : (tysG g)[t0]? = some (cA, ty)) {v : Int32} (hv : Int32.ofNat x.1 = v) (hd : decode cc pc = .ok (.arraylength, 1)) (k : JN p l e R s m args below meth c nL g A cells slots Q ws (pc + 1) lv (.int v :: st)) : JN p l e R s m args below meth c nL g A cells slots Q ws pc lv (.ref a :: st) := fun H locs ls hP hD hS hl =>
  va_alen C.1 C.2.1 C.2.2.2.2.2.2.1 hP q0 t0 ha ht hv hd (k H locs ls hP hD hS hl)
theorem n_aast (C : Cn p s args m meth c cc nL own g) (q0 t0 qk ci : Nat) {cA : ClassId} {r : vw_C} {a n v i0 : Nat} {vs : List Value} {f : Nat → Option Nat} (ha : ws[q0]? = some (a, .inl (cA, n, .inr (.inr (.inr (.inr f)))))) (ht : (tysG g)[t0]? = some (cA, .object r.1)) (hv : ws[qk]? = some (v, .inr (ci, vs))) (hc : vwCl[ci]? = some r) (hin : i0 < n) (h31 : n < 2 ^ 31) (hd : decode cc pc = .ok (.aastore, 1))
    (k : JN p l e R s m args below meth c nL g A cells slots Q (ws.set q0 (a, .inl (cA, n, .inr (.inr (.inr (.inr (va_up f i0 (some v)))))))) (pc + 1) lv st) : JN p l e R s m args below meth c nL g A cells slots Q ws pc lv (.ref v :: .int (nI i0) :: .ref a :: st) := fun H locs ls hP hD hS hl => by
  refine va_astq C.1 C.2.1 C.2.2.2.2.2.2.1 hP hD hS q0 t0 qk ci ha ht hv hc (vp_in_nI hin h31) hd (fun H1 locs1 hP1 hD1 hS1 => ?_)
  rw [nI_clamp (show i0 < 2 ^ 31 by omega)] at hP1 hD1
  exact k H1 locs1 ls hP1 hD1 hS1 hl
theorem n_vret (C : Cn p s args m meth c cc nL own g) (hr : meth.sig.returnType = none) {W1 : Nat → (Nat → Nat) → va_W} {h0 : Nat} (F : Nat → Nat) (hw : ws = W1 h0 F) (hd : decode cc pc = .ok (.return_, 1)) : JN p l e R s m args below meth c nL g A cells slots (MQ below (QB g W1 h0 A) args s cells slots A) ws pc lv [] := by
  intro H locs ls hP hD hS hl
  subst hw
  exact W.vret C.1 C.2.1 hr (fun t ht hW => ⟨⟨rfl, F, by rw [ht]; exact hP, hD⟩, hS.F ht⟩) hS.2.2 hd C.2.2.2.2.2.1
theorem BC.blind {h0 sz : Nat} {e0 : va_E} : FrameBlind (va_Pc [.ref h0] (fun U => U.heap.size = sz ∧ va_P (gD g) vwCl [(h0, e0)] U.heap ∧ CXB g U)) := fun a U f mk h => ⟨h.1, h.2.1, h.2.2.1, h.2.2.2.calling f mk a⟩
theorem n_back {st0 : List Value} {q mc ms : Nat} {e0 : va_E} {W1 : Nat → (Nat → Nat) → va_W} (hA : ∀ q, s.heap.size ≤ q → A q)
    (hr : ∀ (H : Heap) (locs : List Loc) (ls : Array Slot), va_P (gD g) vwCl [(q, e0)] H → lvO ls nL lv → va_Run p l e R s m args below meth c H locs cells slots mc ms (F0 m pc ls st0) st (QB g W1 q (va_A [(q, e0)] H.size) #[.ref q]) (va_A [(q, e0)] H.size)) (k : ∀ F : Nat → Nat, JN p l e R s m args below meth c nL g A (cells + mc) (slots + ms) Q (ws ++ W1 q F) (pc + 3) lv st) : JN p l e R s m args below meth c nL g A cells slots Q (ws ++ [(q, e0)]) pc lv st0 := by
  intro H locs ls hP hD hS hl T hT X
  have hPc : va_P (gD g) vwCl [(q, e0)] H := fun k x hx => by
    have h1 := (List.getElem?_eq_some_iff.mp hx).1
    simp at h1
    subst h1
    simp at hx
    subst hx
    exact hP ws.length _ last_at
  have hF : ∀ x, va_A [(q, e0)] H.size x → A x := by
    rintro x (⟨k2, e2, h2⟩ | h2)
    · have h3 := (List.getElem?_eq_some_iff.mp h2).1
      simp at h3
      subst h3
      simp at h2
      rw [← h2.1]
      exact hD.2 ws.length _ last_at
    · exact hA x (Nat.le_trans hS.1 h2)
  obtain ⟨v1, st₀, t, T', Lc, h0, X', hL, e1, e2, ⟨⟨hv, F, hB, hD1⟩, hz, hk⟩, stp⟩ := hr H locs ls hPc hl T hT X
  cases hv
  rw [h0] at hz hk
  rw [← e1] at hB hk hz
  have jn := join_last hP hD hF hk hB hD1
  obtain ⟨t2, a1, b1⟩ := k F T'.heap (locs ++ Lc) ls jn.1 jn.2 ⟨Nat.le_trans hS.1 hz, fun x h1 h2 => by rw [hk x (Nat.lt_of_lt_of_le h1 hS.1) (fun z => h2 (hF x z))]; exact hS.2.1 x h1 h2, fun x hx => (List.mem_append.mp hx).elim (hS.2.2 x) (fun z => hF _ (hL x z))⟩ hl T' rfl X'
  exact ⟨t2, stp t2 a1, b1⟩
theorem n_callI (C : Cn p s args m meth c cc nL own g) (hA : ∀ q, s.heap.size ≤ q → A q) {y : MethodName} {b : ByteArray} {n d' mc ms i0 q : Nat} {e0 : va_E} {W1 : Nat → (Nat → Nat) → va_W} (hM : BC l y b n d' mc ms g e0 W1) (hl : Cond.methodLink own i0 y ∈ TG) (hi : Cond.initialized y.cls ∈ TG) (him : Cond.instanceMethod y ∈ TG) (hc : Cond.code y b n none ∈ TG)
    (hy : y.name = "<init>") (hy2 : y.cls ≠ "java/lang/invoke/MethodHandle" ∧ y.cls ≠ "java/lang/invoke/VarHandle" ∧ (parseMethodDescriptor y.desc).map (fun d => d.parameters.length) = some 0) (hd : d' + 1 ≤ R.frames ∧ 8 + (n + 11) + 30 * d' ≤ R.locals ∧ cells + mc ≤ R.cells ∧ slots + ms ≤ R.slots) (hW : (st.map fun v => v.category).sum ≤ 8) (hdg : decode cc pc = .ok (.invokespecial i0, 3))
    (k : ∀ F : Nat → Nat, JN p l e R s m args below meth c nL g A (cells + mc) (slots + ms) Q (ws ++ W1 q F) (pc + 3) lv st) : JN p l e R s m args below meth c nL g A cells slots Q (ws ++ [(q, e0)]) pc lv (.ref q :: st) :=
  n_back hA (fun H locs ls hPc hlv => va_runI (As := []) (rest := st) ⟨C.1, C.2.1, C.2.2.1, C.2.2.2.1, C.2.2.2.2.1⟩ (hM q H.size) (cwI 0 C.2.2.2.2.1 (TG_sub (TG_ws hc)) rfl rfl rfl (C.2.2.2.2.1 _ hi) (C.2.2.2.2.1 _ hl) (C.2.2.2.2.1 _ him) hy hy2 ⟨hd.1, hd.2.1⟩) ⟨BC.blind, fun U hU hW => ⟨rfl, by rw [hU], by rw [hU]; exact hPc, C.2.2.2.2.2.2.warm hW⟩⟩ rfl rfl hlv.1 rfl (lv_room hW) hdg ⟨hd.2.2.1, hd.2.2.2⟩) k
theorem n_callN (C : Cn p s args m meth c cc nL own g) (hA : ∀ q, s.heap.size ≤ q → A q) {y : MethodName} {b : ByteArray} {n d' mc ms i0 q : Nat} {e0 : va_E} {W1 : Nat → (Nat → Nat) → va_W} (hM : BC l y b n d' mc ms g e0 W1) (hl : Cond.methodLinkNest own i0 y RX6 ∈ NWs) (hi : Cond.initialized y.cls ∈ TG) (him : Cond.instanceMethod y ∈ TG) (hc : Cond.code y b n none ∈ TG)
    (hy : y.name = "<init>") (hy2 : y.cls ≠ "java/lang/invoke/MethodHandle" ∧ y.cls ≠ "java/lang/invoke/VarHandle" ∧ (parseMethodDescriptor y.desc).map (fun d => d.parameters.length) = some 0) (hd : d' + 1 ≤ R.frames ∧ 8 + (n + 11) + 30 * d' ≤ R.locals ∧ cells + mc ≤ R.cells ∧ slots + ms ≤ R.slots) (hW : (st.map fun v => v.category).sum ≤ 8) (hdg : decode cc pc = .ok (.invokespecial i0, 3))
    (k : ∀ F : Nat → Nat, JN p l e R s m args below meth c nL g A (cells + mc) (slots + ms) Q (ws ++ W1 q F) (pc + 3) lv st) : JN p l e R s m args below meth c nL g A cells slots Q (ws ++ [(q, e0)]) pc lv (.ref q :: st) :=
  n_back hA (fun H locs ls hPc hlv => va_runIN (As := []) (rest := st) ⟨C.1, C.2.1, C.2.2.1, C.2.2.2.1, C.2.2.2.2.1⟩ (hM q H.size) ⟨va_cnB 0 C.2.2.2.2.1 (TG_sub (TG_ws hc)) rfl rfl rfl (C.2.2.2.2.2.2.2.1.1 _ hl) (C.2.2.2.2.1 _ hi) hy2 ⟨hd.1, hd.2.1⟩, hy, C.2.2.2.2.1 _ him⟩ ⟨BC.blind, fun U hU hW => ⟨rfl, by rw [hU], by rw [hU]; exact hPc, C.2.2.2.2.2.2.warm hW⟩⟩ rfl rfl hlv.1 rfl (lv_room hW) hdg ⟨hd.2.2.1, hd.2.2.2⟩) k
end BIRTH
