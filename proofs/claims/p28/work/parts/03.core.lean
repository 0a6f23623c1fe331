/-! CORE. Both sides' cells as one memory of ints (roles 0..227), and a judgement J over it. -/
abbrev Mem : Type := Nat → Nat → Int32
abbrev LMem : Type := Nat → Int64
def mset (V : Mem) (k i : Nat) (x : Int32) : Mem := fun a b => if a = k ∧ b = i then x else V a b
def lset (L : LMem) (i : Nat) (x : Int64) : LMem := fun a => if a = i then x else L a
theorem mset_row {V : Mem} {k i j : Nat} {x : Int32} (h : j ≠ k) : mset V k i x j = V j := by
  funext b
  simp [mset, h]
theorem mset_at (V : Mem) (k i : Nat) (x : Int32) : mset V k i x k i = x := by simp [mset]
theorem mset_ne {V : Mem} {k i a b : Nat} {x : Int32} (h : ¬ (a = k ∧ b = i)) : mset V k i x a b = V a b := by simp only [mset, if_neg h]
theorem mset_upd (V : Mem) (k i : Nat) (x : Int32) : mset V k i x k = upd (V k) i x := by
  funext b
  simp [mset, upd]
/-- a role's kind -/
def kd (k : Nat) : Nat := if k < 217 then (if k % 31 = 0 then 0 else if k % 31 = 1 then 1 else if k % 31 = 2 then 2 else if k % 31 < 11 then 3 else if k % 31 < 19 then 4 else 5) else k - 211
/-- the global context: class ids, slots, the roles' addresses, the array classes, the heap at the law's entry -/
abbrev GC : Type := (Nat → ClassId) × (Nat → Nat → Nat) × (Nat → Nat) × (Nat → ClassId) × Heap × (Nat × Nat × (Nat → Int32))
abbrev gD (g : GC) : va_G := (g.1, g.2.1)
abbrev ad (g : GC) : Nat → Nat := g.2.2.1
abbrev ca (g : GC) : Nat → ClassId := g.2.2.2.1
abbrev gH (g : GC) : Heap := g.2.2.2.2.1
abbrev gB (g : GC) : Nat := g.2.2.2.2.2.1
abbrev gL (g : GC) : Nat := g.2.2.2.2.2.2.1
abbrev gX (g : GC) : Nat → Int32 := g.2.2.2.2.2.2.2
def AA (g : GC) : Nat → Prop := fun q => (gH g).size ≤ q
def tysG (g : GC) : List (ClassId × FieldType) := [(ca g 0, .int), (ca g 1, .char), (ca g 2, .object RX2), (ca g 3, .object RX5), (ca g 4, .object RX4)]
def rfs (f : Nat → Nat) : (Nat → Int32) ⊕ (Nat → Int64) ⊕ (Nat → UInt32) ⊕ (Nat → UInt64) ⊕ (Nat → Option Nat) := .inr (.inr (.inr (.inr (fun i => some (f i)))))
def cellK (g : GC) (V : Mem) (L : LMem) (k : Nat) : Nat → va_E
  | 0 => .inr (4, [.ref (ad g (k + 1)), .ref (ad g (k + 2)), .int (V k 2), .int (V k 3), .int (V k 4)])
  | 1 => .inl (ca g 2, 8, rfs (fun i => ad g (k + 2 + i)))
  | 2 => .inl (ca g 3, 12, rfs (fun i => ad g (k + 17 + i)))
  | 3 => .inr (2, [.int (V k 0), .int (V k 1), .int (V k 2), .int (V k 3), .int (V k 4), .ref (ad g (k + 8))])
  | 4 => .inl (ca g 0, 17, .inl (V k))
  | 5 => .inr (5, [.int (V k 0), .int (V k 1), .int (V k 2), .int (V k 3), .int (V k 4), .int (V k 5)])
  | 6 => .inr (0, [.ref (ad g 218), .int (V k 1), .int (V k 2)])
  | 7 => .inl (ca g 4, 6, rfs (fun i => ad g (31 * (i + 1))))
  | 8 => .inr (1, [.ref (ad g 220), .int (V k 1)])
  | 9 => .inl (ca g 1, 60, .inl (V k))
  | 10 => .inr (3, [.ref (ad g 222), .int (V k 1), .int (V k 2)])
  | 11 => .inl (ca g 0, 4, .inl (V k))
  | 12 => .inr (6, [.ref (ad g 0), .ref (ad g 217), .ref (ad g 219), .ref (ad g 221)])
  | 13 => .inl (ca g 0, 35, .inl (V k))
  | 14 => .inl (ca g 0, 24, .inl (V k))
  | 15 => .inl (ca g 0, 48, .inl (V k))
  | _ => .inl (ca g 0, 24, .inl (V k))
def cellOf (g : GC) (V : Mem) (L : LMem) (k : Nat) : va_E := cellK g V L k (kd k)
def TW (g : GC) (V : Mem) (L : LMem) : va_W := (List.range 228).map (fun k => (ad g k, cellOf g V L k))
theorem TW_at {g : GC} {V : Mem} {L : LMem} {k : Nat} (h : k < 228) : (TW g V L)[k]? = some (ad g k, cellOf g V L k) := by
  unfold TW
  rw [List.getElem?_map, List.getElem?_range h]
  rfl
theorem TW_k {g : GC} {V : Mem} {L : LMem} {k : Nat} {q : Nat × va_E} (h : (TW g V L)[k]? = some q) : k < 228 ∧ q = (ad g k, cellOf g V L k) := by
  have hl : k < 228 := by
    have h1 := (List.getElem?_eq_some_iff.mp h).1
    simpa [TW] using h1
  rw [TW_at hl] at h
  exact ⟨hl, (Option.some.inj h).symm⟩
theorem TW_set {g : GC} {V V' : Mem} {L L' : LMem} {k : Nat} {e : va_E} (hk : k < 228) (he : cellOf g V' L' k = e) (ho : ∀ j, j < 228 → j ≠ k → cellOf g V' L' j = cellOf g V L j) : (TW g V L).set k (ad g k, e) = TW g V' L' := by
  apply List.ext_getElem?
  intro j
  by_cases hj : j = k
  · subst hj
    rw [List.getElem?_set_self (by simpa [TW] using hk), TW_at hk, he]
  · rw [List.getElem?_set_ne (Ne.symm hj)]
    by_cases hl : j < 228
    · rw [TW_at hl, TW_at hl, ho j hl hj]
    · rw [List.getElem?_eq_none (by simp [TW]; omega), List.getElem?_eq_none (by simp [TW]; omega)]
theorem cellK_row {g : GC} {V V' : Mem} {L : LMem} {k : Nat} (h : V' k = V k) (c : Nat) : cellK g V' L k c = cellK g V L k c := by
  unfold cellK
  rw [h]
theorem cellOf_row {g : GC} {V : Mem} {L : LMem} {k i j : Nat} {x : Int32} (h : j ≠ k) : cellOf g (mset V k i x) L j = cellOf g V L j := cellK_row (mset_row h) _
theorem kd_lt {k c : Nat} (h : kd k = c) (hc : c < 17) : k < 228 := by
  unfold kd at h
  split at h <;> omega
/-- addresses are apart and new -/
def DJ (g : GC) : Prop := (∀ i j, i < 228 → j < 228 → ad g i = ad g j → i = j) ∧ ∀ k, k < 228 → AA g (ad g k)
theorem DJ.d {g : GC} (h : DJ g) (V : Mem) (L : LMem) : va_D (AA g) (TW g V L) := by
  refine ⟨fun i j p q hi hj hpq => ?_, fun k q hk => ?_⟩
  · obtain ⟨a1, rfl⟩ := TW_k hi
    obtain ⟨a2, rfl⟩ := TW_k hj
    exact h.1 i j a1 a2 hpq
  · obtain ⟨a1, rfl⟩ := TW_k hk
    exact h.2 k a1
/-! what the tables and old cells say, carried -/
def NWs : List Cond := [.methodLinkNest RX4 23 yX2_init RX6, .methodLinkNest RX4 24 yX5_init RX6, .methodLinkNest RX6 25 yX1_init RX6, .methodLinkNest RX6 32 yX3_init RX6, .methodLinkNest RX2 25 yX6_presentWorth RX6, .methodLinkNest RX5 30 yX6_presentWorth RX6, .methodLinkNest RX2 58 yX6_thousandthsOf RX6]
def XT (U : State) : Prop := (∀ w ∈ NWs, va_Nw w U) ∧ True
/-- the law's script, an old cell -/
def XH (g : GC) (U : State) : Prop := va_X (gB g) (gL g) (gX g) U (gH g) ∧ gB g < (gH g).size
theorem XT.warm {s U : State} (hW : s.WarmedH U.vm) (h : XT s) : XT U := by
  refine ⟨fun w hw => ?_, trivial⟩
  have h0 := h.1 w hw
  simp only [NWs, List.mem_cons, List.not_mem_nil, or_false] at hw
  rcases hw with rfl | rfl | rfl | rfl | rfl | rfl | rfl <;> exact va_Nw.warmM hW h0
theorem XT.same {s U : State} (hv : s.vm = U.vm) (h : XT s) : XT U := by
  refine ⟨fun w hw => ?_, trivial⟩
  have h0 := h.1 w hw
  simp only [NWs, List.mem_cons, List.not_mem_nil, or_false] at hw
  rcases hw with rfl | rfl | rfl | rfl | rfl | rfl | rfl <;> exact va_Nw.same rfl hv h0
theorem XH.moved {g : GC} {s U : State} (hv : s.vm.Alike U.vm) (h : XH g s) : XH g U := ⟨va_X.moved hv h.1, h.2⟩
/-- the old cells are as they were at the law's entry -/
def OldH (g : GC) (H : Heap) : Prop := (gH g).size ≤ H.size ∧ ∀ q : Nat, q < (gH g).size → H[q]? = (gH g)[q]?
def CW (g : GC) (U : State) : Prop := va_K (gD g) vwCl (tysG g) U ∧ DJ g ∧ OldH g U.heap ∧ XT U ∧ XH g U
def PW (g : GC) (V : Mem) (L : LMem) (U : State) : Prop := va_P (gD g) vwCl (TW g V L) U.heap
def AtW (g : GC) (V : Mem) (L : LMem) (U : State) : Prop := PW g V L U ∧ CW g U
theorem OldH.step {g : GC} {H0 H : Heap} {locs : List Loc} (h : OldH g H0) (hS : va_S (AA g) H0 H locs) : OldH g H := by
  refine ⟨Nat.le_trans h.1 hS.1, fun q hq => ?_⟩
  rw [hS.2.1 q (Nat.lt_of_lt_of_le hq h.1) (Nat.not_le.mpr hq)]
  exact h.2 q hq
theorem CW.warm {g : GC} {s U : State} {H : Heap} {locs : List Loc} (h : CW g s) (hU : U.heap = H) (hW : s.WarmedH U.vm) (hS : va_S (AA g) s.heap H locs) : CW g U :=
  ⟨va_K.moved hW.alike h.1, h.2.1, by rw [hU]; exact h.2.2.1.step hS, h.2.2.2.1.warm hW, h.2.2.2.2.moved hW.alike⟩
theorem CW.calling {g : GC} {U : State} (f : JFrame) (mk : MethodId) (a : Array Value) (h : CW g U) : CW g (U.calling f mk a) :=
  ⟨va_K.moved (u := U) (U := U.calling f mk a) (Vm.Alike.refl U.vm) h.1, h.2.1, h.2.2.1, XT.same (s := U) (U := U.calling f mk a) rfl h.2.2.2.1, XH.moved (s := U) (U := U.calling f mk a) (Vm.Alike.refl U.vm) h.2.2.2.2⟩
theorem AtW.blind {g : GC} {V : Mem} {L : LMem} {As : List Value} : FrameBlind (va_Pc As (AtW g V L)) := fun a U f mk h => ⟨h.1, h.2.1, h.2.2.calling f mk a⟩
/-! words -/
def TG : List Cond := lw_tbl.filter goodWord
theorem TG_in {w : Cond} (h : w ∈ lw_tbl) (hg : goodWord w = true) : w ∈ TG := List.mem_filter.mpr ⟨h, hg⟩
theorem TG_ix {w : Cond} (i : Nat) (h : lw_tbl[i]? = some w) (hg : goodWord w = true) : w ∈ TG := TG_in (List.mem_of_getElem? h) hg
theorem TG_sub {ws : List Cond} (h : ∀ w ∈ ws, w ∈ TG) : GoodIn TG ws := fun w hw => ⟨h w hw, good_of_word (List.mem_filter.mp (h w hw)).2⟩
abbrev WS (y : MethodName) (b : ByteArray) (n : Nat) (ret : Option FieldType) : List Cond := Cond.code y b n ret :: TG
theorem TG_ws {y : MethodName} {b : ByteArray} {n : Nat} {ret : Option FieldType} (h : Cond.code y b n ret ∈ TG) : ∀ w ∈ WS y b n ret, w ∈ TG := fun w hw => (List.mem_cons.mp hw).elim (fun e => by rw [e]; exact h) id
theorem TG_c {w : Cond} {ws : List Cond} (h : w ∈ TG) (hs : ∀ w ∈ ws, w ∈ TG) : ∀ x ∈ w :: ws, x ∈ TG := fun x hx => (List.mem_cons.mp hx).elim (fun e => by rw [e]; exact h) (hs x)
/-! locals: a list, by place; none where nothing is known -/
def en : Nat → List (Option Value) → List (Nat × Value)
  | _, [] => []
  | i, none :: t => en (i + 1) t
  | i, some v :: t => (i, v) :: en (i + 1) t
theorem en_iff : ∀ (lv : List (Option Value)) (i : Nat) (q : Nat × Value), q ∈ en i lv ↔ ∃ k, q.1 = i + k ∧ lv[k]? = some (some q.2)
  | [], i, q => by simp [en]
  | none :: t, i, q => by
    rw [en, en_iff t (i + 1) q]
    constructor
    · rintro ⟨k, h1, h2⟩
      exact ⟨k + 1, by omega, by simpa using h2⟩
    · rintro ⟨k, h1, h2⟩
      cases k with
      | zero => simp at h2
      | succ k => exact ⟨k, by omega, by simpa using h2⟩
  | some v :: t, i, q => by
    rw [en, List.mem_cons, en_iff t (i + 1) q]
    constructor
    · rintro (rfl | ⟨k, h1, h2⟩)
      · exact ⟨0, by simp, by simp⟩
      · exact ⟨k + 1, by omega, by simpa using h2⟩
    · rintro ⟨k, h1, h2⟩
      cases k with
      | zero =>
        left
        obtain ⟨a, b⟩ := q
        simp at h1 h2
        rw [h1, h2]
      | succ k => exact Or.inr ⟨k, by omega, by simpa using h2⟩
def lvO (ls : Array Slot) (nL : Nat) (lv : List (Option Value)) : Prop := lv_has ls nL (en 0 lv)
theorem lvO.at {ls : Array Slot} {nL : Nat} {lv : List (Option Value)} (h : lvO ls nL lv) {i : Nat} {v : Value} (hi : lv[i]? = some (some v)) : ls[i]? = some (.val v) := h.2.2 (i, v) ((en_iff lv 0 (i, v)).mpr ⟨i, by simp, hi⟩)
theorem lvO.le {ls : Array Slot} {nL : Nat} {lv lv' : List (Option Value)} (h : lvO ls nL lv) (hle : ∀ (i : Nat) (v : Value), lv'[i]? = some (some v) → lv[i]? = some (some v)) : lvO ls nL lv' := by
  refine ⟨h.1, h.2.1, fun q hq => ?_⟩
  obtain ⟨k, h1, h2⟩ := (en_iff lv' 0 q).mp hq
  have h3 := h.at (hle k q.2 h2)
  rw [h1, Nat.zero_add]
  exact h3
/-- the place ahead of i holds no long or double -/
def cOk : List (Option Value) → Nat → Bool
  | _, 0 => true
  | some v :: _, 1 => v.category != 2
  | none :: _, 1 => true
  | [], _ + 1 => true
  | _ :: t, i + 2 => cOk t (i + 1)
theorem cOk_at : ∀ (lv : List (Option Value)) (j : Nat) (w : Value), cOk lv (j + 1) = true → lv[j]? = some (some w) → ¬ w.category = 2
  | [], j, w, _, h => by simp at h
  | a :: t, 0, w, hc, h => by
    simp at h
    subst h
    simpa [cOk] using hc
  | a :: t, j + 1, w, hc, h => cOk_at t j w (by simpa [cOk] using hc) (by simpa using h)
theorem lvO.put1 {ls : Array Slot} {nL : Nat} {lv : List (Option Value)} {i : Nat} {v : Value} (hc : cOk lv i = true) (h : lv_has ls nL ((i, v) :: (en 0 lv).filter (fun q => !(q.1 == i) && !(q.1 + 1 == i && q.2.category == 2)))) : lvO ls nL (lv.set i (some v)) := by
  refine ⟨h.1, h.2.1, fun q hq => ?_⟩
  obtain ⟨k, h1, h2⟩ := (en_iff _ 0 q).mp hq
  obtain ⟨a, b⟩ := q
  simp only [Nat.zero_add] at h1
  subst h1
  refine h.2.2 (a, b) ?_
  by_cases hk : a = i
  · subst hk
    have hl : a < lv.length := by
      have := (List.getElem?_eq_some_iff.mp h2).1
      simpa using this
    rw [List.getElem?_set_self hl] at h2
    cases h2
    exact List.mem_cons_self
  · rw [List.getElem?_set_ne (Ne.symm hk)] at h2
    refine List.mem_cons_of_mem _ (List.mem_filter.mpr ⟨(en_iff lv 0 (a, b)).mpr ⟨a, by simp, h2⟩, ?_⟩)
    simp only [Bool.and_eq_true, Bool.not_eq_true', beq_eq_false_iff_ne, Bool.and_eq_false_iff]
    refine ⟨hk, ?_⟩
    by_cases hk2 : a + 1 = i
    · right
      subst hk2
      exact cOk_at lv a b hc h2
    · exact Or.inl hk2
theorem lvO.put2 {ls : Array Slot} {nL : Nat} {lv : List (Option Value)} {i : Nat} {v : Value} (hc : cOk lv i = true) (h : lv_has ls nL ((i, v) :: (en 0 lv).filter (fun q => !(q.1 == i) && (!(q.1 == i + 1) && !(q.1 + 1 == i && q.2.category == 2))))) : lvO ls nL ((lv.set (i + 1) none).set i (some v)) := by
  refine ⟨h.1, h.2.1, fun q hq => ?_⟩
  obtain ⟨k, h1, h2⟩ := (en_iff _ 0 q).mp hq
  obtain ⟨a, b⟩ := q
  simp only [Nat.zero_add] at h1
  subst h1
  refine h.2.2 (a, b) ?_
  by_cases hk : a = i
  · subst hk
    have hl : a < (lv.set (a + 1) none).length := by
      have := (List.getElem?_eq_some_iff.mp h2).1
      simpa using this
    rw [List.getElem?_set_self hl] at h2
    cases h2
    exact List.mem_cons_self
  · rw [List.getElem?_set_ne (Ne.symm hk)] at h2
    by_cases hk1 : a = i + 1
    · subst hk1
      by_cases hl : i + 1 < lv.length
      · rw [List.getElem?_set_self hl] at h2
        cases h2
      · rw [List.getElem?_eq_none (by simp; omega)] at h2
        cases h2
    · rw [List.getElem?_set_ne (Ne.symm hk1)] at h2
      refine List.mem_cons_of_mem _ (List.mem_filter.mpr ⟨(en_iff lv 0 (a, b)).mpr ⟨a, by simp, h2⟩, ?_⟩)
      simp only [Bool.and_eq_true, Bool.not_eq_true', beq_eq_false_iff_ne, Bool.and_eq_false_iff]
      refine ⟨hk, hk1, ?_⟩
      by_cases hk2 : a + 1 = i
      · right
        subst hk2
        exact cOk_at lv a b hc h2
      · exact Or.inl hk2
/-! the judgement -/
def HW (g : GC) (s : State) (V : Mem) (L : LMem) (H : Heap) (locs : List Loc) : Prop := va_P (gD g) vwCl (TW g V L) H ∧ va_S (AA g) s.heap H locs
def J (p : Program) (l : Launch) (e : Env) (R : Room) (s : State) (m : MethodId) (args : Array Value) (below : List Frame) (meth : Method) (c : Code) (nL : Nat) (g : GC) (cells slots : Nat) (Q : State → Prop) (V : Mem) (L : LMem) (pc : Nat) (lv : List (Option Value)) (st : List Value) : Prop :=
  ∀ (H : Heap) (locs : List Loc) (ls : Array Slot), HW g s V L H locs → lvO ls nL lv → W p l e R s m args below meth c H locs cells slots Q (F0 m pc ls st)
def Cx (p : Program) (s : State) (args : Array Value) (m : MethodId) (meth : Method) (c : Code) (cc : ByteArray) (nL : Nat) (own : String) (ret : Option FieldType) (g : GC) : Prop :=
  p.tables.exec = Jvm.exec ∧ c.code = cc ∧ c.maxLocals = nL ∧ s.vm.findClass own = some m.cls ∧ (∀ w ∈ TG, w.before args s = true) ∧ meth.locks = false ∧ meth.sig.returnType = ret ∧ CW g s
abbrev RM (d : Nat) : Room := { frames := d, cells := 0, slots := 0, locals := 30 * d }
/-- a method's end: it answers v, the world is B, old cells stay -/
def QG (v : Option Value) (B : State → Prop) (A : Nat → Prop) : Array Value → State → Outcome → State → Prop := fun _ st oc t => (oc = .returned v ∧ B t) ∧ va_F A st t
/-- a method's contract -/
def MC (l : Launch) (y : MethodName) (b : ByteArray) (n : Nat) (ret : Option FieldType) (d : Nat) (g : GC) (V : Mem) (L : LMem) (As : List Value) (v : Option Value) (V' : Mem) (L' : LMem) : Prop :=
  Met l y (WS y b n ret) (RM d) (va_Pc As (AtW g V L)) (QG v (PW g V' L') (AA g)) 0 0 (AA g)
theorem MC.of {l : Launch} {y : MethodName} {b : ByteArray} {n : Nat} {ret : Option FieldType} {d : Nat} {g : GC} {V : Mem} {L : LMem} {As : List Value} {v : Option Value} {V' : Mem} {L' : LMem} (lv0 : List (Option Value)) (hy : plainName y.cls = true) (h0 : en 0 lv0 = lv_args 0 As) (hn : (lg_sl As).length ≤ n)
    (body : ∀ (p : Program) (e : Env) (s : State) (m : MethodId) (args : Array Value) (below : List Frame) (meth : Method) (c : Code), Cx p s args m meth c b n y.cls ret g → J p l e (RM d) s m args below meth c n g 0 0 (MQ below (QG v (PW g V' L') (AA g)) args s 0 0 (AA g)) V L 0 lv0 []) : MC l y b n ret d g V L As v V' L' := by
  refine Met.ofW (cc := b) (maxL := n) (ret := ret) hy rfl ?_
  intro p e s m args below meth c s₁ B hml hv
  obtain ⟨rfl, hP, hC⟩ := hv
  have hts0 := atoms_spec (ws := WS y b n ret) B.pre
  have hl := lv_entry As (n := n) hn
  rw [lg_entry_eq]
  refine body p e s m As.toArray below meth c ⟨B.exec, B.bytes, hml, findClass_of_methodNamed B.named, fun w hw => hts0 w (List.mem_cons_of_mem _ hw), B.notSynchronized, B.returns, hC⟩ s.heap [] _ ⟨hP, va_S.rf⟩ ?_
  show lv_has _ n (en 0 lv0)
  rw [h0]
  exact hl
section CORE
variable {p : Program} {l : Launch} {e : Env} {R : Room} {s : State} {m : MethodId} {args : Array Value} {below : List Frame} {meth : Method} {c : Code} {nL : Nat} {g : GC} {cells slots : Nat} {Q : State → Prop} {V : Mem} {L : LMem} {pc : Nat} {lv : List (Option Value)} {st : List Value} {cc : ByteArray} {own : String} {ret : Option FieldType}
theorem j_le {lv' : List (Option Value)} (hle : ∀ (i : Nat) (v : Value), lv'[i]? = some (some v) → lv[i]? = some (some v)) (k : J p l e R s m args below meth c nL g cells slots Q V L pc lv' st) : J p l e R s m args below meth c nL g cells slots Q V L pc lv st := fun H locs ls hw hl => k H locs ls hw (hl.le hle)
/-- the same memory, otherwise written -/
theorem j_mem {V' : Mem} {L' : LMem} (hV : V' = V) (hL : L' = L) (k : J p l e R s m args below meth c nL g cells slots Q V' L' pc lv st) : J p l e R s m args below meth c nL g cells slots Q V L pc lv st := by subst hV; subst hL; exact k
theorem j_iret (C : Cx p s args m meth c cc nL own (some .int) g) {v : Option Value} {V' : Mem} {L' : LMem} {x : Int32} (hd : decode cc pc = .ok (.ireturn, 1)) (hv : v = some (.int x)) (hV : V = V') (hL : L = L') : J p l e R s m args below meth c nL g cells slots (MQ below (QG v (PW g V' L') (AA g)) args s cells slots (AA g)) V L pc lv [.int x] := by
  intro H locs ls hw hl
  subst hv; subst hV; subst hL
  exact W.iret C.1 C.2.1 C.2.2.2.2.2.2.1 (fun t ht hW => ⟨⟨rfl, by show va_P _ _ _ t.heap; rw [ht]; exact hw.1⟩, hw.2.F ht⟩) hw.2.2.2 hd C.2.2.2.2.2.1
theorem j_zret (C : Cx p s args m meth c cc nL own (some .boolean) g) {v : Option Value} {V' : Mem} {L' : LMem} {x : Int32} (hd : decode cc pc = .ok (.ireturn, 1)) (hx : narrow .boolean (.int x) = .int x) (hv : v = some (.int x)) (hV : V = V') (hL : L = L') : J p l e R s m args below meth c nL g cells slots (MQ below (QG v (PW g V' L') (AA g)) args s cells slots (AA g)) V L pc lv [.int x] := by
  intro H locs ls hw hl
  subst hv; subst hV; subst hL
  exact W.zret C.1 C.2.1 C.2.2.2.2.2.2.1 hx (fun t ht hW => ⟨⟨rfl, by show va_P _ _ _ t.heap; rw [ht]; exact hw.1⟩, hw.2.F ht⟩) hw.2.2.2 hd C.2.2.2.2.2.1
theorem j_lret (C : Cx p s args m meth c cc nL own (some .long) g) {v : Option Value} {V' : Mem} {L' : LMem} {x : Int64} (hd : decode cc pc = .ok (.lreturn, 1)) (hv : v = some (.long x)) (hV : V = V') (hL : L = L') : J p l e R s m args below meth c nL g cells slots (MQ below (QG v (PW g V' L') (AA g)) args s cells slots (AA g)) V L pc lv [.long x] := by
  intro H locs ls hw hl
  subst hv; subst hV; subst hL
  exact W.lret C.1 C.2.1 C.2.2.2.2.2.2.1 (fun t ht hW => ⟨⟨rfl, by show va_P _ _ _ t.heap; rw [ht]; exact hw.1⟩, hw.2.F ht⟩) hw.2.2.2 hd C.2.2.2.2.2.1
theorem j_dret (C : Cx p s args m meth c cc nL own (some .double) g) {v : Option Value} {V' : Mem} {L' : LMem} {x : UInt64} (hd : decode cc pc = .ok (.dreturn, 1)) (hv : v = some (.double x)) (hV : V = V') (hL : L = L') : J p l e R s m args below meth c nL g cells slots (MQ below (QG v (PW g V' L') (AA g)) args s cells slots (AA g)) V L pc lv [.double x] := by
  intro H locs ls hw hl
  subst hv; subst hV; subst hL
  exact W.dret C.1 C.2.1 C.2.2.2.2.2.2.1 (fun t ht hW => ⟨⟨rfl, by show va_P _ _ _ t.heap; rw [ht]; exact hw.1⟩, hw.2.F ht⟩) hw.2.2.2 hd C.2.2.2.2.2.1
theorem j_vret (C : Cx p s args m meth c cc nL own none g) {v : Option Value} {V' : Mem} {L' : LMem} (hd : decode cc pc = .ok (.return_, 1)) (hv : v = none) (hV : V = V') (hL : L = L') : J p l e R s m args below meth c nL g cells slots (MQ below (QG v (PW g V' L') (AA g)) args s cells slots (AA g)) V L pc lv [] := by
  intro H locs ls hw hl
  subst hv; subst hV; subst hL
  exact W.vret C.1 C.2.1 C.2.2.2.2.2.2.1 (fun t ht hW => ⟨⟨rfl, by show va_P _ _ _ t.heap; rw [ht]; exact hw.1⟩, hw.2.F ht⟩) hw.2.2.2 hd C.2.2.2.2.2.1
end CORE
