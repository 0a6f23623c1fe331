/-! THE LAW'S LOOP (laid by wip/whole/p78.py) -/
theorem and31 (x : Int32) : ∃ j, j ≤ 31 ∧ x &&& nI 31 = nI j := by
  refine ⟨(x.toBitVec &&& 31#32).toNat, ?_, ?_⟩
  · rw [BitVec.toNat_and]
    exact Nat.and_le_right
  · apply Int32.toBitVec_inj.mp
    apply BitVec.eq_of_toNat_eq
    have h1 : (x &&& nI 31).toBitVec = x.toBitVec &&& 31#32 := rfl
    rw [h1]
    show _ = (BitVec.ofInt 32 (((x.toBitVec &&& 31#32).toNat : Nat) : Int)).toNat
    rw [BitVec.ofInt_natCast, BitVec.toNat_ofNat, Nat.mod_eq_of_lt (x.toBitVec &&& 31#32).isLt]
theorem room6 {N i : Nat} (hN : N ≤ 3072) (hi : i ≤ 3078) (h : ¬ nI N - nI 6 < nI i) : i + 6 ≤ N := by
  rcases Nat.lt_or_ge N 6 with q | q
  · exfalso
    apply h
    have h0 : nI 0 ≤ nI i := nI_le (by omega) (by omega)
    refine Int32.lt_of_lt_of_le ?_ h0
    rcases (show N = 0 ∨ N = 1 ∨ N = 2 ∨ N = 3 ∨ N = 4 ∨ N = 5 by omega) with rfl | rfl | rfl | rfl | rfl | rfl <;> decide
  · rw [pk_sub q] at h
    have := (nI_leI (a := i) (b := N - 6) (by omega) (by omega)).mp (Int32.not_lt.mp h)
    omega
theorem room6' {N i : Nat} (hN : N ≤ 3072) (hi : i ≤ 3078) (h : N ≤ i) : nI N - nI 6 < nI i := by
  apply Decidable.byContradiction
  intro z
  have := room6 hN hi z
  omega
section LAWL
variable {p : Program} {l : Launch} {e : Env} {s : State} {m : MethodId} {args : Array Value} {below : List Frame} {meth : Method} {c : Code} {g : GC} {Q : State → Prop} {b0 N : Nat} {xs : Nat → Int32}
/-- from a case's end on -/
abbrev JK (p : Program) (l : Launch) (e : Env) (s : State) (m : MethodId) (args : Array Value) (below : List Frame) (meth : Method) (c : Code) (g : GC) (Q : State → Prop) (b0 i pc : Nat) (cells slots : Nat) (V : Mem) (L : LMem) : Prop := J p l e room_1 s m args below meth c 9 g cells slots Q V L pc (LVL g b0 i) []
theorem case_open (C : Cx p s args m meth c cL_law 9 RL (some .boolean) g) (X : SX s g b0 N xs) (hf : l.stackTraces = false) {i : Nat} (hi : i + 6 ≤ N) (hN : N ≤ 3072) {V : Mem} {L : LMem} {nl ns o n bm : Nat} (h : IV nl ns o n bm V) (next : ∀ (mc ms : Nat) (V2 : Mem) (L2 : LMem) (nl ns o n bm : Nat), mc ≤ 1 → ms ≤ 6 → IV nl ns o n bm V2 → JK p l e s m args below meth c g Q b0 i 1713 (231 + i + mc) (4189 + i + ms) V2 L2) : JK p l e s m args below meth c g Q b0 i 156 (231 + i) (4189 + i) V L := by
  obtain ⟨mc, ms, k, V1, L1, b, V2, L2, nl', ns', o', n', bm', q1, q2, q3, hW, hM, ht, hb, hI⟩ := s_open (l := l) (g := g) (L := L) hf h (p1 := xs (i + 1)) (n1 := xs (i + 2)) (r1 := xs (i + 3)) (c1 := xs (i + 4))
  exact blk_open C X (by omega) hW hM ht q3 hb (by omega) (by omega) (next mc ms V2 L2 nl' ns' o' n' bm' q1 q2 hI)
theorem case_term (C : Cx p s args m meth c cL_law 9 RL (some .boolean) g) (X : SX s g b0 N xs) (hf : l.stackTraces = false) {i : Nat} (hi : i + 6 ≤ N) (hN : N ≤ 3072) {V : Mem} {L : LMem} {nl ns o n bm : Nat} (h : IV nl ns o n bm V) (next : ∀ (mc ms : Nat) (V2 : Mem) (L2 : LMem) (nl ns o n bm : Nat), mc ≤ 1 → ms ≤ 6 → IV nl ns o n bm V2 → JK p l e s m args below meth c g Q b0 i 1713 (231 + i + mc) (4189 + i + ms) V2 L2) : JK p l e s m args below meth c g Q b0 i 248 (231 + i) (4189 + i) V L := by
  obtain ⟨mc, ms, k, V1, L1, b, V2, L2, nl', ns', o', n', bm', q1, q2, q3, hW, hM, ht, hb, hI⟩ := s_term (l := l) (g := g) (L := L) hf h (x := xs (i + 1)) (n1 := xs (i + 2)) (r1 := xs (i + 3))
  exact blk_term C X (by omega) hW hM ht q3 hb (by omega) (by omega) (next mc ms V2 L2 nl' ns' o' n' bm' q1 q2 hI)
theorem case_rent (C : Cx p s args m meth c cL_law 9 RL (some .boolean) g) (X : SX s g b0 N xs) (hf : l.stackTraces = false) {i : Nat} (hi : i + 6 ≤ N) (hN : N ≤ 3072) {V : Mem} {L : LMem} {nl ns o n bm : Nat} (h : IV nl ns o n bm V) (next : ∀ (mc ms : Nat) (V2 : Mem) (L2 : LMem) (nl ns o n bm : Nat), mc ≤ 1 → ms ≤ 6 → IV nl ns o n bm V2 → JK p l e s m args below meth c g Q b0 i 1713 (231 + i + mc) (4189 + i + ms) V2 L2) : JK p l e s m args below meth c g Q b0 i 328 (231 + i) (4189 + i) V L := by
  obtain ⟨mc, ms, k, V1, L1, b, V2, L2, nl', ns', o', n', bm', q1, q2, q3, hW, hM, ht, hb, hI⟩ := s_rent (l := l) (g := g) (L := L) hf h (x := xs (i + 1)) (p1 := xs (i + 2))
  exact blk_rent C X (by omega) hW hM ht q3 hb (by omega) (by omega) (next mc ms V2 L2 nl' ns' o' n' bm' q1 q2 hI)
theorem case_endPart (C : Cx p s args m meth c cL_law 9 RL (some .boolean) g) (X : SX s g b0 N xs) (hf : l.stackTraces = false) {i : Nat} (hi : i + 6 ≤ N) (hN : N ≤ 3072) {V : Mem} {L : LMem} {nl ns o n bm : Nat} (h : IV nl ns o n bm V) (next : ∀ (mc ms : Nat) (V2 : Mem) (L2 : LMem) (nl ns o n bm : Nat), mc ≤ 1 → ms ≤ 6 → IV nl ns o n bm V2 → JK p l e s m args below meth c g Q b0 i 1713 (231 + i + mc) (4189 + i + ms) V2 L2) : JK p l e s m args below meth c g Q b0 i 396 (231 + i) (4189 + i) V L := by
  obtain ⟨mc, ms, k, V1, L1, b, V2, L2, nl', ns', o', n', bm', q1, q2, q3, hW, hM, ht, hb, hI⟩ := s_endPart (l := l) (g := g) (L := L) hf h (x := xs (i + 1)) (t := xs (i + 2)) (fee := xs (i + 3))
  exact blk_endPart C X (by omega) hW hM ht q3 hb (by omega) (by omega) (next mc ms V2 L2 nl' ns' o' n' bm' q1 q2 hI)
theorem case_impair (C : Cx p s args m meth c cL_law 9 RL (some .boolean) g) (X : SX s g b0 N xs) (hf : l.stackTraces = false) {i : Nat} (hi : i + 6 ≤ N) (hN : N ≤ 3072) {V : Mem} {L : LMem} {nl ns o n bm : Nat} (h : IV nl ns o n bm V) (next : ∀ (mc ms : Nat) (V2 : Mem) (L2 : LMem) (nl ns o n bm : Nat), mc ≤ 1 → ms ≤ 6 → IV nl ns o n bm V2 → JK p l e s m args below meth c g Q b0 i 1713 (231 + i + mc) (4189 + i + ms) V2 L2) : JK p l e s m args below meth c g Q b0 i 476 (231 + i) (4189 + i) V L := by
  obtain ⟨mc, ms, k, V1, L1, b, V2, L2, nl', ns', o', n', bm', q1, q2, q3, hW, hM, ht, hb, hI⟩ := s_impair (l := l) (g := g) (L := L) hf h (x := xs (i + 1)) (a := xs (i + 2))
  exact blk_impair C X (by omega) hW hM ht q3 hb (by omega) (by omega) (next mc ms V2 L2 nl' ns' o' n' bm' q1 q2 hI)
theorem case_sublet (C : Cx p s args m meth c cL_law 9 RL (some .boolean) g) (X : SX s g b0 N xs) (hf : l.stackTraces = false) {i : Nat} (hi : i + 6 ≤ N) (hN : N ≤ 3072) {V : Mem} {L : LMem} {nl ns o n bm : Nat} (h : IV nl ns o n bm V) (next : ∀ (mc ms : Nat) (V2 : Mem) (L2 : LMem) (nl ns o n bm : Nat), mc ≤ 1 → ms ≤ 6 → IV nl ns o n bm V2 → JK p l e s m args below meth c g Q b0 i 1713 (231 + i + mc) (4189 + i + ms) V2 L2) : JK p l e s m args below meth c g Q b0 i 544 (231 + i) (4189 + i) V L := by
  obtain ⟨mc, ms, k, V1, L1, b, V2, L2, nl', ns', o', n', bm', q1, q2, q3, hW, hM, ht, hb, hI⟩ := s_sublet (l := l) (g := g) (L := L) hf h (x := xs (i + 1)) (t := xs (i + 2)) (rc := xs (i + 3)) (n1 := xs (i + 4))
  exact blk_sublet C X (by omega) hW hM ht q3 hb (by omega) (by omega) (next mc ms V2 L2 nl' ns' o' n' bm' q1 q2 hI)
theorem case_pass (C : Cx p s args m meth c cL_law 9 RL (some .boolean) g) (X : SX s g b0 N xs) (hf : l.stackTraces = false) {i : Nat} (hi : i + 6 ≤ N) (hN : N ≤ 3072) {V : Mem} {L : LMem} {nl ns o n bm : Nat} (h : IV nl ns o n bm V) (next : ∀ (mc ms : Nat) (V2 : Mem) (L2 : LMem) (nl ns o n bm : Nat), mc ≤ 1 → ms ≤ 6 → IV nl ns o n bm V2 → JK p l e s m args below meth c g Q b0 i 1713 (231 + i + mc) (4189 + i + ms) V2 L2) : JK p l e s m args below meth c g Q b0 i 636 (231 + i) (4189 + i) V L := by
  obtain ⟨mc, ms, k, V1, L1, b, V2, L2, nl', ns', o', n', bm', q1, q2, q3, hW, hM, ht, hb, hI⟩ := s_pass (l := l) (g := g) (L := L) hf h (x := xs (i + 1))
  exact blk_pass C X (by omega) hW hM ht q3 hb (by omega) (by omega) (next mc ms V2 L2 nl' ns' o' n' bm' q1 q2 hI)
theorem case_append (C : Cx p s args m meth c cL_law 9 RL (some .boolean) g) (X : SX s g b0 N xs) (hf : l.stackTraces = false) {i : Nat} (hi : i + 6 ≤ N) (hN : N ≤ 3072) {V : Mem} {L : LMem} {nl ns o n bm : Nat} (h : IV nl ns o n bm V) (next : ∀ (mc ms : Nat) (V2 : Mem) (L2 : LMem) (nl ns o n bm : Nat), mc ≤ 1 → ms ≤ 6 → IV nl ns o n bm V2 → JK p l e s m args below meth c g Q b0 i 1713 (231 + i + mc) (4189 + i + ms) V2 L2) : JK p l e s m args below meth c g Q b0 i 692 (231 + i) (4189 + i) V L := by
  obtain ⟨mc, ms, k, V1, L1, b, V2, L2, nl', ns', o', n', bm', q1, q2, q3, hW, hM, ht, hb, hI⟩ := s_append (l := l) (g := g) (L := L) hf h (x := xs (i + 1))
  exact blk_append C X (by omega) hW hM ht q3 hb (by omega) (by omega) (next mc ms V2 L2 nl' ns' o' n' bm' q1 q2 hI)
theorem case_clearBuffer (C : Cx p s args m meth c cL_law 9 RL (some .boolean) g) (X : SX s g b0 N xs) (hf : l.stackTraces = false) {i : Nat} (hi : i + 6 ≤ N) (hN : N ≤ 3072) {V : Mem} {L : LMem} {nl ns o n bm : Nat} (h : IV nl ns o n bm V) (next : ∀ (mc ms : Nat) (V2 : Mem) (L2 : LMem) (nl ns o n bm : Nat), mc ≤ 1 → ms ≤ 6 → IV nl ns o n bm V2 → JK p l e s m args below meth c g Q b0 i 1713 (231 + i + mc) (4189 + i + ms) V2 L2) : JK p l e s m args below meth c g Q b0 i 748 (231 + i) (4189 + i) V L := by
  obtain ⟨x, V1, V2, hW, hM, hI⟩ := s_clearBuffer (l := l) (g := g) (L := L) h
  exact blk_clearBuffer (cells := 231 + i) (slots := 4189 + i) (mc := 0) (ms := 0) C X hW hM rfl (by omega) (by omega) (next 0 0 V2 L _ _ _ _ _ (by omega) (by omega) hI)
theorem case_firstError (C : Cx p s args m meth c cL_law 9 RL (some .boolean) g) (X : SX s g b0 N xs) (hf : l.stackTraces = false) {i : Nat} (hi : i + 6 ≤ N) (hN : N ≤ 3072) {V : Mem} {L : LMem} {nl ns o n bm : Nat} (h : IV nl ns o n bm V) (next : ∀ (mc ms : Nat) (V2 : Mem) (L2 : LMem) (nl ns o n bm : Nat), mc ≤ 1 → ms ≤ 6 → IV nl ns o n bm V2 → JK p l e s m args below meth c g Q b0 i 1713 (231 + i + mc) (4189 + i + ms) V2 L2) : JK p l e s m args below meth c g Q b0 i 761 (231 + i) (4189 + i) V L := by
  obtain ⟨x, V1, V2, hW, hM, hI⟩ := s_firstError (l := l) (g := g) (L := L) h
  exact blk_firstError (cells := 231 + i) (slots := 4189 + i) (mc := 0) (ms := 0) C X hW hM rfl (by omega) (by omega) (next 0 0 V2 L _ _ _ _ _ (by omega) (by omega) hI)
theorem case_openAll (C : Cx p s args m meth c cL_law 9 RL (some .boolean) g) (X : SX s g b0 N xs) (hf : l.stackTraces = false) {i : Nat} (hi : i + 6 ≤ N) (hN : N ≤ 3072) {V : Mem} {L : LMem} {nl ns o n bm : Nat} (h : IV nl ns o n bm V) (next : ∀ (mc ms : Nat) (V2 : Mem) (L2 : LMem) (nl ns o n bm : Nat), mc ≤ 1 → ms ≤ 6 → IV nl ns o n bm V2 → JK p l e s m args below meth c g Q b0 i 1713 (231 + i + mc) (4189 + i + ms) V2 L2) : JK p l e s m args below meth c g Q b0 i 774 (231 + i) (4189 + i) V L := by
  obtain ⟨mc, ms, k, V1, L1, b, V2, L2, nl', ns', o', n', bm', q1, q2, q3, hW, hM, ht, hb, hI⟩ := s_openAll (l := l) (g := g) (L := L) hf h
  exact blk_openAll C X hW hM ht q3 hb (by omega) (by omega) (next mc ms V2 L2 nl' ns' o' n' bm' q1 q2 hI)
theorem case_undo (C : Cx p s args m meth c cL_law 9 RL (some .boolean) g) (X : SX s g b0 N xs) (hf : l.stackTraces = false) {i : Nat} (hi : i + 6 ≤ N) (hN : N ≤ 3072) {V : Mem} {L : LMem} {nl ns o n bm : Nat} (h : IV nl ns o n bm V) (next : ∀ (mc ms : Nat) (V2 : Mem) (L2 : LMem) (nl ns o n bm : Nat), mc ≤ 1 → ms ≤ 6 → IV nl ns o n bm V2 → JK p l e s m args below meth c g Q b0 i 1713 (231 + i + mc) (4189 + i + ms) V2 L2) : JK p l e s m args below meth c g Q b0 i 818 (231 + i) (4189 + i) V L := by
  obtain ⟨mc, ms, k, V1, L1, b, V2, L2, nl', ns', o', n', bm', q1, q2, q3, hW, hM, ht, hb, hI⟩ := s_undo (l := l) (g := g) (L := L) hf h
  exact blk_undo C X hW hM ht q3 hb (by omega) (by omega) (next mc ms V2 L2 nl' ns' o' n' bm' q1 q2 hI)
theorem case_lease (C : Cx p s args m meth c cL_law 9 RL (some .boolean) g) (X : SX s g b0 N xs) (hf : l.stackTraces = false) {i : Nat} (hi : i + 6 ≤ N) (hN : N ≤ 3072) {V : Mem} {L : LMem} {nl ns o n bm : Nat} (h : IV nl ns o n bm V) (next : ∀ (mc ms : Nat) (V2 : Mem) (L2 : LMem) (nl ns o n bm : Nat), mc ≤ 1 → ms ≤ 6 → IV nl ns o n bm V2 → JK p l e s m args below meth c g Q b0 i 1713 (231 + i + mc) (4189 + i + ms) V2 L2) : JK p l e s m args below meth c g Q b0 i 862 (231 + i) (4189 + i) V L := by
  obtain ⟨mc, ms, k, V1, L1, b, V2, L2, nl', ns', o', n', bm', q1, q2, q3, hW, hM, ht, hb, hI⟩ := s_lease (l := l) (g := g) (L := L) hf h (x := xs (i + 1)) (y := xs (i + 2))
  exact blk_lease C X (by omega) hW hM ht q3 hb (by omega) (by omega) (next mc ms V2 L2 nl' ns' o' n' bm' q1 q2 hI)
theorem case_sublease (C : Cx p s args m meth c cL_law 9 RL (some .boolean) g) (X : SX s g b0 N xs) (hf : l.stackTraces = false) {i : Nat} (hi : i + 6 ≤ N) (hN : N ≤ 3072) {V : Mem} {L : LMem} {nl ns o n bm : Nat} (h : IV nl ns o n bm V) (next : ∀ (mc ms : Nat) (V2 : Mem) (L2 : LMem) (nl ns o n bm : Nat), mc ≤ 1 → ms ≤ 6 → IV nl ns o n bm V2 → JK p l e s m args below meth c g Q b0 i 1713 (231 + i + mc) (4189 + i + ms) V2 L2) : JK p l e s m args below meth c g Q b0 i 930 (231 + i) (4189 + i) V L := by
  obtain ⟨mc, ms, k, V1, L1, b, V2, L2, nl', ns', o', n', bm', q1, q2, q3, hW, hM, ht, hb, hI⟩ := s_sublease (l := l) (g := g) (L := L) hf h (x := xs (i + 1)) (y := xs (i + 2))
  exact blk_sublease C X (by omega) hW hM ht q3 hb (by omega) (by omega) (next mc ms V2 L2 nl' ns' o' n' bm' q1 q2 hI)
theorem case_movement (C : Cx p s args m meth c cL_law 9 RL (some .boolean) g) (X : SX s g b0 N xs) (hf : l.stackTraces = false) {i : Nat} (hi : i + 6 ≤ N) (hN : N ≤ 3072) {V : Mem} {L : LMem} {nl ns o n bm : Nat} (h : IV nl ns o n bm V) (next : ∀ (mc ms : Nat) (V2 : Mem) (L2 : LMem) (nl ns o n bm : Nat), mc ≤ 1 → ms ≤ 6 → IV nl ns o n bm V2 → JK p l e s m args below meth c g Q b0 i 1713 (231 + i + mc) (4189 + i + ms) V2 L2) : JK p l e s m args below meth c g Q b0 i 998 (231 + i) (4189 + i) V L := by
  obtain ⟨mc, ms, k, V1, L1, b, V2, L2, nl', ns', o', n', bm', q1, q2, q3, hW, hM, ht, hb, hI⟩ := s_movement (l := l) (g := g) (L := L) hf h (x := xs (i + 1)) (y := xs (i + 2))
  exact blk_movement C X (by omega) hW hM ht q3 hb (by omega) (by omega) (next mc ms V2 L2 nl' ns' o' n' bm' q1 q2 hI)
theorem case_profit (C : Cx p s args m meth c cL_law 9 RL (some .boolean) g) (X : SX s g b0 N xs) (hf : l.stackTraces = false) {i : Nat} (hi : i + 6 ≤ N) (hN : N ≤ 3072) {V : Mem} {L : LMem} {nl ns o n bm : Nat} (h : IV nl ns o n bm V) (next : ∀ (mc ms : Nat) (V2 : Mem) (L2 : LMem) (nl ns o n bm : Nat), mc ≤ 1 → ms ≤ 6 → IV nl ns o n bm V2 → JK p l e s m args below meth c g Q b0 i 1713 (231 + i + mc) (4189 + i + ms) V2 L2) : JK p l e s m args below meth c g Q b0 i 1066 (231 + i) (4189 + i) V L := by
  obtain ⟨mc, ms, k, V1, L1, b, V2, L2, nl', ns', o', n', bm', q1, q2, q3, hW, hM, ht, hb, hI⟩ := s_profit (l := l) (g := g) (L := L) hf h (x := xs (i + 1)) (y := xs (i + 2))
  exact blk_profit C X (by omega) hW hM ht q3 hb (by omega) (by omega) (next mc ms V2 L2 nl' ns' o' n' bm' q1 q2 hI)
theorem case_count (C : Cx p s args m meth c cL_law 9 RL (some .boolean) g) (X : SX s g b0 N xs) (hf : l.stackTraces = false) {i : Nat} (hi : i + 6 ≤ N) (hN : N ≤ 3072) {V : Mem} {L : LMem} {nl ns o n bm : Nat} (h : IV nl ns o n bm V) (next : ∀ (mc ms : Nat) (V2 : Mem) (L2 : LMem) (nl ns o n bm : Nat), mc ≤ 1 → ms ≤ 6 → IV nl ns o n bm V2 → JK p l e s m args below meth c g Q b0 i 1713 (231 + i + mc) (4189 + i + ms) V2 L2) : JK p l e s m args below meth c g Q b0 i 1134 (231 + i) (4189 + i) V L := by
  obtain ⟨mc, ms, k, V1, L1, b, V2, L2, nl', ns', o', n', bm', q1, q2, q3, hW, hM, ht, hb, hI⟩ := s_count (l := l) (g := g) (L := L) hf h (y := xs (i + 1))
  exact blk_count C X (by omega) hW hM ht q3 hb (by omega) (by omega) (next mc ms V2 L2 nl' ns' o' n' bm' q1 q2 hI)
theorem case_worth (C : Cx p s args m meth c cL_law 9 RL (some .boolean) g) (X : SX s g b0 N xs) (hf : l.stackTraces = false) {i : Nat} (hi : i + 6 ≤ N) (hN : N ≤ 3072) {V : Mem} {L : LMem} {nl ns o n bm : Nat} (h : IV nl ns o n bm V) (next : ∀ (mc ms : Nat) (V2 : Mem) (L2 : LMem) (nl ns o n bm : Nat), mc ≤ 1 → ms ≤ 6 → IV nl ns o n bm V2 → JK p l e s m args below meth c g Q b0 i 1713 (231 + i + mc) (4189 + i + ms) V2 L2) : JK p l e s m args below meth c g Q b0 i 1190 (231 + i) (4189 + i) V L := by
  obtain ⟨mc, ms, k, V1, L1, b, V2, L2, nl', ns', o', n', bm', q1, q2, q3, hW, hM, ht, hb, hI⟩ := s_worth (l := l) (g := g) (L := L) hf h (p1 := xs (i + 1)) (n1 := xs (i + 2)) (r := xs (i + 3))
  exact blk_worth C X (by omega) hW hM ht q3 hb (by omega) (by omega) (next mc ms V2 L2 nl' ns' o' n' bm' q1 q2 hI)
theorem case_plan (C : Cx p s args m meth c cL_law 9 RL (some .boolean) g) (X : SX s g b0 N xs) (hf : l.stackTraces = false) {i : Nat} (hi : i + 6 ≤ N) (hN : N ≤ 3072) {V : Mem} {L : LMem} {nl ns o n bm : Nat} (h : IV nl ns o n bm V) (next : ∀ (mc ms : Nat) (V2 : Mem) (L2 : LMem) (nl ns o n bm : Nat), mc ≤ 1 → ms ≤ 6 → IV nl ns o n bm V2 → JK p l e s m args below meth c g Q b0 i 1713 (231 + i + mc) (4189 + i + ms) V2 L2) : JK p l e s m args below meth c g Q b0 i 1270 (231 + i) (4189 + i) V L := by
  obtain ⟨mc, ms, k, V1, L1, b, V2, L2, nl', ns', o', n', bm', q1, q2, q3, hW, hM, ht, hb, hI⟩ := s_plan (l := l) (g := g) (L := L) hf h (x := xs (i + 1)) (n1 := xs (i + 2)) (y := xs (i + 3))
  exact blk_plan C X (by omega) hW hM ht q3 hb (by omega) (by omega) (next mc ms V2 L2 nl' ns' o' n' bm' q1 q2 hI)
theorem case_ifMeasured (C : Cx p s args m meth c cL_law 9 RL (some .boolean) g) (X : SX s g b0 N xs) (hf : l.stackTraces = false) {i : Nat} (hi : i + 6 ≤ N) (hN : N ≤ 3072) {V : Mem} {L : LMem} {nl ns o n bm : Nat} (h : IV nl ns o n bm V) (next : ∀ (mc ms : Nat) (V2 : Mem) (L2 : LMem) (nl ns o n bm : Nat), mc ≤ 1 → ms ≤ 6 → IV nl ns o n bm V2 → JK p l e s m args below meth c g Q b0 i 1713 (231 + i + mc) (4189 + i + ms) V2 L2) : JK p l e s m args below meth c g Q b0 i 1350 (231 + i) (4189 + i) V L := by
  obtain ⟨mc, ms, k, V1, L1, b, V2, L2, nl', ns', o', n', bm', q1, q2, q3, hW, hM, ht, hb, hI⟩ := s_ifMeasured (l := l) (g := g) (L := L) hf h (x := xs (i + 1)) (p1 := xs (i + 2)) (n1 := xs (i + 3)) (r := xs (i + 4)) (y := xs (i + 5))
  exact blk_ifMeasured C X (by omega) hW hM ht q3 hb (by omega) (by omega) (next mc ms V2 L2 nl' ns' o' n' bm' q1 q2 hI)
theorem case_paymentFor (C : Cx p s args m meth c cL_law 9 RL (some .boolean) g) (X : SX s g b0 N xs) (hf : l.stackTraces = false) {i : Nat} (hi : i + 6 ≤ N) (hN : N ≤ 3072) {V : Mem} {L : LMem} {nl ns o n bm : Nat} (h : IV nl ns o n bm V) (next : ∀ (mc ms : Nat) (V2 : Mem) (L2 : LMem) (nl ns o n bm : Nat), mc ≤ 1 → ms ≤ 6 → IV nl ns o n bm V2 → JK p l e s m args below meth c g Q b0 i 1713 (231 + i + mc) (4189 + i + ms) V2 L2) : JK p l e s m args below meth c g Q b0 i 1454 (231 + i) (4189 + i) V L := by
  obtain ⟨mc, ms, k, V1, L1, b, V2, L2, nl', ns', o', n', bm', q1, q2, q3, hW, hM, ht, hb, hI⟩ := s_paymentFor (l := l) (g := g) (L := L) hf h (x := xs (i + 1)) (li := xs (i + 2))
  exact blk_paymentFor C X (by omega) hW hM ht q3 hb (by omega) (by omega) (next mc ms V2 L2 nl' ns' o' n' bm' q1 q2 hI)
theorem case_rateWithin (C : Cx p s args m meth c cL_law 9 RL (some .boolean) g) (X : SX s g b0 N xs) (hf : l.stackTraces = false) {i : Nat} (hi : i + 6 ≤ N) (hN : N ≤ 3072) {V : Mem} {L : LMem} {nl ns o n bm : Nat} (h : IV nl ns o n bm V) (next : ∀ (mc ms : Nat) (V2 : Mem) (L2 : LMem) (nl ns o n bm : Nat), mc ≤ 1 → ms ≤ 6 → IV nl ns o n bm V2 → JK p l e s m args below meth c g Q b0 i 1713 (231 + i + mc) (4189 + i + ms) V2 L2) : JK p l e s m args below meth c g Q b0 i 1522 (231 + i) (4189 + i) V L := by
  obtain ⟨mc, ms, k, V1, L1, b, V2, L2, nl', ns', o', n', bm', q1, q2, q3, hW, hM, ht, hb, hI⟩ := s_rateWithin (l := l) (g := g) (L := L) hf h (x := xs (i + 1))
  exact blk_rateWithin C X (by omega) hW hM ht q3 hb (by omega) (by omega) (next mc ms V2 L2 nl' ns' o' n' bm' q1 q2 hI)
theorem case_fairReceipt (C : Cx p s args m meth c cL_law 9 RL (some .boolean) g) (X : SX s g b0 N xs) (hf : l.stackTraces = false) {i : Nat} (hi : i + 6 ≤ N) (hN : N ≤ 3072) {V : Mem} {L : LMem} {nl ns o n bm : Nat} (h : IV nl ns o n bm V) (next : ∀ (mc ms : Nat) (V2 : Mem) (L2 : LMem) (nl ns o n bm : Nat), mc ≤ 1 → ms ≤ 6 → IV nl ns o n bm V2 → JK p l e s m args below meth c g Q b0 i 1713 (231 + i + mc) (4189 + i + ms) V2 L2) : JK p l e s m args below meth c g Q b0 i 1578 (231 + i) (4189 + i) V L := by
  obtain ⟨mc, ms, k, V1, L1, b, V2, L2, nl', ns', o', n', bm', q1, q2, q3, hW, hM, ht, hb, hI⟩ := s_fairReceipt (l := l) (g := g) (L := L) hf h (x := xs (i + 1)) (t := xs (i + 2)) (n1 := xs (i + 3))
  exact blk_fairReceipt C X (by omega) hW hM ht q3 hb (by omega) (by omega) (next mc ms V2 L2 nl' ns' o' n' bm' q1 q2 hI)
theorem case_offShare (C : Cx p s args m meth c cL_law 9 RL (some .boolean) g) (X : SX s g b0 N xs) (hf : l.stackTraces = false) {i : Nat} (hi : i + 6 ≤ N) (hN : N ≤ 3072) {V : Mem} {L : LMem} {nl ns o n bm : Nat} (h : IV nl ns o n bm V) (next : ∀ (mc ms : Nat) (V2 : Mem) (L2 : LMem) (nl ns o n bm : Nat), mc ≤ 1 → ms ≤ 6 → IV nl ns o n bm V2 → JK p l e s m args below meth c g Q b0 i 1713 (231 + i + mc) (4189 + i + ms) V2 L2) : JK p l e s m args below meth c g Q b0 i 1658 (231 + i) (4189 + i) V L := by
  obtain ⟨x, V1, V2, hW, hM, hx, hI⟩ := s_offShare (l := l) (g := g) (L := L) h
  exact blk_offShare (cells := 231 + i) (slots := 4189 + i) (mc := 0) (ms := 0) C X hW hM hx (by omega) (by omega) (next 0 0 V2 L _ _ _ _ _ (by omega) (by omega) hI)
theorem case_digest (C : Cx p s args m meth c cL_law 9 RL (some .boolean) g) (X : SX s g b0 N xs) (hf : l.stackTraces = false) {i : Nat} (hi : i + 6 ≤ N) (hN : N ≤ 3072) {V : Mem} {L : LMem} {nl ns o n bm : Nat} (h : IV nl ns o n bm V) (next : ∀ (mc ms : Nat) (V2 : Mem) (L2 : LMem) (nl ns o n bm : Nat), mc ≤ 1 → ms ≤ 6 → IV nl ns o n bm V2 → JK p l e s m args below meth c g Q b0 i 1713 (231 + i + mc) (4189 + i + ms) V2 L2) : JK p l e s m args below meth c g Q b0 i 1699 (231 + i) (4189 + i) V L := by
  obtain ⟨x, V1, V2, L2, hW, hM, hI⟩ := s_digest (l := l) (g := g) (L := L) h
  exact blk_digest (cells := 231 + i) (slots := 4189 + i) (mc := 0) (ms := 0) C X hW hM rfl (by omega) (by omega) (next 0 0 V2 L2 _ _ _ _ _ (by omega) (by omega) hI)
set_option maxHeartbeats 4000000 in
theorem law_loop (C : Cx p s args m meth c cL_law 9 RL (some .boolean) g) (X : SX s g b0 N xs) (hf : l.stackTraces = false) (hN : N ≤ 3072)
    (kx : ∀ (V : Mem) (L : LMem) (i cells slots : Nat), cells ≤ 601024 → slots ≤ 7293033 → JK p l e s m args below meth c g Q b0 i 1719 cells slots V L) :
    ∀ (f i : Nat) (V : Mem) (L : LMem) (nl ns o n bm : Nat), N ≤ i + 6 * f → i ≤ 3078 → IV nl ns o n bm V → JK p l e s m args below meth c g Q b0 i 23 (231 + i) (4189 + i) V L := by
  intro f
  induction f with
  | zero =>
    intro i V L nl ns o n bm hf1 hi hI
    refine j_iload C dL_law_23 rfl ?_
    refine j_aload_n C dL_law_25 rfl rfl ?_
    refine j_slen C X dL_law_26 ?_
    refine j_bipush (v := nI 6) C dL_law_27 (by decide) ?_
    refine j_isub C dL_law_29 ?_
    exact j_icmp_gt (tgt := 1719) C dL_law_30 (by decide) (fun _ => kx V L i _ _ (by omega) (by omega)) (fun z => absurd (room6' hN hi (by omega)) z)
  | succ f ih =>
    intro i V L nl ns o n bm hf1 hi hI
    refine j_iload C dL_law_23 rfl ?_
    refine j_aload_n C dL_law_25 rfl rfl ?_
    refine j_slen C X dL_law_26 ?_
    refine j_bipush (v := nI 6) C dL_law_27 (by decide) ?_
    refine j_isub C dL_law_29 ?_
    refine j_icmp_gt (tgt := 1719) C dL_law_30 (by decide) (fun _ => kx V L i _ _ (by omega) (by omega)) (fun z => ?_)
    have h6 := room6 hN hi z
    have next : ∀ (mc ms : Nat) (V2 : Mem) (L2 : LMem) (nl ns o n bm : Nat), mc ≤ 1 → ms ≤ 6 → IV nl ns o n bm V2 → JK p l e s m args below meth c g Q b0 i 1713 (231 + i + mc) (4189 + i + ms) V2 L2 := by
      intro mc ms V2 L2 nl2 ns2 o2 n2 bm2 hmc hms hI2
      refine j_inc4 (v := nI (i + 6)) C dL_law_1713 (by rw [← nI_add]; rfl) (by decide) rfl ?_
      refine j_goto (tgt := 23) C dL_law_1716 (by decide) ?_
      exact J.widen (by omega) (by omega) (ih (i + 6) V2 L2 nl2 ns2 o2 n2 bm2 (by omega) (by omega) hI2)
    have out : JK p l e s m args below meth c g Q b0 i 1713 (231 + i) (4189 + i) V L := next 0 0 V L nl ns o n bm (by omega) (by omega) hI
    refine j_aload_n C dL_law_33 rfl rfl ?_
    refine j_iload C dL_law_34 rfl ?_
    refine j_sld C X (by omega) dL_law_36 ?_
    refine j_bipush (v := nI 31) C dL_law_37 (by decide) ?_
    refine j_iand C dL_law_39 ?_
    obtain ⟨j, hj, ej⟩ := and31 (xs i)
    rw [ej]
    rcases Nat.lt_or_ge 24 j with q | q
    · refine j_tabOut (tgt := 1713) C dL_law_40 (Or.inr ?_) (by decide) out
      rw [nI_toInt (by omega)]
      omega
    · rcases (show j = 0 ∨ j = 1 ∨ j = 2 ∨ j = 3 ∨ j = 4 ∨ j = 5 ∨ j = 6 ∨ j = 7 ∨ j = 8 ∨ j = 9 ∨ j = 10 ∨ j = 11 ∨ j = 12 ∨ j = 13 ∨ j = 14 ∨ j = 15 ∨ j = 16 ∨ j = 17 ∨ j = 18 ∨ j = 19 ∨ j = 20 ∨ j = 21 ∨ j = 22 ∨ j = 23 ∨ j = 24 by omega) with rfl | rfl | rfl | rfl | rfl | rfl | rfl | rfl | rfl | rfl | rfl | rfl | rfl | rfl | rfl | rfl | rfl | rfl | rfl | rfl | rfl | rfl | rfl | rfl | rfl
      · exact j_tabIn (off := 116) (tgt := 156) C dL_law_40 (by decide) (by decide) (by decide) (by decide) (case_open C X hf h6 hN hI next)
      · exact j_tabIn (off := 208) (tgt := 248) C dL_law_40 (by decide) (by decide) (by decide) (by decide) (case_term C X hf h6 hN hI next)
      · exact j_tabIn (off := 288) (tgt := 328) C dL_law_40 (by decide) (by decide) (by decide) (by decide) (case_rent C X hf h6 hN hI next)
      · exact j_tabIn (off := 356) (tgt := 396) C dL_law_40 (by decide) (by decide) (by decide) (by decide) (case_endPart C X hf h6 hN hI next)
      · exact j_tabIn (off := 436) (tgt := 476) C dL_law_40 (by decide) (by decide) (by decide) (by decide) (case_impair C X hf h6 hN hI next)
      · exact j_tabIn (off := 504) (tgt := 544) C dL_law_40 (by decide) (by decide) (by decide) (by decide) (case_sublet C X hf h6 hN hI next)
      · exact j_tabIn (off := 596) (tgt := 636) C dL_law_40 (by decide) (by decide) (by decide) (by decide) (case_pass C X hf h6 hN hI next)
      · exact j_tabIn (off := 652) (tgt := 692) C dL_law_40 (by decide) (by decide) (by decide) (by decide) (case_append C X hf h6 hN hI next)
      · exact j_tabIn (off := 708) (tgt := 748) C dL_law_40 (by decide) (by decide) (by decide) (by decide) (case_clearBuffer C X hf h6 hN hI next)
      · exact j_tabIn (off := 721) (tgt := 761) C dL_law_40 (by decide) (by decide) (by decide) (by decide) (case_firstError C X hf h6 hN hI next)
      · exact j_tabIn (off := 734) (tgt := 774) C dL_law_40 (by decide) (by decide) (by decide) (by decide) (case_openAll C X hf h6 hN hI next)
      · exact j_tabIn (off := 778) (tgt := 818) C dL_law_40 (by decide) (by decide) (by decide) (by decide) (case_undo C X hf h6 hN hI next)
      · exact j_tabIn (off := 822) (tgt := 862) C dL_law_40 (by decide) (by decide) (by decide) (by decide) (case_lease C X hf h6 hN hI next)
      · exact j_tabIn (off := 890) (tgt := 930) C dL_law_40 (by decide) (by decide) (by decide) (by decide) (case_sublease C X hf h6 hN hI next)
      · exact j_tabIn (off := 958) (tgt := 998) C dL_law_40 (by decide) (by decide) (by decide) (by decide) (case_movement C X hf h6 hN hI next)
      · exact j_tabIn (off := 1026) (tgt := 1066) C dL_law_40 (by decide) (by decide) (by decide) (by decide) (case_profit C X hf h6 hN hI next)
      · exact j_tabIn (off := 1094) (tgt := 1134) C dL_law_40 (by decide) (by decide) (by decide) (by decide) (case_count C X hf h6 hN hI next)
      · exact j_tabIn (off := 1150) (tgt := 1190) C dL_law_40 (by decide) (by decide) (by decide) (by decide) (case_worth C X hf h6 hN hI next)
      · exact j_tabIn (off := 1230) (tgt := 1270) C dL_law_40 (by decide) (by decide) (by decide) (by decide) (case_plan C X hf h6 hN hI next)
      · exact j_tabIn (off := 1310) (tgt := 1350) C dL_law_40 (by decide) (by decide) (by decide) (by decide) (case_ifMeasured C X hf h6 hN hI next)
      · exact j_tabIn (off := 1414) (tgt := 1454) C dL_law_40 (by decide) (by decide) (by decide) (by decide) (case_paymentFor C X hf h6 hN hI next)
      · exact j_tabIn (off := 1482) (tgt := 1522) C dL_law_40 (by decide) (by decide) (by decide) (by decide) (case_rateWithin C X hf h6 hN hI next)
      · exact j_tabIn (off := 1538) (tgt := 1578) C dL_law_40 (by decide) (by decide) (by decide) (by decide) (case_fairReceipt C X hf h6 hN hI next)
      · exact j_tabIn (off := 1618) (tgt := 1658) C dL_law_40 (by decide) (by decide) (by decide) (by decide) (case_offShare C X hf h6 hN hI next)
      · exact j_tabIn (off := 1659) (tgt := 1699) C dL_law_40 (by decide) (by decide) (by decide) (by decide) (case_digest C X hf h6 hN hI next)
end LAWL
