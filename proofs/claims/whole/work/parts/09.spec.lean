/-! SPECS: what each method does, as plain functions over the memory. -/
abbrev money (x : Int32) : Prop := nI 0 ≤ x ∧ x ≤ nI 100000
abbrev termR (x : Int32) : Prop := nI 1 ≤ x ∧ x ≤ nI 60
abbrev rateR (x : Int32) : Prop := nI 0 ≤ x ∧ x ≤ nI 2000
abbrev partR (x : Int32) : Prop := nI 1 ≤ x ∧ x ≤ nI 1000
def wl (p z : Int32) : Nat → Int64
  | 0 => 0
  | n + 1 => ((wl p z n + p.toInt64) * 20000 + (10000 + z.toInt64)) / (2 * (10000 + z.toInt64))
/-- the worth of n payments p by the rate z -/
def wor (p n z : Int32) : Int32 := (wl p z n.toNatClampNeg).toInt32
def prt (v t : Int32) : Int32 := (v.toInt64 * t.toInt64 / 1000).toInt32
theorem rate_div {z : Int32} (h : rateR z) : ¬ (2 * (10000 + z.toInt64) : Int64) = 0 ∧ (nI 10000 + z).toInt64 = 10000 + z.toInt64 ∧ (0 : Int64) < 10000 + z.toInt64 := by
  obtain ⟨j, hj, rfl⟩ := nI_of2 (n := 2000) (by decide) (fun q => absurd h.1 (Int32.not_le.mpr q)) h.2
  have e1 : (nI j).toInt64 = lN j := nI_l (by omega)
  have e2 : (10000 : Int64) + lN j = lN (10000 + j) := lN_add 10000 j
  have e3 : (2 : Int64) * lN (10000 + j) = lN (2 * (10000 + j)) := lN_mul 2 _
  refine ⟨?_, ?_, ?_⟩
  · rw [e1, e2, e3]
    intro q
    have q2 : lN (2 * (10000 + j)) = lN 0 := q
    rw [lN_eq (by omega) (by omega)] at q2
    omega
  · rw [nI_add, nI_l (by omega), e1, e2]
  · rw [e1, e2]
    exact (lN_lt (a := 0) (by omega) (by omega)).mpr (by omega)
theorem clampN (x : Int32) : x.toNatClampNeg < 2 ^ 31 := by
  have h1 : x.toNatClampNeg = x.toInt.toNat := rfl
  have h2 := Int32.toInt_lt x
  omega
theorem clamp_lt {i : Nat} {x : Int32} (hi : i < 2 ^ 31) (h : ¬ x ≤ nI i) : i < x.toNatClampNeg := by
  have h1 : nI i < x := Int32.not_le.mp h
  rw [Int32.lt_iff_toInt_lt, nI_toInt hi] at h1
  have h2 : x.toNatClampNeg = x.toInt.toNat := rfl
  omega
theorem clamp_ge {i : Nat} {x : Int32} (hi : i < 2 ^ 31) (h : x ≤ nI i) : x.toNatClampNeg ≤ i := by
  rw [Int32.le_iff_toInt_le, nI_toInt hi] at h
  have h2 : x.toNatClampNeg = x.toInt.toNat := rfl
  omega
/-! the model's side: z is row 225 -/
/-- movement m of lease k, in z -/
def rMv (k m : Nat) (x : Int32) (V : Mem) : Mem := mset V 225 (3 + 22 * k + 5 + m) (V 225 (3 + 22 * k + 5 + m) + x)
abbrev rRuns (V : Mem) (k : Nat) : Prop := 0 < V 225 (3 + 22 * k + 1)
/-- the first n places of lease k are 0 -/
def rZero (V : Mem) (k n : Nat) : Mem := fun a b => if a = 225 ∧ 3 + 22 * k ≤ b ∧ b < 3 + 22 * k + n then nI 0 else V a b
def rOpn (k : Nat) (p n r c : Int32) (V : Mem) : Mem :=
  let V1 := rZero (mset V 225 0 (V 225 0 + nI 1)) k 22
  let V2 := mset (mset (mset (mset V1 225 (3 + 22 * k) p) 225 (3 + 22 * k + 1) n) 225 (3 + 22 * k + 2) r) 225 (3 + 22 * k + 3) (wor p n r)
  let V3 := mset V2 225 (3 + 22 * k + 4) (V2 225 (3 + 22 * k + 3) + c)
  let V4 := rMv k 0 (V3 225 (3 + 22 * k + 3)) V3
  let V5 := rMv k 5 (V4 225 (3 + 22 * k + 4)) V4
  rMv k 15 c V5
def rCutS (k : Nat) (n : Int32) (q : Nat) (V : Mem) : Mem :=
  if V 225 (179 + 6 * q) = nI k ∧ n < V 225 (179 + 6 * q + 3) then
    let th := wor (V 225 (179 + 6 * q + 2)) n (V 225 (179 + 6 * q + 4))
    mset (mset (rMv k 14 (V 225 (179 + 6 * q + 5) - th) V) 225 (179 + 6 * q + 3) n) 225 (179 + 6 * q + 5) th
  else V
def rCut (k : Nat) (n : Int32) (V : Mem) : Nat → Mem
  | 0 => V
  | q + 1 => rCutS k n q (rCut k n V q)
def rMeasA (k : Nat) (p n r as' : Int32) (V : Mem) : Mem :=
  let b := 3 + 22 * k
  let th := wor p n r
  let V1 := rMv k 3 (th - V 225 (b + 3)) V
  let V2 := rMv k 7 (as' - V1 225 (b + 4)) V1
  mset (mset (mset (mset (mset V2 225 b p) 225 (b + 1) n) 225 (b + 2) r) 225 (b + 3) th) 225 (b + 4) as'
/-- the asset when the liability becomes th -/
def rAs (k : Nat) (th : Int32) (V : Mem) : Int32 := if V 225 (3 + 22 * k + 4) + (th - V 225 (3 + 22 * k + 3)) < 0 then nI 0 else V 225 (3 + 22 * k + 4) + (th - V 225 (3 + 22 * k + 3))
def rMeas0 (k : Nat) (p n r : Int32) (V : Mem) : Mem := rMeasA k p n r (rAs k (wor p n r) V) V
def rMeas (k : Nat) (p n r : Int32) (ns : Nat) (V : Mem) : Mem := rCut k n (rMeas0 k p n r V) ns
def rSubs (V : Mem) (k : Nat) (w : Int32) : Nat → Int32
  | 0 => nI 0
  | q + 1 => if V 225 (179 + 6 * q) = nI k then rSubs V k w q + (if w = nI 5 then V 225 (179 + 6 * q + 5) else if ¬ 0 < V 225 (179 + 6 * q + 3) then nI 0 else if w = nI 7 then V 225 (179 + 6 * q + 1) else nI 1) else rSubs V k w q
abbrev rMay (V : Mem) (k ns : Nat) (t n : Int32) : Prop := (rRuns V k ∧ n ≤ V 225 (3 + 22 * k + 1)) ∧ rSubs V k (nI 7) ns + t ≤ nI 1000 ∧ V 225 1 < nI 12
def rPSubS (k q : Nat) (V : Mem) : Mem :=
  if V 225 (179 + 6 * q) = nI k ∧ 0 < V 225 (179 + 6 * q + 3) then
    let V1 := mset V 225 (179 + 6 * q + 3) (V 225 (179 + 6 * q + 3) - nI 1)
    let th := wor (V1 225 (179 + 6 * q + 2)) (V1 225 (179 + 6 * q + 3)) (V1 225 (179 + 6 * q + 4))
    let V2 := rMv k 12 (th - V1 225 (179 + 6 * q + 5) + V1 225 (179 + 6 * q + 2)) V1
    let V3 := rMv k 13 (V2 225 (179 + 6 * q + 2)) V2
    mset V3 225 (179 + 6 * q + 5) th
  else V
def rPSub (k : Nat) (V : Mem) : Nat → Mem
  | 0 => V
  | q + 1 => rPSubS k q (rPSub k V q)
def rPL0 (k : Nat) (V : Mem) : Mem :=
  let b := 3 + 22 * k
  let off := V 225 (b + 4) / V 225 (b + 1)
  let V1 := mset V 225 (b + 1) (V 225 (b + 1) - nI 1)
  let th := wor (V1 225 b) (V1 225 (b + 1)) (V1 225 (b + 2))
  let V2 := rMv k 1 (th - V1 225 (b + 3) + V1 225 b) V1
  let V3 := rMv k 2 (V2 225 b) V2
  let V4 := rMv k 6 off V3
  let V5 := mset V4 225 (b + 3) th
  mset V5 225 (b + 4) (V5 225 (b + 4) - off)
def rPL (k ns : Nat) (V : Mem) : Mem := if 0 < V 225 (3 + 22 * k + 1) then rPSub k (rPL0 k V) ns else V
def rPAll (ns : Nat) (V : Mem) : Nat → Mem
  | 0 => V
  | k + 1 => rPL k ns (rPAll ns V k)
def rPass (nl ns : Nat) (V : Mem) : Nat → Mem
  | 0 => V
  | j + 1 => rPAll ns (rPass nl ns V j) nl
def rMoved (V : Mem) (k m : Nat) : Int32 := V 225 (3 + 22 * k + 5 + m)
def rLeaseOf (V : Mem) (k ns w : Nat) : Int32 :=
  if w < 5 then V 225 (3 + 22 * k + w) else if w = 6 then V 225 (3 + 22 * k + 3) - rSubs V k (nI 5) ns else rSubs V k (nI w) ns
def rProf0 (V : Mem) (k : Nat) : Int32 :=
  -rMoved V k 16 + (-rMoved V k 1 - rMoved V k 3 + rMoved V k 4) + (-rMoved V k 6 + rMoved V k 7 - rMoved V k 8 - rMoved V k 9 - rMoved V k 10) + rMoved V k 11 + rMoved V k 12 - rMoved V k 14
def rProf1 (V : Mem) (k ns : Nat) : Int32 :=
  -rMoved V k 16 + V 225 (3 + 22 * k + 4) + rSubs V k (nI 5) ns - V 225 (3 + 22 * k + 3) + rMoved V k 13 - rMoved V k 2 - rMoved V k 15
def rRunning (V : Mem) : Nat → Int32
  | 0 => nI 0
  | k + 1 => rRunning V k + (if 0 < V 225 (3 + 22 * k + 1) then nI 1 else nI 0)
def rOfL (V : Mem) (ns w : Nat) : Nat → Int32
  | 0 => nI 0
  | k + 1 => rOfL V ns w k + rLeaseOf V k ns w
def rProfs (V : Mem) : Nat → Int32
  | 0 => nI 0
  | k + 1 => rProfs V k + rProf0 V k
/-- copies of rows -/
def rset (V : Mem) (k : Nat) (f : Nat → Int32) : Mem := fun a => if a = k then f else V a
/-- the first n places of row k from f -/
def rcpy (V : Mem) (k : Nat) (f : Nat → Int32) (n : Nat) : Mem := fun a b => if a = k ∧ b < n then f b else V a b
def rAside (V : Mem) : Mem := rcpy V 227 (V 225) 251
def rBack (V : Mem) : Mem := rcpy V 225 (V 227) 251

/-- the lease that runs and has the fewest periods left, among the first -/
def rShort (V : Mem) : Nat → Option Nat
  | 0 => none
  | i + 1 => if 0 < V 225 (3 + 22 * i + 1) ∧ ((rShort V i).all fun b => decide (V 225 (3 + 22 * i + 1) < V 225 (3 + 22 * b + 1))) = true then some i else rShort V i
theorem rShort_lt {V : Mem} {b : Nat} : ∀ {i : Nat}, rShort V i = some b → b < i
  | 0, h => by cases h
  | i + 1, h => by
    unfold rShort at h
    split at h
    · cases h; omega
    · have := rShort_lt h; omega
def oI : Option Nat → Int32
  | none => -1
  | some b => nI b
def rBs (f : Nat → Bool) : Nat → Nat → Nat → Nat
  | 0, lo, _ => lo
  | n + 1, lo, hi => if lo < hi then (if f ((lo + hi + 1) / 2) = true then rBs f n ((lo + hi + 1) / 2) hi else rBs f n lo ((lo + hi + 1) / 2 - 1)) else lo
def rBl (f : Nat → Bool) : Nat → Nat → Nat → Nat
  | 0, lo, _ => lo
  | n + 1, lo, hi => if lo < hi then (if f ((lo + hi) / 2) = true then rBl f n lo ((lo + hi) / 2) else rBl f n ((lo + hi) / 2 + 1) hi) else lo
def rSc (f : Nat → Bool) : Nat → Int32
  | 0 => -1
  | n + 1 => if f n = true then nI n else rSc f n
def rPay (V : Mem) (k : Nat) (li : Int32) : Int32 :=
  if 0 < V 225 (3 + 22 * k + 1) then nI (rBs (fun p => decide (wor (nI p) (V 225 (3 + 22 * k + 1)) (V 225 (3 + 22 * k + 2)) ≤ li)) 100000 0 100000) else -1
def rRate (V : Mem) (k : Nat) : Int32 :=
  if 0 < V 225 (3 + 22 * k + 1) then rSc (fun r => decide (V 225 (3 + 22 * k + 4) ≤ wor (V 225 (3 + 22 * k)) (V 225 (3 + 22 * k + 1)) (nI r))) 2001 else -1
def rRec (V : Mem) (k ns : Nat) (t n : Int32) : Int32 :=
  if rMay V k ns t n ∧ prt (V 225 (3 + 22 * k + 4)) t ≤ wor (nI 100000) n (V 225 (3 + 22 * k + 2)) then
    nI (rBl (fun p => decide (prt (V 225 (3 + 22 * k + 4)) t ≤ wor (nI p) n (V 225 (3 + 22 * k + 2)))) 100000 0 100000)
  else -1
def rPLn (k ns : Nat) (V : Mem) : Nat → Mem
  | 0 => V
  | i + 1 => rPL k ns (rPLn k ns V i)
def rHad (k ns : Nat) (V : Mem) : Nat → Int32
  | 0 => rMoved V k 1
  | i + 1 => rMoved (rPLn k ns V i) k 1
def rPlan (V : Mem) (k ns n w : Nat) : Int32 := if w = 3 then rMoved (rPLn k ns V n) k 1 - rHad k ns V n else rLeaseOf (rPLn k ns V n) k ns (w + 3)
def rMsd (V : Mem) (k ns : Nat) (p n r : Int32) (w : Nat) : Int32 :=
  if w = 2 then rProf0 (rMeas k p n r ns V) k - rProf0 V k else rMeas k p n r ns V 225 (3 + 22 * k + 3 + w)
def rCount (V : Mem) (nl ns w : Nat) : Int32 :=
  if w < 3 then V 225 w else if w = 3 then rRunning V nl else if w = 4 then rOfL V ns 8 nl else if w = 5 then rOfL V ns 3 nl else if w = 6 then rOfL V ns 4 nl else if w = 7 then rOfL V ns 5 nl else if w = 8 then rProfs V nl else if w = 9 then oI (rShort V nl) else V 224 3
/-- only z's first 251 places differ -/
def ZF (V V' : Mem) : Prop := (∀ a, a ≠ 225 → V' a = V a) ∧ ∀ b, 251 ≤ b → V' 225 b = V 225 b
theorem ZF.rf {V : Mem} : ZF V V := ⟨fun _ _ => rfl, fun _ _ => rfl⟩
theorem ZF.put {V V' : Mem} {b : Nat} {x : Int32} (h : ZF V V') (hb : b < 251) : ZF V (mset V' 225 b x) :=
  ⟨fun a ha => by rw [mset_row ha]; exact h.1 a ha, fun c hc => by rw [mset_ne (by omega)]; exact h.2 c hc⟩
theorem ZF.mv {V V' : Mem} {k m : Nat} {x : Int32} (h : ZF V V') (hk : k < 8) (hm : m < 17) : ZF V (rMv k m x V') := h.put (by omega)
theorem ZF.cut {V V' : Mem} {k : Nat} {n : Int32} (h : ZF V V') (hk : k < 8) : ∀ q, q ≤ 12 → ZF V (rCut k n V' q)
  | 0, _ => h
  | q + 1, hq => by
    unfold rCut rCutS
    split
    · exact ((((h.cut hk q (by omega)).mv hk (by omega))).put (by omega)).put (by omega)
    · exact h.cut hk q (by omega)
theorem ZF.meas {V V' : Mem} {k ns : Nat} {p n r : Int32} (h : ZF V V') (hk : k < 8) (hns : ns ≤ 12) : ZF V (rMeas k p n r ns V') :=
  ZF.cut (((((((h.mv hk (by omega)).mv hk (by omega)).put (by omega)).put (by omega)).put (by omega)).put (by omega)).put (by omega)) hk ns hns
theorem ZF.psub {V V' : Mem} {k : Nat} (h : ZF V V') (hk : k < 8) : ∀ q, q ≤ 12 → ZF V (rPSub k V' q)
  | 0, _ => h
  | q + 1, hq => by
    unfold rPSub rPSubS
    split
    · exact ((((h.psub hk q (by omega)).put (by omega)).mv hk (by omega)).mv hk (by omega)).put (by omega)
    · exact h.psub hk q (by omega)
theorem ZF.pl0 {V V' : Mem} {k : Nat} (h : ZF V V') (hk : k < 8) : ZF V (rPL0 k V') :=
  (((((h.put (by omega)).mv hk (by omega)).mv hk (by omega)).mv hk (by omega)).put (by omega)).put (by omega)
theorem ZF.pl {V V' : Mem} {k ns : Nat} (h : ZF V V') (hk : k < 8) (hns : ns ≤ 12) : ZF V (rPL k ns V') := by
  unfold rPL
  split
  · exact (h.pl0 hk).psub hk ns hns
  · exact h
theorem ZF.pln {V V' : Mem} {k ns : Nat} (h : ZF V V') (hk : k < 8) (hns : ns ≤ 12) : ∀ i, ZF V (rPLn k ns V' i)
  | 0 => h
  | i + 1 => (h.pln hk hns i).pl hk hns
theorem ZF.pall {V V' : Mem} {ns : Nat} (h : ZF V V') (hns : ns ≤ 12) : ∀ i, i ≤ 8 → ZF V (rPAll ns V' i)
  | 0, _ => h
  | i + 1, hi => (h.pall hns i (by omega)).pl (by omega) hns
theorem ZF.pass {V V' : Mem} {nl ns : Nat} (h : ZF V V') (hnl : nl ≤ 8) (hns : ns ≤ 12) : ∀ j, ZF V (rPass nl ns V' j)
  | 0 => h
  | j + 1 => (h.pass hnl hns j).pall hns nl hnl
theorem rBack_eq {V X : Mem} (h : ZF (rAside V) X) : rBack X = rAside V := by
  funext a b
  by_cases ha : a = 225
  · subst ha
    by_cases hb : b < 251
    · have e1 : rBack X 225 b = X 227 b := by simp [rBack, rcpy, hb]
      have e2 : rAside V 225 b = V 225 b := by simp [rAside, rcpy]
      have e3 : rAside V 227 b = V 225 b := by simp [rAside, rcpy, hb]
      rw [e1, e2, h.1 227 (by decide), e3]
    · have e1 : rBack X 225 b = X 225 b := by simp [rBack, rcpy, hb]
      rw [e1, h.2 b (by omega)]
  · have e1 : rBack X a b = X a b := by simp [rBack, rcpy, ha]
    rw [e1, h.1 a ha]
theorem rAside_2 {V : Mem} : rAside (rAside V) = rAside V := by
  funext a b
  by_cases ha : a = 227
  · subst ha
    by_cases hb : b < 251
    · simp [rAside, rcpy, hb]
    · simp [rAside, rcpy, hb]
  · simp [rAside, rcpy, ha]
theorem rAside_row {V : Mem} {a : Nat} (h : a ≠ 227) : rAside V a = V a := by
  funext b
  simp [rAside, rcpy, h]
