/-! THE MODEL'S MEMORY: what its parts keep -/
theorem rcpy_0 {V : Mem} {k : Nat} {f : Nat → Int32} : rcpy V k f 0 = V := by
  funext a b
  simp [rcpy]
theorem rcpy_step {V : Mem} {k n : Nat} {f : Nat → Int32} : mset (rcpy V k f n) k n (f n) = rcpy V k f (n + 1) := by
  funext a b
  simp only [mset, rcpy]
  by_cases h1 : a = k
  · by_cases h2 : b = n
    · subst h1; subst h2; simp
    · rw [if_neg (by omega)]
      by_cases h3 : b < n
      · rw [if_pos ⟨h1, h3⟩, if_pos ⟨h1, by omega⟩]
      · rw [if_neg (by omega), if_neg (by omega)]
  · rw [if_neg (by omega), if_neg (by omega), if_neg (by omega)]
theorem rcpy_ne {V : Mem} {k n j : Nat} {f : Nat → Int32} (h : j ≠ k) : rcpy V k f n j = V j := by
  funext b
  simp [rcpy, h]
theorem rZero_0 {V : Mem} {k : Nat} : rZero V k 0 = V := by
  funext a b
  simp only [rZero]
  rw [if_neg (by omega)]
theorem rZero_step {V : Mem} {k n : Nat} : rZero V k (n + 1) = mset (rZero V k n) 225 (3 + 22 * k + n) (nI 0) := by
  funext a b
  simp only [mset, rZero]
  by_cases h1 : a = 225 ∧ b = 3 + 22 * k + n
  · rw [if_pos h1, if_pos (by omega)]
  · rw [if_neg h1]
    by_cases h2 : a = 225 ∧ 3 + 22 * k ≤ b ∧ b < 3 + 22 * k + n
    · rw [if_pos h2, if_pos (by omega)]
    · rw [if_neg h2, if_neg (by omega)]
/-- rows moved down by one, n places done -/
def rSh (V : Mem) (n : Nat) : Mem := fun a b => if a = 226 ∧ b < n then V 226 (b + 251) else V a b
theorem rSh_0 {V : Mem} : rSh V 0 = V := by
  funext a b
  simp [rSh]
theorem rSh_step {V : Mem} {n : Nat} : rSh V (n + 1) = mset (rSh V n) 226 n (rSh V n 226 (n + 251)) := by
  have e : rSh V n 226 (n + 251) = V 226 (n + 251) := if_neg (by omega)
  rw [e]
  funext a b
  simp only [mset, rSh]
  by_cases h1 : a = 226 ∧ b = n
  · obtain ⟨rfl, rfl⟩ := h1
    rw [if_pos (by omega), if_pos ⟨rfl, rfl⟩]
  · rw [if_neg h1]
    by_cases h2 : a = 226 ∧ b < n
    · rw [if_pos h2, if_pos (by omega)]
    · rw [if_neg h2, if_neg (by omega)]
/-- z copied to the saved row sv, n places done -/
def rCp (V : Mem) (sv n : Nat) : Mem := fun a b => if a = 226 ∧ 251 * sv ≤ b ∧ b < 251 * sv + n then V 225 (b - 251 * sv) else V a b
theorem rCp_0 {V : Mem} {sv : Nat} : rCp V sv 0 = V := by
  funext a b
  simp only [rCp]
  rw [if_neg (by omega)]
theorem rCp_step {V : Mem} {sv n : Nat} : rCp V sv (n + 1) = mset (rCp V sv n) 226 (251 * sv + n) (rCp V sv n 225 n) := by
  have e : rCp V sv n 225 n = V 225 n := if_neg (by omega)
  rw [e]
  funext a b
  simp only [mset, rCp]
  by_cases h1 : a = 226 ∧ b = 251 * sv + n
  · obtain ⟨rfl, rfl⟩ := h1
    rw [if_pos (by omega), if_pos ⟨rfl, rfl⟩]
    congr 1
    omega
  · rw [if_neg h1]
    by_cases h2 : a = 226 ∧ 251 * sv ≤ b ∧ b < 251 * sv + n
    · rw [if_pos h2, if_pos (by omega)]
    · rw [if_neg h2, if_neg (by omega)]
theorem rCp_ne {V : Mem} {sv n a b : Nat} (h : a ≠ 226) : rCp V sv n a b = V a b := by simp [rCp, h]
theorem rSh_ne {V : Mem} {n a b : Nat} (h : a ≠ 226) : rSh V n a b = V a b := by simp [rSh, h]
def rSave6 (V : Mem) : Mem :=
  let V1 := mset (rSh V 1255) 224 3 (rSh V 1255 224 3 - nI 1)
  let V2 := rCp V1 5 251
  mset V2 224 3 (V2 224 3 + nI 1)
def rSaveL (sv : Nat) (V : Mem) : Mem :=
  let V2 := rCp V sv 251
  mset V2 224 3 (V2 224 3 + nI 1)
def rSave (sv : Nat) (V : Mem) : Mem := if sv = 6 then rSave6 V else rSaveL sv V
/-- z is in order: counts, rates -/
def RR (nl ns : Nat) (V : Mem) : Prop := nl ≤ 8 ∧ ns ≤ 12 ∧ V 225 0 = nI nl ∧ V 225 1 = nI ns ∧ (∀ k, k < nl → rateR (V 225 (3 + 22 * k + 2))) ∧ ∀ q, q < ns → rateR (V 225 (179 + 6 * q + 4))
theorem RR.of {nl ns : Nat} {V V' : Mem} (h : RR nl ns V) (h0 : V' 225 0 = V 225 0) (h1 : V' 225 1 = V 225 1) (h2 : ∀ k, k < 8 → V' 225 (3 + 22 * k + 2) = V 225 (3 + 22 * k + 2)) (h3 : ∀ q, q < 12 → V' 225 (179 + 6 * q + 4) = V 225 (179 + 6 * q + 4)) : RR nl ns V' :=
  ⟨h.1, h.2.1, h0.trans h.2.2.1, h1.trans h.2.2.2.1, fun k hk => by rw [h2 k (by have := h.1; omega)]; exact h.2.2.2.2.1 k hk, fun q hq => by rw [h3 q (by have := h.2.1; omega)]; exact h.2.2.2.2.2 q hq⟩
theorem RR.mv {nl ns k m : Nat} {x : Int32} {V : Mem} (h : RR nl ns V) (hk : k < 8) (hm : m < 17) : RR nl ns (rMv k m x V) := by
  refine h.of ?_ ?_ (fun j hj => ?_) (fun j hj => ?_) <;> (simp only [rMv, mset]; rw [if_neg (by omega)])
theorem RR.put {nl ns a b : Nat} {x : Int32} {V : Mem} (h : RR nl ns V) (hb : a ≠ 225 ∨ (b ≠ 0 ∧ b ≠ 1 ∧ (∀ k, k < 8 → 3 + 22 * k + 2 ≠ b) ∧ ∀ q, q < 12 → 179 + 6 * q + 4 ≠ b)) : RR nl ns (mset V a b x) := by
  refine h.of ?_ ?_ (fun j hj => ?_) (fun j hj => ?_) <;> (simp only [mset]; rw [if_neg]; rintro ⟨rfl, rfl⟩; rcases hb with hb | hb)
  · exact hb rfl
  · exact hb.1 rfl
  · exact hb rfl
  · exact hb.2.1 rfl
  · exact hb rfl
  · exact hb.2.2.1 j hj rfl
  · exact hb rfl
  · exact hb.2.2.2 j hj rfl
theorem RR.cutS {nl ns k q : Nat} {n : Int32} {V : Mem} (h : RR nl ns V) (hk : k < 8) (hq : q < 12) : RR nl ns (rCutS k n q V) := by
  unfold rCutS
  split
  · exact RR.put (RR.put (h.mv hk (by omega)) (Or.inr ⟨by omega, by omega, fun k hk => by omega, fun j hj => by omega⟩)) (Or.inr ⟨by omega, by omega, fun k hk => by omega, fun j hj => by omega⟩)
  · exact h
theorem RR.cut {nl ns k : Nat} {n : Int32} {V : Mem} (h : RR nl ns V) (hk : k < 8) : ∀ q, q ≤ 12 → RR nl ns (rCut k n V q)
  | 0, _ => h
  | q + 1, hq => (RR.cut h hk q (by omega)).cutS hk (by omega)
theorem RR.psubS {nl ns k q : Nat} {V : Mem} (h : RR nl ns V) (hk : k < 8) (hq : q < 12) : RR nl ns (rPSubS k q V) := by
  unfold rPSubS
  split
  · exact RR.put (RR.mv (RR.mv (RR.put h (Or.inr ⟨by omega, by omega, fun k hk => by omega, fun j hj => by omega⟩)) hk (by omega)) hk (by omega)) (Or.inr ⟨by omega, by omega, fun k hk => by omega, fun j hj => by omega⟩)
  · exact h
theorem RR.psub {nl ns k : Nat} {V : Mem} (h : RR nl ns V) (hk : k < 8) : ∀ q, q ≤ 12 → RR nl ns (rPSub k V q)
  | 0, _ => h
  | q + 1, hq => (RR.psub h hk q (by omega)).psubS hk (by omega)
theorem RR.pl0 {nl ns k : Nat} {V : Mem} (h : RR nl ns V) (hk : k < 8) : RR nl ns (rPL0 k V) := by
  unfold rPL0
  exact RR.put (RR.put (RR.mv (RR.mv (RR.mv (RR.put h (Or.inr ⟨by omega, by omega, fun k hk => by omega, fun j hj => by omega⟩)) hk (by omega)) hk (by omega)) hk (by omega)) (Or.inr ⟨by omega, by omega, fun k hk => by omega, fun j hj => by omega⟩)) (Or.inr ⟨by omega, by omega, fun k hk => by omega, fun j hj => by omega⟩)
theorem RR.pl {nl ns k : Nat} {V : Mem} (h : RR nl ns V) (hk : k < 8) : RR nl ns (rPL k ns V) := by
  unfold rPL
  split
  · exact (h.pl0 hk).psub hk ns h.2.1
  · exact h
theorem RR.pall {nl ns : Nat} {V : Mem} (h : RR nl ns V) : ∀ k, k ≤ 8 → RR nl ns (rPAll ns V k)
  | 0, _ => h
  | k + 1, hk => (RR.pall h k (by omega)).pl (by omega)
theorem RR.pass {nl ns : Nat} {V : Mem} (h : RR nl ns V) : ∀ j, RR nl ns (rPass nl ns V j)
  | 0 => h
  | j + 1 => (RR.pass h j).pall nl h.1
theorem i_ge {a b : Nat} (ha : a < 2 ^ 31) (hb : b < 2 ^ 31) (h : nI a ≤ nI b) : a ≤ b := (nI_leI ha hb).mp h
theorem i_lt {a b : Nat} (ha : a < 2 ^ 31) (hb : b < 2 ^ 31) (h : nI a < nI b) : a < b := (nI_ltI ha hb).mp h
theorem RR.measA {nl ns k : Nat} {p n r as' : Int32} {V : Mem} (h : RR nl ns V) (hk : k < 8) (hr : rateR r) : RR nl ns (rMeasA k p n r as' V) := by
  have h1 := (h.mv (x := wor p n r - V 225 (3 + 22 * k + 3)) hk (show 3 < 17 by omega))
  have h2 := (h1.mv (x := as' - (rMv k 3 (wor p n r - V 225 (3 + 22 * k + 3)) V) 225 (3 + 22 * k + 4)) hk (show 7 < 17 by omega))
  have h3 := h2.put (a := 225) (b := 3 + 22 * k) (x := p) (Or.inr ⟨by omega, by omega, fun k hk => by omega, fun j hj => by omega⟩)
  have h4 := h3.put (a := 225) (b := 3 + 22 * k + 1) (x := n) (Or.inr ⟨by omega, by omega, fun k hk => by omega, fun j hj => by omega⟩)
  have h5 : RR nl ns (mset _ 225 (3 + 22 * k + 2) r) := ⟨h4.1, h4.2.1, by rw [mset_ne (by omega)]; exact h4.2.2.1, by rw [mset_ne (by omega)]; exact h4.2.2.2.1, fun j hj => by
      by_cases hjk : j = k
      · subst hjk; rw [mset_at]; exact hr
      · rw [mset_ne (by omega)]; exact h4.2.2.2.2.1 j hj, fun q hq => by rw [mset_ne (by have := h4.2.1; omega)]; exact h4.2.2.2.2.2 q hq⟩
  have h6 := h5.put (a := 225) (b := 3 + 22 * k + 3) (x := wor p n r) (Or.inr ⟨by omega, by omega, fun k hk => by omega, fun j hj => by omega⟩)
  exact h6.put (a := 225) (b := 3 + 22 * k + 4) (x := as') (Or.inr ⟨by omega, by omega, fun k hk => by omega, fun j hj => by omega⟩)
theorem RR.meas {nl ns k : Nat} {p n r : Int32} {V : Mem} (h : RR nl ns V) (hk : k < 8) (hr : rateR r) : RR nl ns (rMeas k p n r ns V) := (RR.measA h hk hr).cut hk ns h.2.1
theorem rAs_lt {k : Nat} {th : Int32} {V : Mem} (h : V 225 (3 + 22 * k + 4) + (th - V 225 (3 + 22 * k + 3)) < 0) : nI 0 = rAs k th V := by unfold rAs; rw [if_pos h]
theorem rAs_ge {k : Nat} {th : Int32} {V : Mem} (h : ¬ V 225 (3 + 22 * k + 4) + (th - V 225 (3 + 22 * k + 3)) < 0) : V 225 (3 + 22 * k + 4) + (th - V 225 (3 + 22 * k + 3)) = rAs k th V := by unfold rAs; rw [if_neg h]
theorem RR.row {nl ns : Nat} {V V' : Mem} (h : RR nl ns V) (e : V' 225 = V 225) : RR nl ns V' := h.of (by rw [e]) (by rw [e]) (fun _ _ => by rw [e]) (fun _ _ => by rw [e])
theorem RR.aside {nl ns : Nat} {V : Mem} (h : RR nl ns V) : RR nl ns (rAside V) := h.row (rAside_row (by decide))
theorem RR.pln {nl ns k : Nat} {V : Mem} (h : RR nl ns V) (hk : k < 8) : ∀ i, RR nl ns (rPLn k ns V i)
  | 0 => h
  | i + 1 => (RR.pln h hk i).pl hk
theorem oI_none {x : Option Nat} (h : oI x = -1) (hx : ∀ b, x = some b → b < 8) : x = none := by
  cases x with
  | none => rfl
  | some b =>
    have h8 := hx b rfl
    exfalso
    have h2 : nI b = -1 := h
    have h3 : (nI b).toInt = (-1 : Int32).toInt := by rw [h2]
    rw [nI_toInt (by omega)] at h3
    have h4 : (-1 : Int32).toInt = -1 := by decide
    omega
theorem oI_some {x : Option Nat} (h : ¬ oI x = -1) : ∃ b, x = some b := by
  cases x with
  | none => exact absurd rfl h
  | some b => exact ⟨b, rfl⟩
theorem rateN {n : Nat} (h : n ≤ 2000) : rateR (nI n) := ⟨nI_le (by omega) (by omega), nI_le h (by omega)⟩
theorem rSave_row {V : Mem} {sv a : Nat} (h1 : a ≠ 224) (h2 : a ≠ 226) : rSave sv V a = V a := by
  funext b
  unfold rSave
  split
  · unfold rSave6
    show mset _ 224 3 _ a b = _
    rw [mset_ne (by omega), rCp_ne h2, mset_ne (by omega), rSh_ne h2]
  · unfold rSaveL
    show mset _ 224 3 _ a b = _
    rw [mset_ne (by omega), rCp_ne h2]
theorem isL {nl ns k : Nat} {V : Mem} (h : RR nl ns V) (hk : k < nl) : nI 0 ≤ nI k ∧ nI k ≤ V 225 0 - nI 1 := by
  have h8 := h.1
  rw [h.2.2.1, pk_sub (by omega)]
  exact ⟨nI_le (by omega) (by omega), nI_le (by omega) (by omega)⟩
theorem isS {nl ns k : Nat} {V : Mem} (h : RR nl ns V) (hk : k < ns) : nI 0 ≤ nI k ∧ nI k ≤ V 225 1 - nI 1 := by
  have h8 := h.2.1
  rw [h.2.2.2.1, pk_sub (by omega)]
  exact ⟨nI_le (by omega) (by omega), nI_le (by omega) (by omega)⟩
theorem inN {a b c : Nat} (h1 : a ≤ b) (h2 : b ≤ c) (h3 : c < 2 ^ 31) : nI a ≤ nI b ∧ nI b ≤ nI c := ⟨nI_le h1 (by omega), nI_le h2 h3⟩
abbrev thr (c : Nat) (V : Mem) : Mem := mset V 224 6 (nI c)
def rEnd (k : Nat) (t fee : Int32) (V : Mem) : Mem :=
  let b := 3 + 22 * k
  let part := prt (V 225 (b + 4)) t
  let V1 := mset V 225 b (V 225 b - prt (V 225 b) t)
  let th := wor (V1 225 b) (V1 225 (b + 1)) (V1 225 (b + 2))
  let less := V1 225 (b + 3) - th
  let V2 := mset V1 225 (b + 3) th
  let V3 := mset V2 225 (b + 4) (V2 225 (b + 4) - part)
  rMv k 16 fee (rMv k 8 part (rMv k 4 less V3))
def rEndR (k : Nat) (t fee : Int32) (V : Mem) : Int32 :=
  let b := 3 + 22 * k
  let part := prt (V 225 (b + 4)) t
  let V1 := mset V 225 b (V 225 b - prt (V 225 b) t)
  let th := wor (V1 225 b) (V1 225 (b + 1)) (V1 225 (b + 2))
  V1 225 (b + 3) - th - part - fee
def rImp (k : Nat) (a : Int32) (V : Mem) : Mem := rMv k 10 a (mset V 225 (3 + 22 * k + 4) (V 225 (3 + 22 * k + 4) - a))
def rSubl (k ns : Nat) (t rc n : Int32) (V : Mem) : Mem :=
  let b := 3 + 22 * k
  let q := 179 + 6 * ns
  let V4 := mset (mset (mset (mset V 225 q (nI k)) 225 (q + 1) t) 225 (q + 2) rc) 225 (q + 3) n
  let V5 := mset V4 225 (q + 4) (V4 225 (b + 2))
  let V6 := mset V5 225 (q + 5) (wor rc n (V5 225 (b + 2)))
  let part := prt (V6 225 (b + 4)) t
  let V7 := mset V6 225 (b + 4) (V6 225 (b + 4) - part)
  let V8 := rMv k 9 part V7
  let V9 := rMv k 11 (V8 225 (q + 5)) V8
  mset V9 225 1 (V9 225 1 + nI 1)
