/-! THE MODEL'S READING OF TEXTS: specs -/
/-- the memory with the reader's place, count and told row -/
def pS (V : Mem) (pl m : Nat) (T : Nat → Int32) : Mem := fun a b => if a = 224 ∧ b = 7 then nI pl else if a = 224 ∧ b = 8 then nI m else if a = 229 then T b else V a b
theorem pS_7 {V : Mem} {pl m : Nat} {T : Nat → Int32} : pS V pl m T 224 7 = nI pl := by simp [pS]
theorem pS_8 {V : Mem} {pl m : Nat} {T : Nat → Int32} : pS V pl m T 224 8 = nI m := by simp [pS]
theorem pS_T {V : Mem} {pl m b : Nat} {T : Nat → Int32} : pS V pl m T 229 b = T b := by simp [pS]
theorem pS_o {V : Mem} {pl m a b : Nat} {T : Nat → Int32} (h : a ≠ 229) (h2 : ¬ (a = 224 ∧ (b = 7 ∨ b = 8))) : pS V pl m T a b = V a b := by
  unfold pS
  rw [if_neg (by omega), if_neg (by omega), if_neg h]
theorem pS_put7 {V : Mem} {pl m q : Nat} {T : Nat → Int32} : mset (pS V pl m T) 224 7 (nI q) = pS V q m T := by
  funext a b
  simp only [mset, pS]
  by_cases h : a = 224 ∧ b = 7
  · rw [if_pos h, if_pos h]
  · rw [if_neg h, if_neg h, if_neg h]
theorem pS_put8 {V : Mem} {pl m q : Nat} {T : Nat → Int32} : mset (pS V pl m T) 224 8 (nI q) = pS V pl q T := by
  funext a b
  simp only [mset, pS]
  by_cases h : a = 224 ∧ b = 8
  · rw [if_pos h, if_neg (by omega), if_pos h]
  · rw [if_neg h, if_neg h, if_neg h]
theorem pS_putT {V : Mem} {pl m i : Nat} {x : Int32} {T : Nat → Int32} : mset (pS V pl m T) 229 i x = pS V pl m (upd T i x) := by
  funext a b
  simp only [mset, pS, upd]
  by_cases h : a = 229
  · subst h
    simp
  · simp [h]
theorem pS_id {V : Mem} {pl m : Nat} (h1 : V 224 7 = nI pl) (h2 : V 224 8 = nI m) : pS V pl m (V 229) = V := by
  funext a b
  unfold pS
  by_cases h : a = 224 ∧ b = 7
  · rw [if_pos h, h.1, h.2, h1]
  · rw [if_neg h]
    by_cases h' : a = 224 ∧ b = 8
    · rw [if_pos h', h'.1, h'.2, h2]
    · rw [if_neg h']
      by_cases h3 : a = 229
      · rw [if_pos h3, h3]
      · rw [if_neg h3]
def nx (B : Nat → Int32) (bm pl : Nat) : Int32 := if pl < bm then B pl else nI 0
/-- the digit at a place -/
def dg (B : Nat → Int32) (bm pl : Nat) : Option Nat := if nI 0 ≤ nx B bm pl - nI 48 ∧ nx B bm pl - nI 48 ≤ nI 9 then some (nx B bm pl - nI 48).toNatClampNeg else none
theorem dg_some {B : Nat → Int32} {bm pl : Nat} (h : nI 0 ≤ nx B bm pl - nI 48 ∧ nx B bm pl - nI 48 ≤ nI 9) : ∃ dn, dn ≤ 9 ∧ nx B bm pl - nI 48 = nI dn ∧ dg B bm pl = some dn ∧ pl < bm := by
  obtain ⟨j, hj, e⟩ := nI_of2 (n := 9) (by decide) (fun q => absurd h.1 (Int32.not_le.mpr q)) h.2
  refine ⟨j, hj, e, ?_, ?_⟩
  · unfold dg
    rw [if_pos h, e, nI_clamp (by omega)]
  · rcases Nat.lt_or_ge pl bm with q | q
    · exact q
    · exfalso
      have e0 : nx B bm pl = nI 0 := if_neg (by omega)
      rw [e0] at h
      exact absurd h.1 (by decide)
theorem dg_none {B : Nat → Int32} {bm pl : Nat} (h : ¬ (nI 0 ≤ nx B bm pl - nI 48 ∧ nx B bm pl - nI 48 ≤ nI 9)) : dg B bm pl = none := if_neg h
def pTh (v : Option Nat) (d : Nat) : Nat := match v with
  | none => d
  | some a => 10 * a + d
/-- what a number becomes by the digit at a place -/
def pAcc (B : Nat → Int32) (bm lo hi : Nat) (v : Option Nat) (pl : Nat) : Option Nat :=
  match dg B bm pl with
  | none => none
  | some d => if v ≠ some 0 ∧ lo ≤ pTh v d ∧ pTh v d ≤ hi then some (pTh v d) else none
def pNum (B : Nat → Int32) (bm lo hi : Nat) : Nat → Option Nat → Nat → Option Nat × Nat
  | 0, v, pl => (v, pl)
  | f + 1, v, pl => match pAcc B bm lo hi v pl with
    | none => (v, pl)
    | some t => pNum B bm lo hi f (some t) (pl + 1)
theorem pNum_some {B : Nat → Int32} {bm lo hi f pl t : Nat} {v : Option Nat} (h : pAcc B bm lo hi v pl = some t) : pNum B bm lo hi (f + 1) v pl = pNum B bm lo hi f (some t) (pl + 1) := by
  rw [pNum, h]
theorem pNum_none {B : Nat → Int32} {bm lo hi f pl : Nat} {v : Option Nat} (h : pAcc B bm lo hi v pl = none) : pNum B bm lo hi f v pl = (v, pl) := by
  cases f with
  | zero => rfl
  | succ f => rw [pNum, h]
theorem pAcc_lt {B : Nat → Int32} {bm lo hi pl t : Nat} {v : Option Nat} (h : pAcc B bm lo hi v pl = some t) : pl < bm ∧ t ≤ hi ∧ lo ≤ t := by
  unfold pAcc at h
  cases hd : dg B bm pl with
  | none => rw [hd] at h; cases h
  | some d =>
    rw [hd] at h
    have hpl : pl < bm := by
      unfold dg at hd
      split at hd
      · rename_i q
        exact (dg_some q).choose_spec.2.2.2
      · cases hd
    by_cases q : v ≠ some 0 ∧ lo ≤ pTh v d ∧ pTh v d ≤ hi
    · have h2 : some (pTh v d) = some t := by rw [← h]; exact (if_pos q).symm
      cases h2
      exact ⟨hpl, q.2.2, q.2.1⟩
    · have h2 : none = some t := by rw [← h]; exact (if_neg q).symm
      cases h2
theorem pNum_le {B : Nat → Int32} {bm lo hi : Nat} : ∀ (f : Nat) (v : Option Nat) (pl : Nat), pl ≤ bm → (pNum B bm lo hi f v pl).2 ≤ bm ∧ pl ≤ (pNum B bm lo hi f v pl).2
  | 0, v, pl, h => ⟨h, Nat.le_refl _⟩
  | f + 1, v, pl, h => by
    cases ha : pAcc B bm lo hi v pl with
    | none => rw [pNum_none ha]; exact ⟨h, Nat.le_refl _⟩
    | some t =>
      rw [pNum_some ha]
      have h1 := pAcc_lt ha
      have h2 := pNum_le (B := B) (bm := bm) (lo := lo) (hi := hi) f (some t) (pl + 1) (by omega)
      exact ⟨h2.1, by omega⟩
theorem pNum_hi {B : Nat → Int32} {bm lo hi : Nat} : ∀ (f : Nat) (v : Option Nat) (pl : Nat), (∀ a, v = some a → a ≤ hi) → ∀ a, (pNum B bm lo hi f v pl).1 = some a → a ≤ hi
  | 0, v, pl, h, a, ha => h a ha
  | f + 1, v, pl, h, a, ha => by
    cases hc : pAcc B bm lo hi v pl with
    | none => rw [pNum_none hc] at ha; exact h a ha
    | some t => rw [pNum_some hc] at ha; exact pNum_hi f (some t) (pl + 1) (fun b hb => by cases hb; exact (pAcc_lt hc).2.1) a ha
/-- a number that began has at least one sign -/
theorem pNum_one {B : Nat → Int32} {bm lo hi f pl a : Nat} (h : (pNum B bm lo hi f none pl).1 = some a) : pl + 1 ≤ (pNum B bm lo hi f none pl).2 := by
  cases f with
  | zero => cases h
  | succ f =>
    cases hc : pAcc B bm lo hi none pl with
    | none => rw [pNum_none hc] at h; cases h
    | some t =>
      rw [pNum_some hc]
      exact (pNum_le f (some t) (pl + 1) (pAcc_lt hc).1).2
abbrev qA1 (B : Nat → Int32) (bm pl : Nat) : Option Nat × Nat := pNum B bm 0 100000 (bm - pl) none pl
abbrev qA2 (B : Nat → Int32) (bm pl : Nat) : Option Nat × Nat := pNum B bm 1 60 (bm - ((qA1 B bm pl).2 + 1)) none ((qA1 B bm pl).2 + 1)
abbrev qA3 (B : Nat → Int32) (bm pl : Nat) : Option Nat × Nat := pNum B bm 0 2000 (bm - ((qA2 B bm pl).2 + 1)) none ((qA2 B bm pl).2 + 1)
abbrev qA4 (B : Nat → Int32) (bm pl : Nat) : Option Nat × Nat := pNum B bm 0 100000 (bm - ((qA3 B bm pl).2 + 1)) none ((qA3 B bm pl).2 + 1)
abbrev qT1 (B : Nat → Int32) (bm m pl : Nat) (T : Nat → Int32) : Nat → Int32 := upd T (4 * m) (oI (qA1 B bm pl).1)
abbrev qT2 (B : Nat → Int32) (bm m pl : Nat) (T : Nat → Int32) : Nat → Int32 := upd (qT1 B bm m pl T) (4 * m + 1) (oI (qA2 B bm pl).1)
abbrev qT3 (B : Nat → Int32) (bm m pl : Nat) (T : Nat → Int32) : Nat → Int32 := upd (qT2 B bm m pl T) (4 * m + 2) (oI (qA3 B bm pl).1)
abbrev qE1 (B : Nat → Int32) (bm pl : Nat) : Prop := (qA1 B bm pl).1 = none ∨ ¬ nx B bm (qA1 B bm pl).2 = nI 42
abbrev qE2 (B : Nat → Int32) (bm pl : Nat) : Prop := (qA2 B bm pl).1 = none ∨ ¬ nx B bm (qA2 B bm pl).2 = nI 64
/-- one lease as a text, from pl: whether it stands, the place behind, the count, the told numbers -/
def pPart (B : Nat → Int32) (bm m pl : Nat) (T : Nat → Int32) : Bool × Nat × Nat × (Nat → Int32) :=
  if qE1 B bm pl then (false, (qA1 B bm pl).2, m, qT1 B bm m pl T) else
  if qE2 B bm pl then (false, (qA2 B bm pl).2, m, qT2 B bm m pl T) else
  if (qA3 B bm pl).1 = none then (false, (qA3 B bm pl).2, m, qT3 B bm m pl T) else
  if nx B bm (qA3 B bm pl).2 = nI 43 then ((qA4 B bm pl).1.isSome, (qA4 B bm pl).2, m + 1, upd (qT3 B bm m pl T) (4 * m + 3) (oI (qA4 B bm pl).1))
  else (true, (qA3 B bm pl).2, m + 1, upd (qT3 B bm m pl T) (4 * m + 3) (nI 0))
theorem pPart_1 {B : Nat → Int32} {bm m pl : Nat} {T : Nat → Int32} (h : qE1 B bm pl) : pPart B bm m pl T = (false, (qA1 B bm pl).2, m, qT1 B bm m pl T) := if_pos h
theorem pPart_2 {B : Nat → Int32} {bm m pl : Nat} {T : Nat → Int32} (h : ¬ qE1 B bm pl) (h2 : qE2 B bm pl) : pPart B bm m pl T = (false, (qA2 B bm pl).2, m, qT2 B bm m pl T) := (if_neg h).trans (if_pos h2)
theorem pPart_3 {B : Nat → Int32} {bm m pl : Nat} {T : Nat → Int32} (h : ¬ qE1 B bm pl) (h2 : ¬ qE2 B bm pl) (h3 : (qA3 B bm pl).1 = none) : pPart B bm m pl T = (false, (qA3 B bm pl).2, m, qT3 B bm m pl T) := (if_neg h).trans ((if_neg h2).trans (if_pos h3))
theorem pPart_4 {B : Nat → Int32} {bm m pl : Nat} {T : Nat → Int32} (h : ¬ qE1 B bm pl) (h2 : ¬ qE2 B bm pl) (h3 : ¬ (qA3 B bm pl).1 = none) (h4 : nx B bm (qA3 B bm pl).2 = nI 43) : pPart B bm m pl T = ((qA4 B bm pl).1.isSome, (qA4 B bm pl).2, m + 1, upd (qT3 B bm m pl T) (4 * m + 3) (oI (qA4 B bm pl).1)) := (if_neg h).trans ((if_neg h2).trans ((if_neg h3).trans (if_pos h4)))
theorem pPart_5 {B : Nat → Int32} {bm m pl : Nat} {T : Nat → Int32} (h : ¬ qE1 B bm pl) (h2 : ¬ qE2 B bm pl) (h3 : ¬ (qA3 B bm pl).1 = none) (h4 : ¬ nx B bm (qA3 B bm pl).2 = nI 43) : pPart B bm m pl T = (true, (qA3 B bm pl).2, m + 1, upd (qT3 B bm m pl T) (4 * m + 3) (nI 0)) := (if_neg h).trans ((if_neg h2).trans ((if_neg h3).trans (if_neg h4)))
def pAre (B : Nat → Int32) (bm : Nat) : Nat → Bool × Nat × Nat × (Nat → Int32) → Bool × Nat × Nat × (Nat → Int32)
  | 0, r => r
  | f + 1, r => if r.1 = true ∧ nx B bm r.2.1 = nI 59 then pAre B bm f (pPart B bm r.2.2.1 (r.2.1 + 1) r.2.2.2) else r
def pAll (B : Nat → Int32) (bm : Nat) (T : Nat → Int32) : Bool × Nat × Nat × (Nat → Int32) := pAre B bm 11 (pPart B bm 0 0 T)
theorem nx_lt {B : Nat → Int32} {bm pl n : Nat} (h : nx B bm pl = nI n) (h0 : 0 < n) (hn : n < 2 ^ 31) : pl < bm := by
  unfold nx at h
  split at h
  · assumption
  · exact absurd ((nI_eq (by omega) hn).mp h) (by omega)
theorem qE1_lt {B : Nat → Int32} {bm pl : Nat} (h : ¬ qE1 B bm pl) (hp : pl ≤ bm) : (∃ a, (qA1 B bm pl).1 = some a) ∧ pl + 1 ≤ (qA1 B bm pl).2 ∧ (qA1 B bm pl).2 < bm ∧ (qA1 B bm pl).2 ≤ (qA2 B bm pl).2 - 1 ∧ (qA2 B bm pl).2 ≤ bm ∧ 1 ≤ (qA2 B bm pl).2 := by
  have s1 : (qA1 B bm pl).2 < bm := nx_lt (n := 42) (Decidable.byContradiction fun q => h (Or.inr q)) (by omega) (by omega)
  have h2 : (qA2 B bm pl).2 ≤ bm ∧ (qA1 B bm pl).2 + 1 ≤ (qA2 B bm pl).2 := pNum_le (B := B) (lo := 1) (hi := 60) (bm - ((qA1 B bm pl).2 + 1)) none ((qA1 B bm pl).2 + 1) s1
  cases hh : (qA1 B bm pl).1 with
  | none => exact absurd (Or.inl hh) h
  | some a => exact ⟨⟨a, rfl⟩, pNum_one hh, s1, by omega, h2.1, by omega⟩
theorem qE2_lt {B : Nat → Int32} {bm pl : Nat} (h1 : ¬ qE1 B bm pl) (h : ¬ qE2 B bm pl) (hp : pl ≤ bm) : (∃ a, (qA2 B bm pl).1 = some a) ∧ pl + 3 ≤ (qA2 B bm pl).2 ∧ (qA2 B bm pl).2 < bm ∧ (qA2 B bm pl).2 + 1 ≤ (qA3 B bm pl).2 ∧ (qA3 B bm pl).2 ≤ bm := by
  have g1 := qE1_lt h1 hp
  have s1 : (qA2 B bm pl).2 < bm := nx_lt (n := 64) (Decidable.byContradiction fun q => h (Or.inr q)) (by omega) (by omega)
  have h2 : (qA3 B bm pl).2 ≤ bm ∧ (qA2 B bm pl).2 + 1 ≤ (qA3 B bm pl).2 := pNum_le (B := B) (lo := 0) (hi := 2000) (bm - ((qA2 B bm pl).2 + 1)) none ((qA2 B bm pl).2 + 1) s1
  cases hh : (qA2 B bm pl).1 with
  | none => exact absurd (Or.inl hh) h
  | some a =>
    have o2 : (qA1 B bm pl).2 + 1 + 1 ≤ (qA2 B bm pl).2 := pNum_one hh
    exact ⟨⟨a, rfl⟩, by omega, s1, h2.2, h2.1⟩
theorem pPart_le {B : Nat → Int32} {bm m pl : Nat} {T : Nat → Int32} (h : pl ≤ bm) : (pPart B bm m pl T).2.1 ≤ bm ∧ ((pPart B bm m pl T).1 = true → pl + 5 ≤ (pPart B bm m pl T).2.1 ∧ (pPart B bm m pl T).2.2.1 = m + 1) := by
  by_cases h1 : qE1 B bm pl
  · rw [pPart_1 h1]
    exact ⟨(pNum_le (bm - pl) none pl h).1, fun q => by cases q⟩
  · have g1 := qE1_lt h1 h
    by_cases h2 : qE2 B bm pl
    · rw [pPart_2 h1 h2]
      exact ⟨g1.2.2.2.2.1, fun q => by cases q⟩
    · have g2 := qE2_lt h1 h2 h
      by_cases h3 : (qA3 B bm pl).1 = none
      · rw [pPart_3 h1 h2 h3]
        exact ⟨g2.2.2.2.2, fun q => by cases q⟩
      · have o3 : (qA2 B bm pl).2 + 2 ≤ (qA3 B bm pl).2 := by
          cases hh : (qA3 B bm pl).1 with
          | none => exact absurd hh h3
          | some a => exact pNum_one hh
        by_cases h4 : nx B bm (qA3 B bm pl).2 = nI 43
        · rw [pPart_4 h1 h2 h3 h4]
          have s3 : (qA3 B bm pl).2 < bm := nx_lt (n := 43) h4 (by omega) (by omega)
          have g4 := pNum_le (B := B) (lo := 0) (hi := 100000) (bm - ((qA3 B bm pl).2 + 1)) none ((qA3 B bm pl).2 + 1) s3
          exact ⟨g4.1, fun _ => ⟨Nat.le_trans (show pl + 5 ≤ (qA3 B bm pl).2 + 1 by omega) g4.2, rfl⟩⟩
        · rw [pPart_5 h1 h2 h3 h4]
          exact ⟨g2.2.2.2.2, fun _ => ⟨show pl + 5 ≤ (qA3 B bm pl).2 by omega, rfl⟩⟩
theorem upd_at {f : Nat → Int32} {i : Nat} {x : Int32} : upd f i x i = x := if_pos rfl
theorem oI_nb {x : Option Nat} {n : Nat} (h : oI x = -1) (hx : ∀ b, x = some b → b ≤ n) (hn : n < 2 ^ 31) : x = none := by
  cases x with
  | none => rfl
  | some b =>
    exfalso
    have hb := hx b rfl
    have h3 : (nI b).toInt = (-1 : Int32).toInt := congrArg Int32.toInt h
    rw [nI_toInt (by omega)] at h3
    have h4 : (-1 : Int32).toInt = -1 := by decide
    omega
theorem oI_sb {x : Option Nat} (h : ¬ oI x = -1) : ¬ x = none := fun z => h (by rw [z]; rfl)
theorem oI_ne {a : Nat} (h : a < 2 ^ 31) : ¬ oI (some a) = -1 := by
  intro z
  have h2 : nI a = -1 := z
  have h3 : (nI a).toInt = (-1 : Int32).toInt := by rw [h2]
  rw [nI_toInt h] at h3
  have h4 : (-1 : Int32).toInt = -1 := by decide
  omega
