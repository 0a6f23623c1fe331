/-! TEXTS: one character -/
def loP (pt : Nat) : Nat := if pt = 1 then 1 else 0
def hiP (pt : Nat) : Nat := if pt = 0 then 100000 else if pt = 1 then 60 else if pt = 2 then 2000 else 100000
theorem lop_N {pt : Nat} (h : pt < 4) : lopN pt = nI (loP pt) := by
  rcases (show pt = 0 ∨ pt = 1 ∨ pt = 2 ∨ pt = 3 by omega) with rfl | rfl | rfl | rfl <;> rfl
theorem mop_N {pt : Nat} (h : pt < 4) : mopN pt = nI (hiP pt) := by
  rcases (show pt = 0 ∨ pt = 1 ∨ pt = 2 ∨ pt = 3 by omega) with rfl | rfl | rfl | rfl <;> rfl
theorem hiP_le {pt : Nat} : hiP pt ≤ 100000 := by unfold hiP; (repeat' split) <;> omega
/-- the reader: in part pt, with the number v so far, of dn digits -/
def RI (W : Mem) (pt : Nat) (v : Option Nat) (dn : Nat) : Prop := pt < 4 ∧ W 221 1 = nI pt ∧ W 221 2 = nI dn ∧ dn ≤ 60 ∧ (v = none → dn = 0) ∧ ∀ x, v = some x → 0 < dn ∧ W 222 pt = nI x ∧ x ≤ 100000
theorem nI_mul (a b : Nat) : nI a * nI b = nI (a * b) := (Int32.ofNat_mul a b).symm
theorem RI.tdA {W : Mem} {pt dn : Nat} {v : Option Nat} (h : RI W pt v dn) : tdA W pt = nI (v.getD 0) := by
  unfold Jvm.Pilot.CLeaseBookLaw_law_r4542_dfcdb2.tdA
  cases v with
  | none => rw [if_pos (by rw [h.2.2.1, h.2.2.2.2.1 rfl]; rfl)]; rfl
  | some x =>
    have h1 := h.2.2.2.2.2 x rfl
    have h2 := h.2.2.2.1
    rw [if_neg (by rw [h.2.2.1]; exact nI_ne0 (by omega) (by omega)), h1.2.1]; rfl
theorem RI.digit {W : Mem} {pt dn pl bm d : Nat} {v : Option Nat} {B : Nat → Int32} (h : RI W pt v dn) (h60 : dn + 1 ≤ 60) (hd : d ≤ 9) (hdg : dg B bm pl = some d) (hc : nx B bm pl = nI 48 + nI d) : (tkOk W (nx B bm pl) ↔ pAcc B bm (loP pt) (hiP pt) v pl = some (pTh v d)) ∧ (¬ tkOk W (nx B bm pl) ↔ pAcc B bm (loP pt) (hiP pt) v pl = none) ∧ (tkOk W (nx B bm pl) → RI (tkM W (nx B bm pl)) pt (some (pTh v d)) (dn + 1)) := by
  have hiD : isD (nx B bm pl) := by rw [hc, nI_add]; exact ⟨nI_le (by omega) (by omega), nI_le (by omega) (by omega)⟩
  have e48 : nx B bm pl - nI 48 = nI d := by rw [hc]; grind
  have tk := tk_d (V := W) (x := nx B bm pl) h.2.1 h.1 hiD
  rw [e48] at tk
  have eT : tdN W pt (nI d) = nI (pTh v d) := by
    unfold tdN
    rw [h.tdA, nI_mul, nI_add]
    cases v with
    | none => simp [pTh]
    | some x => rfl
  have hx : v.getD 0 ≤ 100000 := by
    cases v with
    | none => simp
    | some x => exact (h.2.2.2.2.2 x rfl).2.2
  have hT : pTh v d ≤ 1000009 := by
    cases v with
    | none => show d ≤ _; omega
    | some x => have : x ≤ 100000 := hx; show 10 * x + d ≤ _; omega
  have hhi := hiP_le (pt := pt)
  have hlo : loP pt ≤ 1 := by unfold loP; split <;> omega
  have ok : tdOk W pt (nI d) ↔ (v ≠ some 0 ∧ loP pt ≤ pTh v d ∧ pTh v d ≤ hiP pt) := by
    show (¬ (0 < W 221 2 ∧ _) ∧ ¬ _ ∧ ¬ _) ↔ _
    rw [eT, h.tdA, lop_N h.1, mop_N h.1, Int32.not_lt, Int32.not_lt, nI_leI (by omega) (by omega), nI_leI (by omega) (by omega)]
    have e1 : (0 < W 221 2 ∧ nI (v.getD 0) = 0) ↔ v = some 0 := by
      cases v with
      | none =>
        have h0 : dn = 0 := h.2.2.2.2.1 rfl
        constructor
        · rintro ⟨z, _⟩
          rw [h.2.2.1, h0] at z
          exact absurd z (by decide)
        · intro z; cases z
      | some x =>
        have h1 := h.2.2.2.2.2 x rfl
        constructor
        · rintro ⟨_, z⟩
          have z2 : nI x = nI 0 := z
          rw [(nI_eq (by omega) (by omega)).mp z2]
        · intro z
          cases z
          exact ⟨by rw [h.2.2.1]; exact Int32.not_le.mp (nI_nle h1.1 (by omega)), rfl⟩
    rw [e1]
  have eP : pAcc B bm (loP pt) (hiP pt) v pl = if v ≠ some 0 ∧ loP pt ≤ pTh v d ∧ pTh v d ≤ hiP pt then some (pTh v d) else none := by unfold pAcc; rw [hdg]
  refine ⟨?_, ?_, fun hk => ?_⟩
  · rw [tk.1, ok, eP]
    by_cases q : v ≠ some 0 ∧ loP pt ≤ pTh v d ∧ pTh v d ≤ hiP pt
    · rw [if_pos q]; exact ⟨fun _ => rfl, fun _ => q⟩
    · rw [if_neg q]; exact ⟨fun z => absurd z q, fun z => by cases z⟩
  · rw [tk.1, ok, eP]
    by_cases q : v ≠ some 0 ∧ loP pt ≤ pTh v d ∧ pTh v d ≤ hiP pt
    · rw [if_pos q]; exact ⟨fun z => absurd q z, fun z => by cases z⟩
    · rw [if_neg q]; exact ⟨fun _ => rfl, fun _ => q⟩
  · have ht := tk.1.mp hk
    have hq := ok.mp ht
    rw [tk.2, if_pos ht]
    unfold tdM
    refine ⟨h.1, ?_, ?_, h60, (by intro z; cases z), ?_⟩
    · rw [mset_ne (by omega), mset_ne (by omega)]; exact h.2.1
    · rw [mset_at, h.2.2.1, nI_add]
    · intro x hx2
      cases hx2
      rw [mset_ne (by omega), mset_at, eT]
      exact ⟨by omega, rfl, by omega⟩
