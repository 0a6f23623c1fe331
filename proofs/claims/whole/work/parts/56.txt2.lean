/-! TEXTS: one number -/
theorem dg_c {B : Nat → Int32} {bm pl d : Nat} (h : dg B bm pl = some d) : d ≤ 9 ∧ nx B bm pl = nI 48 + nI d ∧ pl < bm := by
  by_cases hc : nI 0 ≤ nx B bm pl - nI 48 ∧ nx B bm pl - nI 48 ≤ nI 9
  · obtain ⟨dn, h1, h2, h3, h4⟩ := dg_some hc
    rw [h3] at h
    cases h
    exact ⟨h1, by rw [← h2]; grind, h4⟩
  · rw [dg_none hc] at h; cases h
theorem pAcc_dg {B : Nat → Int32} {bm lo hi pl t : Nat} {v : Option Nat} (h : pAcc B bm lo hi v pl = some t) : ∃ d, dg B bm pl = some d ∧ t = pTh v d := by
  unfold pAcc at h
  cases hd : dg B bm pl with
  | none => rw [hd] at h; cases h
  | some d =>
    rw [hd] at h
    dsimp only at h
    split at h
    · cases h; exact ⟨d, rfl, rfl⟩
    · cases h
/-- the reader runs over a number of the model's -/
theorem RI.run {bm pt : Nat} {B : Nat → Int32} : ∀ (f : Nat) (v : Option Nat) (pl dn : Nat) (W : Mem), pl + f = bm → dn + f ≤ 60 → RI W pt v dn → W 220 = B → ∃ (W' : Mem) (dn' : Nat), rdL f pl W = rdL (bm - (pNum B bm (loP pt) (hiP pt) f v pl).2) (pNum B bm (loP pt) (hiP pt) f v pl).2 W' ∧ RI W' pt (pNum B bm (loP pt) (hiP pt) f v pl).1 dn' ∧ dn' + (bm - (pNum B bm (loP pt) (hiP pt) f v pl).2) ≤ 60 ∧ pl ≤ (pNum B bm (loP pt) (hiP pt) f v pl).2 ∧ (pNum B bm (loP pt) (hiP pt) f v pl).2 ≤ bm ∧ pAcc B bm (loP pt) (hiP pt) (pNum B bm (loP pt) (hiP pt) f v pl).1 (pNum B bm (loP pt) (hiP pt) f v pl).2 = none ∧ (∀ r, r ≠ 221 → r ≠ 222 → W' r = W r) ∧ ∀ i, i ≠ pt → W' 222 i = W 222 i
  | 0, v, pl, dn, W, hf, h60, h, hB => by
    refine ⟨W, dn, ?_, h, by show dn + (bm - pl) ≤ 60; omega, Nat.le_refl _, by show pl ≤ bm; omega, ?_, fun _ _ _ => rfl, fun _ _ => rfl⟩
    · show rdL 0 pl W = rdL (bm - pl) pl W
      rw [show bm - pl = 0 by omega]
    · show pAcc B bm _ _ v pl = none
      cases hp : pAcc B bm (loP pt) (hiP pt) v pl with
      | none => rfl
      | some t => exact absurd (pAcc_lt hp).1 (by omega)
  | f + 1, v, pl, dn, W, hf, h60, h, hB => by
    have ex : nx B bm pl = W 220 pl := by unfold nx; rw [if_pos (by omega), hB]
    cases hp : pAcc B bm (loP pt) (hiP pt) v pl with
    | none =>
      rw [pNum_none hp]
      refine ⟨W, dn, ?_, h, by show dn + (bm - pl) ≤ 60; omega, Nat.le_refl _, by show pl ≤ bm; omega, hp, fun _ _ _ => rfl, fun _ _ => rfl⟩
      show rdL (f + 1) pl W = rdL (bm - pl) pl W
      rw [show bm - pl = f + 1 by omega]
    | some t =>
      obtain ⟨d, hd, rfl⟩ := pAcc_dg hp
      have c := dg_c hd
      have st := h.digit (by omega) c.1 hd c.2.1
      have hk := st.1.mpr hp
      have ht := st.2.2 hk
      rw [ex] at hk ht
      rw [pNum_some hp]
      have ho : ∀ r, r ≠ 221 → r ≠ 222 → tkM W (W 220 pl) r = W r := fun r h1 h2 => tkM_o h1 h2
      obtain ⟨W', dn', g1, g2, g3, g4, g5, g6, g7, g8⟩ := RI.run (bm := bm) (pt := pt) (B := B) f (some (pTh v d)) (pl + 1) (dn + 1) (tkM W (W 220 pl)) (by omega) (by omega) ht ((ho 220 (by omega) (by omega)).trans hB)
      refine ⟨W', dn', by rw [rdL_t hk]; exact g1, g2, g3, by omega, g5, g6, fun r h1 h2 => (g7 r h1 h2).trans (ho r h1 h2), fun i hi => (g8 i hi).trans ?_⟩
      have hiD : isD (W 220 pl) := by rw [← ex, c.2.1, nI_add]; exact ⟨nI_le (by omega) (by omega), nI_le (by omega) (by omega)⟩
      have tk := tk_d (V := W) h.2.1 h.1 hiD
      rw [tk.2]
      split
      · unfold tdM
        rw [mset_ne (by omega), mset_ne (by omega)]
      · rfl
