/-! TEXTS: the whole walk -/
def tkI (V : Mem) : Nat → Mem
  | 0 => rdR V
  | q + 1 => tkM (tkI V q) (V 220 q)
def okT (V : Mem) (q : Nat) : Prop := ∀ i, i < q → tkOk (tkI V i) (V 220 i)
theorem tkI_o {V : Mem} {r : Nat} (h1 : r ≠ 221) (h2 : r ≠ 222) : ∀ q, tkI V q r = V r
  | 0 => rdR_o h1
  | q + 1 => (tkM_o h1 h2).trans (tkI_o h1 h2 q)
theorem okT.succ {V : Mem} {q : Nat} (h : okT V q) (hk : tkOk (tkI V q) (V 220 q)) : okT V (q + 1) := fun i hi => by
  rcases Nat.lt_or_ge i q with c | c
  · exact h i c
  · have : i = q := by omega
    subst this; exact hk
theorem okT.rd {V : Mem} {m : Nat} : ∀ (q : Nat), okT V q → q ≤ m → rdA m V = rdL (m - q) q (tkI V q)
  | 0, _, _ => rfl
  | q + 1, h, hq => by
    rw [okT.rd q (fun i hi => h i (by omega)) (by omega), show m - q = (m - (q + 1)) + 1 by omega]
    have hk := h q (by omega)
    have e : tkI V q 220 = V 220 := tkI_o (by omega) (by omega) q
    rw [← congrFun e q] at hk
    rw [rdL_t hk]
    show _ = rdL _ _ (tkM (tkI V q) (V 220 q))
    rw [congrFun e q]
theorem okT.stop {V : Mem} {m q : Nat} (h : okT V q) (hq : q < m) (hk : ¬ tkOk (tkI V q) (V 220 q)) : rdA m V = (q, tkI V q) := by
  have e : tkI V q 220 = V 220 := tkI_o (by omega) (by omega) q
  have hk2 := hk
  rw [← congrFun e q] at hk2
  rw [h.rd q (by omega), show m - q = (m - (q + 1)) + 1 by omega, rdL_f hk2]
  congr 1
  unfold tkM
  rw [if_neg hk2]
theorem okT.all {V : Mem} {m : Nat} (h : okT V m) : rdA m V = (m, tkI V m) := by
  rw [h.rd m (Nat.le_refl _), Nat.sub_self]; rfl
/-- the reader runs over a number of the model's -/
theorem RI.runK {bm pt : Nat} {V : Mem} (h60 : bm ≤ 60) : ∀ (f : Nat) (v : Option Nat) (pl dn : Nat), pl + f = bm → dn ≤ pl → okT V pl → RI (tkI V pl) pt v dn → ∃ (q dn' : Nat) (v' : Option Nat), pNum (V 220) bm (loP pt) (hiP pt) f v pl = (v', q) ∧ dn' ≤ q ∧ okT V q ∧ RI (tkI V q) pt v' dn' ∧ pl ≤ q ∧ q ≤ bm ∧ pAcc (V 220) bm (loP pt) (hiP pt) v' q = none ∧ (∀ i, i ≠ pt → tkI V q 222 i = tkI V pl 222 i) ∧ (∀ i, pl ≤ i → i < q → V 220 i ≠ nI 59) ∧ (∀ x, v' = some x → (v = some x ∨ loP pt ≤ x) ∧ (v = some x ∨ x ≤ hiP pt))
  | 0, v, pl, dn, hf, hd, ho, h => by
    refine ⟨pl, dn, v, rfl, hd, ho, h, Nat.le_refl _, by omega, ?_, fun _ _ => rfl, fun i h1 h2 => absurd h2 (by omega), fun x hx => ⟨Or.inl hx, Or.inl hx⟩⟩
    cases hp : pAcc (V 220) bm (loP pt) (hiP pt) v pl with
    | none => rfl
    | some t => exact absurd (pAcc_lt hp).1 (by omega)
  | f + 1, v, pl, dn, hf, hd, ho, h => by
    have ex : nx (V 220) bm pl = V 220 pl := by unfold nx; rw [if_pos (by omega)]
    cases hp : pAcc (V 220) bm (loP pt) (hiP pt) v pl with
    | none =>
      rw [pNum_none hp]
      exact ⟨pl, dn, v, rfl, hd, ho, h, Nat.le_refl _, by omega, hp, fun _ _ => rfl, fun i h1 h2 => absurd h2 (by omega), fun x hx => ⟨Or.inl hx, Or.inl hx⟩⟩
    | some t =>
      have hlt := pAcc_lt hp
      obtain ⟨d, hdd, rfl⟩ := pAcc_dg hp
      have c := dg_c hdd
      have st := h.digit (by omega) c.1 hdd c.2.1
      have hk := st.1.mpr hp
      have ht := st.2.2 hk
      rw [ex] at hk ht
      rw [pNum_some hp]
      obtain ⟨q, dn', v', g1, g2, g3, g4, g5, g6, g7, g8, g9, g10⟩ := RI.runK h60 (V := V) (pt := pt) f (some (pTh v d)) (pl + 1) (dn + 1) (by omega) (by omega) (ho.succ hk) ht
      have hiD : isD (V 220 pl) := by rw [← ex, c.2.1, nI_add]; exact ⟨nI_le (by omega) (by omega), nI_le (by omega) (by omega)⟩
      refine ⟨q, dn', v', g1, g2, g3, g4, by omega, g6, g7, fun i hi => (g8 i hi).trans ?_, ?_, ?_⟩
      · show tkM (tkI V pl) (V 220 pl) 222 i = _
        have tk := tk_d (V := tkI V pl) h.2.1 h.1 hiD
        rw [tk.2]
        split
        · unfold tdM
          rw [mset_ne (by omega), mset_ne (by omega)]
        · rfl
      · intro i h1 h2
        rcases Nat.lt_or_ge pl i with z | z
        · exact g9 i z h2
        · have : i = pl := by omega
          subst this
          intro z2
          rw [z2] at hiD
          exact absurd hiD.2 (by decide)
      · intro x hx
        have := g10 x hx
        constructor
        · rcases this.1 with z | z
          · cases z; exact Or.inr hlt.2.2
          · exact Or.inr z
        · rcases this.2 with z | z
          · cases z; exact Or.inr hlt.2.1
          · exact Or.inr z
/-- a sign that goes on -/
theorem RI.sign {V : Mem} {q pt pt' dn x : Nat} {c : Int32} (h : RI (tkI V q) pt (some x) dn) (ho : okT V q) (hc : V 220 q = c) (hnd : ¬ isD c) (hp : pB (tkI V q) c = nI pt') (h4 : pt' < 4) : okT V (q + 1) ∧ RI (tkI V (q + 1)) pt' none 0 ∧ tkI V (q + 1) 222 = tkI V q 222 := by
  subst hc
  have tk := tk_s (V := tkI V q) hnd
  have hx := h.2.2.2.2.2 x rfl
  have hs : tsOk (tkI V q) (V 220 q) := ⟨by rw [h.2.2.1]; exact nI_ne0 hx.1 (by have := h.2.2.2.1; omega), by
    rw [hp]
    intro z
    have h3 : (nI pt').toInt = (-1 : Int32).toInt := by rw [z]
    rw [nI_toInt (by omega)] at h3
    have h4 : (-1 : Int32).toInt = -1 := by decide
    omega⟩
  have e : tkI V (q + 1) = tsM (tkI V q) (V 220 q) := by
    show tkM _ _ = _
    rw [tk.2, if_pos hs]
  refine ⟨ho.succ (tk.1.mpr hs), ?_, ?_⟩
  · rw [e]
    unfold tsM
    refine ⟨h4, ?_, ?_, by omega, fun _ => rfl, fun x hx => by cases hx⟩
    · rw [mset_ne (by omega), mset_at, hp]
    · rw [mset_at]
  · rw [e]
    unfold tsM
    rw [mset_o (by omega), mset_o (by omega)]
/-- the reader stops where the number stops, if the sign does not go on -/
theorem RI.stop {V : Mem} {bm q pt dn : Nat} {v : Option Nat} (h : RI (tkI V q) pt v dn) (hd : dn ≤ q) (h60 : bm ≤ 60) (hq : q < bm) (ha : pAcc (V 220) bm (loP pt) (hiP pt) v q = none) (hs : v = none ∨ pB (tkI V q) (V 220 q) = -1) : ¬ tkOk (tkI V q) (V 220 q) := by
  have ex : nx (V 220) bm q = V 220 q := by unfold nx; rw [if_pos hq]
  cases hdg : dg (V 220) bm q with
  | some d =>
    have c := dg_c hdg
    have st := h.digit (by omega) c.1 hdg c.2.1
    rw [ex] at st
    exact st.2.1.mpr ha
  | none =>
    have hnd : ¬ isD (V 220 q) := by
      intro hD
      have h2 : nI 0 ≤ nx (V 220) bm q - nI 48 ∧ nx (V 220) bm q - nI 48 ≤ nI 9 := by
        obtain ⟨j, hj, e⟩ := nI_of2 (n := 57) (x := V 220 q) (by decide) (fun z => absurd hD.1 (Int32.not_le.mpr (Int32.lt_of_lt_of_le z (by decide)))) hD.2
        have hj2 : 48 ≤ j := by
          have := hD.1
          rw [e, nI_leI (by omega) (by omega)] at this
          exact this
        have e2 : nI j - nI 48 = nI (j - 48) := by
          have : nI j = nI (j - 48) + nI 48 := by rw [nI_add]; congr 1; omega
          rw [this]; grind
        rw [ex, e, e2]
        exact ⟨nI_le (by omega) (by omega), nI_le (by omega) (by omega)⟩
      obtain ⟨dn, _, _, z, _⟩ := dg_some h2
      rw [z] at hdg; cases hdg
    rw [(tk_s hnd).1]
    rintro ⟨z1, z2⟩
    rcases hs with rfl | hs
    · exact z1 (by rw [h.2.2.1, h.2.2.2.2.1 rfl]; rfl)
    · exact z2 hs
