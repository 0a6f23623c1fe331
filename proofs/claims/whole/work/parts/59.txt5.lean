/-! TEXTS: all leases -/
theorem cntS_eq {V : Mem} {pl : Nat} : ∀ r, (∀ i, pl ≤ i → i < pl + r → V 220 i ≠ nI 59) → cntS V (pl + r) = cntS V pl
  | 0, _ => rfl
  | r + 1, h => by
    show cntS V (pl + r + 1) = _
    rw [cntS, if_neg (h (pl + r) (by omega) (by omega)), cntS_eq r (fun i h1 h2 => h i h1 (by omega))]
theorem cntS_lt {V : Mem} {q pl : Nat} (h : q < pl) (hx : V 220 q = nI 59) : cntS V q < cntS V pl := by
  have := cntS_mono (V := V) (q := q + 1) (pl - (q + 1))
  rw [show q + 1 + (pl - (q + 1)) = pl by omega, cntS, if_pos hx] at this
  omega
theorem NB.cg {T T' : Nat → Int32} {j : Nat} (h : NB T j) (e : ∀ i, i < 4 * j + 4 → T' i = T i) : NB T' j := by
  unfold NB
  rw [e _ (by omega), e _ (by omega), e _ (by omega), e _ (by omega)]
  exact h
/-- what the model's reading and the reader's have in common -/
def FA (V : Mem) (bm : Nat) (r : Bool × Nat × Nat × (Nat → Int32)) : Prop :=
  r.2.1 ≤ bm ∧ (rdA bm V).1 = r.2.1 ∧ ((r.1 = true ∧ r.2.1 = bm) ↔ rdOk bm V) ∧ (r.1 = true ∧ r.2.1 = bm → (cntS V bm + 1 = r.2.2.1 ∧ cntS V bm + 5 ≤ bm) ∧ (∀ q, q < bm → V 220 q = nI 59 → ∀ w, w < 4 → rdNum (tkI V q) w = r.2.2.2 (4 * cntS V q + w)) ∧ (∀ w, w < 4 → rdNum (tkI V bm) w = r.2.2.2 (4 * cntS V bm + w)) ∧ ∀ j, j ≤ cntS V bm → NB r.2.2.2 j)
theorem pAre_ok_stop {V : Mem} {bm m pl : Nat} {r : Bool × Nat × Nat × (Nat → Int32)} (h60 : bm ≤ 60) (hP : PT V bm m pl r) (h1 : r.1 = true → r.2.2.1 = m + 1 ∧ pl + 5 ≤ r.2.1) (hb : r.2.1 ≤ bm) (hc : cntS V pl = m) (hn : ∀ q, q < pl → V 220 q = nI 59 → ∀ w, w < 4 → rdNum (tkI V q) w = r.2.2.2 (4 * cntS V q + w)) (hN : ∀ j, j < m → NB r.2.2.2 j) (hg : ¬ (r.1 = true ∧ nx (V 220) bm r.2.1 = nI 59)) : FA V bm r := by
  obtain ⟨a1, a2, a3⟩ := hP
  cases hr : r.1 with
  | false =>
    obtain ⟨c1, c2⟩ := a2 hr
    rcases Nat.lt_or_ge r.2.1 bm with z | z
    · have hs := a1.stop z (c1 z)
      refine ⟨hb, by rw [hs], ⟨fun q => (by rw [hr] at q; cases q.1), fun q => ?_⟩, fun q => (by rw [hr] at q; cases q.1)⟩
      have := q.1
      rw [hs] at this
      have : r.2.1 = bm := this
      omega
    · have e : r.2.1 = bm := by omega
      rw [e] at a1 c2
      have hs := a1.all
      refine ⟨hb, by rw [hs, e], ⟨fun q => (by rw [hr] at q; cases q.1), fun q => ?_⟩, fun q => (by rw [hr] at q; cases q.1)⟩
      have := q.2
      rw [hs] at this
      exact absurd this c2
  | true =>
    obtain ⟨⟨pt, x, dn, b1, b2, b3, b4, b5⟩, b6, b7, b8⟩ := a3 hr
    obtain ⟨g1, g2⟩ := h1 hr
    have hcq : cntS V r.2.1 = m := by
      have := cntS_eq (V := V) (pl := pl) (r.2.1 - pl) (fun i i1 i2 => b8 i i1 (by omega))
      rw [show pl + (r.2.1 - pl) = r.2.1 by omega] at this
      omega
    rcases Nat.lt_or_ge r.2.1 bm with z | z
    · have ex : nx (V 220) bm r.2.1 = V 220 r.2.1 := if_pos z
      have hp := pB_2 (x := V 220 r.2.1) b2.2.1 b1 b2.1 (fun y => hg ⟨hr, ex.trans y⟩) (fun y1 y2 => b5 y1 (ex.trans y2))
      have hs := a1.stop z (b2.stop b3 h60 z b4 (Or.inr hp))
      refine ⟨hb, by rw [hs], ⟨fun q => (by have := q.2; omega), fun q => ?_⟩, fun q => (by have := q.2; omega)⟩
      have := q.1
      rw [hs] at this
      have : r.2.1 = bm := this
      omega
    · have e : r.2.1 = bm := by omega
      have a1' := a1
      rw [e] at a1' hcq
      have hs := a1'.all
      have hx := b2.2.2.2.2.2 x rfl
      have h4 := b2.1
      have h6 := b2.2.2.2.1
      have hcm : nI 2 ≤ tkI V bm 221 1 ∧ 0 < tkI V bm 221 2 := by
        rw [← e, b2.2.1, b2.2.2.1]
        exact ⟨nI_le b1 (by omega), Int32.not_le.mp (nI_nle hx.1 (by omega))⟩
      refine ⟨hb, by rw [hs, e], ⟨fun _ => ?_, fun _ => ⟨hr, e⟩⟩, fun _ => ⟨⟨by rw [hcq, g1], by rw [hcq]; have := cntS_le (V := V) pl; omega⟩, ?_, ?_, ?_⟩⟩
      · show (rdA bm V).1 = bm ∧ _
        rw [hs]
        exact ⟨rfl, hcm⟩
      · intro q hq hqx w hw
        rcases Nat.lt_or_ge q pl with z | z
        · exact hn q z hqx w hw
        · exact absurd hqx (b8 q z (by omega))
      · intro w hw
        rw [hcq]
        have := b6 w hw
        rw [e] at this
        exact this
      · intro j hj
        rcases Nat.lt_or_ge j m with z | z
        · exact hN j z
        · have : j = m := by omega
          subst this
          exact b7
theorem pAre_ok {V : Mem} {bm : Nat} (h60 : bm ≤ 60) : ∀ (f m pl : Nat) (r : Bool × Nat × Nat × (Nat → Int32)), f ≤ 11 → PT V bm m pl r → (r.1 = true → r.2.2.1 = m + 1 ∧ 5 + 6 * (11 - f) ≤ r.2.1 ∧ pl + 5 ≤ r.2.1) → r.2.1 ≤ bm → cntS V pl = m → (∀ q, q < pl → V 220 q = nI 59 → ∀ w, w < 4 → rdNum (tkI V q) w = r.2.2.2 (4 * cntS V q + w)) → (∀ j, j < m → NB r.2.2.2 j) → FA V bm (pAre (V 220) bm f r) := by
  intro f
  induction f with
  | zero =>
    intro m pl r hf hP h1 hb hc hn hN
    refine pAre_ok_stop h60 hP (fun h => ⟨(h1 h).1, (h1 h).2.2⟩) hb hc hn hN ?_
    rintro ⟨z1, z2⟩
    have := (h1 z1).2.1
    have := nx_lt (n := 59) z2 (by omega) (by omega)
    omega
  | succ f ih =>
    intro m pl r hf hP h1 hb hc hn hN
    by_cases hg : r.1 = true ∧ nx (V 220) bm r.2.1 = nI 59
    · rw [pAre_go hg]
      have hlt := nx_lt (n := 59) hg.2 (by omega) (by omega)
      have hx : V 220 r.2.1 = nI 59 := by rw [← hg.2]; exact (if_pos hlt).symm
      obtain ⟨a1, _, a3⟩ := hP
      obtain ⟨⟨pt, x, dn, b1, b2, b3, b4, b5⟩, b6, b7, b8⟩ := a3 hg.1
      obtain ⟨g1, g2, g3⟩ := h1 hg.1
      have hpB : pB (tkI V r.2.1) (nI 59) = nI 0 := by
        unfold pB
        rw [if_neg (by decide), if_neg (by decide), if_pos rfl, b2.2.1, if_pos (nI_le b1 (by have := b2.1; omega))]
      obtain ⟨s1, s2, s3⟩ := b2.sign (pt' := 0) a1 hx (by decide) hpB (by omega)
      rw [g1]
      have hcq : cntS V r.2.1 = m := by
        have := cntS_eq (V := V) (pl := pl) (r.2.1 - pl) (fun i i1 i2 => b8 i i1 (by omega))
        rw [show pl + (r.2.1 - pl) = r.2.1 by omega] at this
        omega
      have hle := pPart_le (B := V 220) (bm := bm) (m := m + 1) (pl := r.2.1 + 1) (T := r.2.2.2) hlt
      refine ih (m + 1) (r.2.1 + 1) _ (by omega) (pPart_ok h60 hlt s1 s2) (fun z => ⟨(hle.2 z).2, by have := (hle.2 z).1; omega, by have := (hle.2 z).1; omega⟩) hle.1 ?_ ?_ ?_
      · rw [cntS, if_pos hx, hcq]
      · intro q hq hqx w hw
        rcases Nat.lt_or_ge q pl with z | z
        · have := cntS_lt z hqx
          rw [pPart_T (by omega)]
          exact hn q z hqx w hw
        · rcases Nat.lt_or_ge q r.2.1 with y | y
          · exact absurd hqx (b8 q z y)
          · have : q = r.2.1 := by omega
            subst this
            rw [pPart_T (by omega), hcq]
            exact b6 w hw
      · intro j hj
        refine NB.cg (T := r.2.2.2) ?_ (fun i hi => pPart_T (by omega))
        rcases Nat.lt_or_ge j m with z | z
        · exact hN j z
        · have : j = m := by omega
          subst this
          exact b7
    · rw [pAre_stop hg]
      exact pAre_ok_stop h60 hP (fun h => ⟨(h1 h).1, (h1 h).2.2⟩) hb hc hn hN hg
theorem pAll_ok {V : Mem} {bm : Nat} {T : Nat → Int32} (h60 : bm ≤ 60) : FA V bm (pAll (V 220) bm T) := by
  have hle := pPart_le (B := V 220) (bm := bm) (m := 0) (pl := 0) (T := T) (Nat.zero_le _)
  refine pAre_ok h60 11 0 0 _ (Nat.le_refl _) (pPart_ok h60 (Nat.zero_le _) (fun i hi => absurd hi (by omega)) ?_) (fun z => ⟨(hle.2 z).2, by have := (hle.2 z).1; omega, (hle.2 z).1⟩) hle.1 rfl (fun q hq => absurd hq (by omega)) (fun j hj => absurd hj (by omega))
  refine ⟨by omega, ?_, ?_, by omega, fun _ => rfl, fun x hx => by cases hx⟩
  · show rdR V 221 1 = _
    unfold rdR
    rw [mset_ne (by omega), mset_at]
  · show rdR V 221 2 = _
    unfold rdR
    rw [mset_at]
