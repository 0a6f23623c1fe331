/-! TEXTS: one lease -/
theorem pB_0 {W : Mem} {x : Int32} (h : W 221 1 = nI 0) (hx : x ≠ nI 42) : pB W x = -1 := by
  unfold pB
  rw [if_neg hx, h]
  split
  · rw [if_neg (by decide)]
  · split
    · rw [if_neg (by decide)]
    · split
      · rw [if_neg (by decide)]
      · rfl
theorem pB_1 {W : Mem} {x : Int32} (h : W 221 1 = nI 1) (hx : x ≠ nI 64) : pB W x = -1 := by
  unfold pB
  rw [h]
  split
  · rw [if_neg (by decide)]
  · split
    · rw [if_neg (by decide)]
    · split
      · rw [if_neg (by decide)]
      · first | rfl | rw [if_neg hx]
theorem pB_2 {W : Mem} {x : Int32} {pt : Nat} (h : W 221 1 = nI pt) (h2 : 2 ≤ pt) (h4 : pt < 4) (hx : x ≠ nI 59) (hx2 : pt = 2 → x ≠ nI 43) : pB W x = -1 := by
  unfold pB
  rw [h]
  rcases (show pt = 2 ∨ pt = 3 by omega) with rfl | rfl
  · rw [if_neg (hx2 rfl), if_neg hx]
    split
    · rw [if_neg (by decide)]
    · split
      · rw [if_neg (by decide)]
      · rfl
  · rw [if_neg hx]
    split
    · rw [if_neg (by decide)]
    · split
      · rw [if_neg (by decide)]
      · split
        · rw [if_neg (by decide)]
        · rfl
theorem RI.half {W : Mem} {pt dn : Nat} {v : Option Nat} (h : RI W pt v dn) (hc : pt < 2 ∨ v = none) : ¬ (nI 2 ≤ W 221 1 ∧ 0 < W 221 2) := by
  rintro ⟨z1, z2⟩
  rcases hc with c | c
  · rw [h.2.1, nI_leI (by omega) (by omega)] at z1
    omega
  · rw [h.2.2.1, h.2.2.2.2.1 c] at z2
    exact absurd z2 (by decide)
theorem upd_ne {f : Nat → Int32} {i j : Nat} {x : Int32} (h : j ≠ i) : upd f i x j = f j := if_neg h
theorem pPart_T {B : Nat → Int32} {bm m pl : Nat} {T : Nat → Int32} {i : Nat} (hi : i < 4 * m) : (pPart B bm m pl T).2.2.2 i = T i := by
  by_cases h1 : qE1 B bm pl
  · rw [pPart_1 h1]; exact upd_ne (by omega)
  · by_cases h2 : qE2 B bm pl
    · rw [pPart_2 h1 h2]; exact (upd_ne (by omega)).trans (upd_ne (by omega))
    · by_cases h3 : (qA3 B bm pl).1 = none
      · rw [pPart_3 h1 h2 h3]; exact (upd_ne (by omega)).trans ((upd_ne (by omega)).trans (upd_ne (by omega)))
      · by_cases h4 : nx B bm (qA3 B bm pl).2 = nI 43
        · rw [pPart_4 h1 h2 h3 h4]; exact (upd_ne (by omega)).trans ((upd_ne (by omega)).trans ((upd_ne (by omega)).trans (upd_ne (by omega))))
        · rw [pPart_5 h1 h2 h3 h4]; exact (upd_ne (by omega)).trans ((upd_ne (by omega)).trans ((upd_ne (by omega)).trans (upd_ne (by omega))))
/-- a lease read whole, the reader at q -/
def RdW (V : Mem) (bm q : Nat) : Prop := ∃ pt x dn, 2 ≤ pt ∧ RI (tkI V q) pt (some x) dn ∧ dn ≤ q ∧ pAcc (V 220) bm (loP pt) (hiP pt) (some x) q = none ∧ (pt = 2 → nx (V 220) bm q ≠ nI 43)
def NB (T : Nat → Int32) (m : Nat) : Prop := money (T (4 * m)) ∧ termR (T (4 * m + 1)) ∧ rateR (T (4 * m + 2)) ∧ money (T (4 * m + 3))
theorem nB_m {x : Nat} (h : x ≤ 100000) : money (nI x) := ⟨nI_le (by omega) (by omega), nI_le (by omega) (by omega)⟩
/-- one lease: what the model says of it, and the reader behind it -/
def PT (V : Mem) (bm m pl : Nat) (r : Bool × Nat × Nat × (Nat → Int32)) : Prop :=
  okT V r.2.1 ∧ (r.1 = false → (r.2.1 < bm → ¬ tkOk (tkI V r.2.1) (V 220 r.2.1)) ∧ ¬ (nI 2 ≤ tkI V r.2.1 221 1 ∧ 0 < tkI V r.2.1 221 2)) ∧ (r.1 = true → RdW V bm r.2.1 ∧ (∀ w, w < 4 → rdNum (tkI V r.2.1) w = r.2.2.2 (4 * m + w)) ∧ NB r.2.2.2 m ∧ ∀ i, pl ≤ i → i < r.2.1 → V 220 i ≠ nI 59)
theorem PT.f {V : Mem} {bm m pl q m' pt dn : Nat} {T' : Nat → Int32} {v : Option Nat} (h60 : bm ≤ 60) (ho : okT V q) (h : RI (tkI V q) pt v dn) (hd : dn ≤ q) (ha : pAcc (V 220) bm (loP pt) (hiP pt) v q = none) (hs : q < bm → v = none ∨ pB (tkI V q) (V 220 q) = -1) (hc : pt < 2 ∨ v = none) : PT V bm m pl (false, q, m', T') := 
  ⟨ho, fun _ => ⟨fun hq => h.stop hd h60 hq ha (hs hq), h.half hc⟩, fun z => by cases z⟩
theorem rdNum_le {W : Mem} {pt w : Nat} (hp : W 221 1 = nI pt) (h4 : pt < 4) (hw : w ≤ pt) : rdNum W w = W 222 w := by
  unfold rdNum
  rw [hp, nI_clN (by omega), if_pos hw]
theorem rdNum_gt {W : Mem} {pt w : Nat} (hp : W 221 1 = nI pt) (h4 : pt < 4) (hw : pt < w) : rdNum W w = nI 0 := by
  unfold rdNum
  rw [hp, nI_clN (by omega), if_neg (by omega)]
set_option maxHeartbeats 4000000 in
theorem pPart_ok {V : Mem} {bm m pl : Nat} {T : Nat → Int32} (h60 : bm ≤ 60) (hpl : pl ≤ bm) (ho : okT V pl) (h : RI (tkI V pl) 0 none 0) : PT V bm m pl (pPart (V 220) bm m pl T) := by
  obtain ⟨q1, d1, v1, e1, a2, a3, a4, a5, a6, a7, a8, a9, a10⟩ := RI.runK (pt := 0) (V := V) h60 (bm - pl) none pl 0 (by omega) (by omega) ho h
  have E1 : qA1 (V 220) bm pl = (v1, q1) := e1
  by_cases h1 : qE1 (V 220) bm pl
  · rw [pPart_1 h1, E1]
    refine PT.f h60 a3 a4 a2 a7 (fun hq => ?_) (Or.inl (by omega))
    rcases h1 with c | c
    · rw [E1] at c; exact Or.inl c
    · rw [E1] at c
      have ex : nx (V 220) bm q1 = V 220 q1 := if_pos hq
      exact Or.inr (pB_0 a4.2.1 (by rw [← ex]; exact c))
  · have h1n : nx (V 220) bm q1 = nI 42 := by
      have := Decidable.byContradiction fun q => h1 (Or.inr q)
      rw [E1] at this; exact this
    have q1b : q1 < bm := nx_lt (n := 42) h1n (by omega) (by omega)
    have ex1 : nx (V 220) bm q1 = V 220 q1 := if_pos q1b
    cases v1 with
    | none => exact absurd (Or.inl (by rw [E1])) h1
    | some x1 =>
    have c1 : V 220 q1 = nI 42 := by rw [← ex1]; exact h1n
    obtain ⟨b1, b2, b3⟩ := a4.sign (pt' := 1) a3 c1 (by decide) (by unfold pB; rw [if_pos rfl, a4.2.1]; rfl) (by omega)
    obtain ⟨q2, d2, v2, e2, k2, k3, k4, k5, k6, k7, k8, k9, k10⟩ := RI.runK (pt := 1) (V := V) h60 (bm - (q1 + 1)) none (q1 + 1) 0 (by omega) (by omega) b1 b2
    have E2 : qA2 (V 220) bm pl = (v2, q2) := by
      show pNum _ _ _ _ (bm - ((qA1 (V 220) bm pl).2 + 1)) none ((qA1 (V 220) bm pl).2 + 1) = _
      rw [E1]; exact e2
    by_cases h2 : qE2 (V 220) bm pl
    · rw [pPart_2 h1 h2, E2]
      refine PT.f h60 k3 k4 k2 k7 (fun hq => ?_) (Or.inl (by omega))
      rcases h2 with c | c
      · rw [E2] at c; exact Or.inl c
      · rw [E2] at c
        have ex : nx (V 220) bm q2 = V 220 q2 := if_pos hq
        exact Or.inr (pB_1 k4.2.1 (by rw [← ex]; exact c))
    · have h2n : nx (V 220) bm q2 = nI 64 := by
        have := Decidable.byContradiction fun q => h2 (Or.inr q)
        rw [E2] at this; exact this
      have q2b : q2 < bm := nx_lt (n := 64) h2n (by omega) (by omega)
      have ex2 : nx (V 220) bm q2 = V 220 q2 := if_pos q2b
      cases v2 with
      | none => exact absurd (Or.inl (by rw [E2])) h2
      | some x2 =>
      have c2 : V 220 q2 = nI 64 := by rw [← ex2]; exact h2n
      obtain ⟨r1, r2, r3⟩ := k4.sign (pt' := 2) k3 c2 (by decide) (by unfold pB; rw [if_neg (by decide), if_neg (by decide), if_neg (by decide), if_pos rfl, k4.2.1]; rfl) (by omega)
      obtain ⟨q3, d3, v3, e3, s2, s3, s4, s5, s6, s7, s8, s9, s10⟩ := RI.runK (pt := 2) (V := V) h60 (bm - (q2 + 1)) none (q2 + 1) 0 (by omega) (by omega) r1 r2
      have E3 : qA3 (V 220) bm pl = (v3, q3) := by
        show pNum _ _ _ _ (bm - ((qA2 (V 220) bm pl).2 + 1)) none ((qA2 (V 220) bm pl).2 + 1) = _
        rw [E2]; exact e3
      by_cases h3 : (qA3 (V 220) bm pl).1 = none
      · rw [pPart_3 h1 h2 h3, E3]
        rw [E3] at h3
        exact PT.f h60 s3 s4 s2 s7 (fun _ => Or.inl h3) (Or.inr h3)
      · cases v3 with
        | none => exact absurd (by rw [E3]) h3
        | some x3 =>
        have f1 := a10 x1 rfl
        have f2 := k10 x2 rfl
        have f3 := s10 x3 rfl
        have g1 : x1 ≤ 100000 := by rcases f1.2 with z | z; cases z; exact z
        have g2 : 1 ≤ x2 ∧ x2 ≤ 60 := ⟨by rcases f2.1 with z | z; cases z; exact z, by rcases f2.2 with z | z; cases z; exact z⟩
        have g3 : x3 ≤ 2000 := by rcases f3.2 with z | z; cases z; exact z
        have n1 : tkI V q3 222 0 = nI x1 := by rw [s8 0 (by omega), r3, k8 0 (by omega), b3]; exact (a4.2.2.2.2.2 x1 rfl).2.1
        have n2 : tkI V q3 222 1 = nI x2 := by rw [s8 1 (by omega), r3]; exact (k4.2.2.2.2.2 x2 rfl).2.1
        have n3 : tkI V q3 222 2 = nI x3 := (s4.2.2.2.2.2 x3 rfl).2.1
        have noS : ∀ i, pl ≤ i → i < q3 → V 220 i ≠ nI 59 := by
          intro i i1 i2
          rcases Nat.lt_trichotomy i q1 with z | z | z
          · exact a9 i i1 z
          · rw [z, c1]; decide
          · rcases Nat.lt_trichotomy i q2 with y | y | y
            · exact k9 i (by omega) y
            · rw [y, c2]; decide
            · exact s9 i (by omega) i2
        by_cases h4 : nx (V 220) bm (qA3 (V 220) bm pl).2 = nI 43
        · rw [pPart_4 h1 h2 h3 h4]
          have h4' : nx (V 220) bm q3 = nI 43 := by rw [E3] at h4; exact h4
          have q3b : q3 < bm := nx_lt (n := 43) h4' (by omega) (by omega)
          have ex3 : nx (V 220) bm q3 = V 220 q3 := if_pos q3b
          have c3 : V 220 q3 = nI 43 := by rw [← ex3]; exact h4'
          obtain ⟨t1, t2, t3⟩ := s4.sign (pt' := 3) s3 c3 (by decide) (by unfold pB; rw [if_neg (by decide), if_pos rfl, s4.2.1]; rfl) (by omega)
          obtain ⟨q4, d4, v4, e4, u2, u3, u4, u5, u6, u7, u8, u9, u10⟩ := RI.runK (pt := 3) (V := V) h60 (bm - (q3 + 1)) none (q3 + 1) 0 (by omega) (by omega) t1 t2
          have E4 : qA4 (V 220) bm pl = (v4, q4) := by
            show pNum _ _ _ _ (bm - ((qA3 (V 220) bm pl).2 + 1)) none ((qA3 (V 220) bm pl).2 + 1) = _
            rw [E3]; exact e4
          rw [E4]
          cases v4 with
          | none => exact PT.f h60 u3 u4 u2 u7 (fun _ => Or.inl rfl) (Or.inr rfl)
          | some x4 =>
            have f4 := u10 x4 rfl
            have g4 : x4 ≤ 100000 := by rcases f4.2 with z | z; cases z; exact z
            refine ⟨u3, (fun z => by cases z), fun _ => ⟨⟨3, x4, d4, by omega, u4, u2, u7, (by omega)⟩, ?_, ?_, ?_⟩⟩
            · have w0 : tkI V q4 222 0 = nI x1 := by rw [u8 0 (by omega), t3]; exact n1
              have w1 : tkI V q4 222 1 = nI x2 := by rw [u8 1 (by omega), t3]; exact n2
              have w2 : tkI V q4 222 2 = nI x3 := by rw [u8 2 (by omega), t3]; exact n3
              have w3 : tkI V q4 222 3 = nI x4 := (u4.2.2.2.2.2 x4 rfl).2.1
              intro w hw
              show rdNum (tkI V q4) w = upd (qT3 (V 220) bm m pl T) (4 * m + 3) (oI (some x4)) (4 * m + w)
              rw [rdNum_le u4.2.1 (by omega) (by omega)]
              rcases (show w = 0 ∨ w = 1 ∨ w = 2 ∨ w = 3 by omega) with rfl | rfl | rfl | rfl
              · rw [upd_ne (by omega), qT3, upd_ne (by omega), qT2, upd_ne (by omega), qT1, w0, E1]; exact upd_at.symm
              · rw [upd_ne (by omega), qT3, upd_ne (by omega), qT2, w1, E2]; exact upd_at.symm
              · rw [upd_ne (by omega), qT3, w2, E3]; exact upd_at.symm
              · rw [w3]; exact upd_at.symm
            · show NB (upd (qT3 (V 220) bm m pl T) (4 * m + 3) (oI (some x4))) m
              refine ⟨?_, ?_, ?_, ?_⟩
              · rw [upd_ne (by omega), qT3, upd_ne (by omega), qT2, upd_ne (by omega), qT1, E1]
                exact upd_at (f := T) ▸ nB_m g1
              · rw [upd_ne (by omega), qT3, upd_ne (by omega), qT2, upd_at, E2]
                exact ⟨nI_le (by omega) (by omega), nI_le (by omega) (by omega)⟩
              · rw [upd_ne (by omega), qT3, upd_at, E3]
                exact ⟨nI_le (by omega) (by omega), nI_le (by omega) (by omega)⟩
              · rw [upd_at]; exact nB_m g4
            · intro i i1 i2
              have i2' : i < q4 := i2
              rcases Nat.lt_trichotomy i q3 with z | z | z
              · exact noS i i1 z
              · rw [z, c3]; decide
              · exact u9 i (by omega) i2'
        · rw [pPart_5 h1 h2 h3 h4, E3]
          have h4' : ¬ nx (V 220) bm q3 = nI 43 := by rw [E3] at h4; exact h4
          refine ⟨s3, (fun z => by cases z), fun _ => ⟨⟨2, x3, d3, by omega, s4, s2, s7, fun _ => h4'⟩, ?_, ?_, noS⟩⟩
          · intro w hw
            show rdNum (tkI V q3) w = upd (qT3 (V 220) bm m pl T) (4 * m + 3) (nI 0) (4 * m + w)
            rcases (show w = 0 ∨ w = 1 ∨ w = 2 ∨ w = 3 by omega) with rfl | rfl | rfl | rfl
            · rw [rdNum_le s4.2.1 (by omega) (by omega), upd_ne (by omega), qT3, upd_ne (by omega), qT2, upd_ne (by omega), qT1, n1, E1]; exact upd_at.symm
            · rw [rdNum_le s4.2.1 (by omega) (by omega), upd_ne (by omega), qT3, upd_ne (by omega), qT2, n2, E2]; exact upd_at.symm
            · rw [rdNum_le s4.2.1 (by omega) (by omega), upd_ne (by omega), qT3, n3, E3]; exact upd_at.symm
            · rw [rdNum_gt s4.2.1 (by omega) (by omega)]; exact upd_at.symm
          · show NB (upd (qT3 (V 220) bm m pl T) (4 * m + 3) (nI 0)) m
            refine ⟨?_, ?_, ?_, ?_⟩
            · rw [upd_ne (by omega), qT3, upd_ne (by omega), qT2, upd_ne (by omega), qT1, upd_at, E1]; exact nB_m g1
            · rw [upd_ne (by omega), qT3, upd_ne (by omega), qT2, upd_at, E2]
              exact ⟨nI_le (by omega) (by omega), nI_le (by omega) (by omega)⟩
            · rw [upd_ne (by omega), qT3, upd_at, E3]
              exact ⟨nI_le (by omega) (by omega), nI_le (by omega) (by omega)⟩
            · rw [upd_at]; exact nB_m (by omega)
