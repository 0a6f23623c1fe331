/-! OTHER TERMS AND RENTS: register and class -/
theorem mset_same {V : Mem} {k i : Nat} {x : Int32} (h : x = V k i) : mset V k i x = V := by
  subst h
  funext a b
  by_cases e : a = k ∧ b = i
  · obtain ⟨rfl, rfl⟩ := e; rw [mset_at]
  · rw [mset_ne e]
theorem mset_comm {V : Mem} {k i a b : Nat} {x y : Int32} (h : k ≠ a) : mset (mset V k i x) a b y = mset (mset V a b y) k i x := by
  funext c d
  by_cases e1 : c = a ∧ d = b
  · obtain ⟨rfl, rfl⟩ := e1; rw [mset_at, mset_ne (by omega), mset_at]
  · rw [mset_ne e1]
    by_cases e2 : c = k ∧ d = i
    · obtain ⟨rfl, rfl⟩ := e2; rw [mset_at, mset_at]
    · rw [mset_ne e2, mset_ne e2, mset_ne e1]
theorem cMv_0 {k q : Nat} {V : Mem} : cMv k q (nI 0) V = V := by unfold cMv; exact mset_same i_add0
theorem cMv_add {k q : Nat} {x y : Int32} {V : Mem} : cMv k q (x + y) V = cMv k q y (cMv k q x V) := by
  unfold cMv
  funext a b
  by_cases e : a = k + 8 ∧ b = q
  · obtain ⟨rfl, rfl⟩ := e; rw [mset_at, mset_at, mset_at, Int32.add_assoc]
  · rw [mset_ne e, mset_ne e, mset_ne e]
theorem cMv_mset {a m k i : Nat} {x y : Int32} {V : Mem} (h : k ≠ a + 8) : cMv a m x (mset V k i y) = mset (cMv a m x V) k i y := by
  unfold cMv
  rw [mset_ne (by omega), mset_comm h]
theorem cCutS_mv {k q a m : Nat} {x : Int32} {W : Mem} (ha : a + 8 ≠ 19 + q) (ha2 : a + 8 ≠ 3 + k) : cCutS k q (cMv a m x W) = cMv a m x (cCutS k q W) := by
  have e1 : ∀ j, cMv a m x W (19 + q) j = W (19 + q) j := fun j => congrFun (cMv_o (by omega)) j
  have e2 : cMv a m x W (3 + k) 1 = W (3 + k) 1 := congrFun (cMv_o (by omega)) 1
  have e3 : runU (cMv a m x W) k q = runU W k q := by unfold runU; rw [e1, e1]
  unfold cCutS
  rw [e3]
  split
  · show mset (mset _ _ _ _) _ _ _ = cMv a m x (mset (mset _ _ _ _) _ _ _)
    rw [cMv_mset (by omega), cMv_mset (by omega), e1, e2]
    congr 1
    rw [mset_ne (by omega), mset_at, mset_ne (by omega), mset_ne (by omega), mset_at, mset_ne (by omega), e1, e1]
  · rfl
theorem cCut_mv {k m : Nat} {x : Int32} {W : Mem} (hk : k < 8) : ∀ i, cCut k (cMv (3 + k) m x W) i = cMv (3 + k) m x (cCut k W i)
  | 0 => rfl
  | i + 1 => by
    show cCutS k i (cCut k (cMv (3 + k) m x W) i) = cMv (3 + k) m x (cCutS k i (cCut k W i))
    rw [cCut_mv hk i, cCutS_mv (by omega) (by omega)]
theorem Lw.cut {nl ns k : Nat} {n : Int32} {C Z : Mem} (h : Lw nl ns C Z) (h8 : nl ≤ 8) (h12 : ns ≤ 12) (hk : k < nl) (hS : SI ns C) (hn : C (3 + k) 1 = n) (h1 : nI 1 ≤ n) : ∀ i, i ≤ ns → Lw nl ns (cMv (3 + k) 14 (sF (runU C k) (fun q => C (19 + q) 5 - wor (C (19 + q) 2) (mn (C (19 + q) 3) n) (C (19 + q) 4)) i) (cCut k C i)) (lCut k n Z i)
  | 0, _ => by
    show Lw nl ns (cMv (3 + k) 14 (nI 0) C) Z
    rw [cMv_0]; exact h
  | i + 1, hi => by
    have ih := Lw.cut h h8 h12 hk hS hn h1 i (by omega)
    have eD : cCut k C i (19 + i) = C (19 + i) := cCut_o i (by omega)
    have eN : cCut k C i (3 + k) 1 = n := by rw [cCut_o i (by omega)]; exact hn
    have eC : ∀ j, cMv (3 + k) 14 (sF (runU C k) (fun q => C (19 + q) 5 - wor (C (19 + q) 2) (mn (C (19 + q) 3) n) (C (19 + q) 4)) i) (cCut k C i) (19 + i) j = C (19 + i) j := fun j => by rw [cMv_o (by omega), eD]
    have w0 : lCut k n Z i 226 (4 * i) = C (19 + i) 0 := (ih.s0 (by omega)).trans (eC 0)
    have w3 : lCut k n Z i 226 (4 * i + 3) = C (19 + i) 3 := (ih.s (by omega) (by omega)).trans (eC 3)
    have w2 : lCut k n Z i 226 (4 * i + 2) = C (19 + i) 2 := (ih.s (by omega) (by omega)).trans (eC 2)
    have w4 : lCut k n Z i 227 i = C (19 + i) 4 := (ih.rt (by omega)).trans (eC 4)
    have w5 : lCut k n Z i 227 (12 + i) = C (19 + i) 5 := (ih.rc (by omega)).trans (eC 5)
    have eR : runU (cCut k C i) k i = runU C k i := by unfold runU; rw [eD]
    have h01 : (0 : Int32) < nI 1 := by decide
    show Lw nl ns (cMv (3 + k) 14 _ (cCutS k i (cCut k C i))) (lCS k n i (lCut k n Z i))
    by_cases hr : runU C k i = true
    · have hr2 : C (19 + i) 0 = nI k ∧ 0 < C (19 + i) 3 := of_decide_eq_true hr
      rw [sF, if_pos hr, cMv_add]
      unfold cCutS lCS
      rw [eR, if_pos hr, w0, w3]
      by_cases hlt : n < C (19 + i) 3
      · rw [if_pos ⟨hr2.1, hlt⟩, w2, w4, w5]
        have em : mn (cCut k C i (19 + i) 3) (cCut k C i (3 + k) 1) = n := by unfold mn; rw [eD, eN, if_pos hlt]
        have em2 : mn (C (19 + i) 3) n = n := by unfold mn; rw [if_pos hlt]
        show Lw nl ns (cMv (3 + k) 14 _ (cMv (3 + k) 14 _ (mset (mset (cCut k C i) (19 + i) 3 _) (19 + i) 5 _))) _
        rw [em, em2, mset_ne (by omega), mset_at, mset_ne (by omega), eD, cMv_mset (by omega), cMv_mset (by omega), cMv_mset (by omega), cMv_mset (by omega)]
        exact ((ih.mv14 h8 h12 hk).sput3 h8 h12 (by omega)).sput5 h8 h12 (by omega)
      · rw [if_neg (fun z => hlt z.2)]
        have em : mn (cCut k C i (19 + i) 3) (cCut k C i (3 + k) 1) = cCut k C i (19 + i) 3 := by unfold mn; rw [eD, eN, if_neg hlt]
        have em2 : mn (C (19 + i) 3) n = C (19 + i) 3 := by unfold mn; rw [if_neg hlt]
        show Lw nl ns (cMv (3 + k) 14 _ (cMv (3 + k) 14 _ (mset (mset (cCut k C i) (19 + i) 3 _) (19 + i) 5 _))) _
        rw [em, em2, mset_same (V := cCut k C i) rfl, eD, ← (hS i (by omega)).2, mset_same (by rw [eD]), Int32.sub_self]
        rw [show (0 : Int32) = nI 0 from rfl, cMv_0]
        exact ih
    · rw [sF, if_neg hr]
      unfold cCutS lCS
      rw [eR, if_neg hr, w0, w3, if_neg]
      · exact ih
      · rintro ⟨z1, z2⟩
        refine hr (decide_eq_true ⟨z1, ?_⟩)
        rw [Int32.lt_iff_toInt_lt] at z2 h01 ⊢
        rw [Int32.le_iff_toInt_le] at h1
        omega
theorem Lw.term {nl ns k : Nat} {n r : Int32} {C Z : Mem} (h : Lw nl ns C Z) (h8 : nl ≤ 8) (h12 : ns ≤ 12) (hk : k < nl) (hS : SI ns C) (h1 : nI 1 ≤ n) : Lw nl ns (cMeasSt k ns n r C) (lMeas k (Z 225 (3 * k)) n r ns Z) := by
  unfold cMeasSt lMeas cCutO cLoss
  rw [h.f0 hk, cCut_mv (by omega)]
  have h0 := h.meas0 (p := C (3 + k) 0) (n := n) (r := r) h8 h12 hk
  have en : cMeas (3 + k) (C (3 + k) 0) n r C (3 + k) 1 = n := by unfold cMeas; rw [mset_ne (by omega), mset_ne (by omega), mset_ne (by omega), mset_at]
  have hS0 : SI ns (cMeas (3 + k) (C (3 + k) 0) n r C) := fun q hq => by rw [cMeas_o (by omega) (by omega)]; exact hS q hq
  rw [en]
  exact h0.cut h8 h12 hk hS0 en h1 ns (Nat.le_refl _)
theorem lCut_id {nl ns k : Nat} {n : Int32} {C Z : Mem} (h : Lw nl ns C Z) (hp : ∀ q, q < ns → C (19 + q) 0 = nI k → C (19 + q) 3 ≤ n) : ∀ i, i ≤ ns → lCut k n Z i = Z
  | 0, _ => rfl
  | i + 1, hi => by
    show lCS k n i (lCut k n Z i) = Z
    rw [lCut_id h hp i (by omega)]
    unfold lCS
    rw [h.s0 (by omega), h.s (j := 3) (by omega) (by omega), if_neg]
    rintro ⟨z1, z2⟩
    exact absurd z2 (Int32.not_lt.mpr (hp i (by omega) z1))
theorem Lw.rent {nl ns k : Nat} {p : Int32} {C Z : Mem} (h : Lw nl ns C Z) (h8 : nl ≤ 8) (h12 : ns ≤ 12) (hk : k < nl) (hP : PSI nl ns C) : Lw nl ns (cMeas (3 + k) p (C (3 + k) 1) (C (3 + k) 2) C) (lMeas k p (Z 225 (3 * k + 1)) (Z 225 (3 * k + 2)) ns Z) := by
  unfold lMeas
  rw [h.f (j := 1) hk (by omega), h.f (j := 2) hk (by omega)]
  have h0 := h.meas0 (p := p) (n := C (3 + k) 1) (r := C (3 + k) 2) h8 h12 hk
  rw [lCut_id h0 (fun q hq e => by rw [cMeas_o (by omega) (by omega)] at e ⊢; exact hP q hq k hk e) ns (Nat.le_refl _)]
  exact h0
