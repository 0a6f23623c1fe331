/-! TEXTS: opening them -/
theorem mset_cg {V V' : Mem} {k i : Nat} {x : Int32} (h : V k = V' k) : mset V k i x k = mset V' k i x k := by
  funext b
  by_cases e : b = i
  · rw [e, mset_at, mset_at]
  · rw [mset_ne (fun z => e z.2), mset_ne (fun z => e z.2), h]
theorem tkM_cg {W W' : Mem} {c : Int32} (h1 : W 221 = W' 221) (h2 : W 222 = W' 222) : tkM W c 221 = tkM W' c 221 ∧ tkM W c 222 = tkM W' c 222 := by
  have ok : tkOk W c ↔ tkOk W' c := by
    unfold tkOk tdOk tsOk tdN tdA pB
    rw [h1, h2]
  unfold tkM
  by_cases hk : tkOk W c
  · rw [if_pos hk, if_pos (ok.mp hk)]
    by_cases hD : isD c
    · rw [if_pos hD, if_pos hD]
      unfold tdM tdN tdA
      rw [h1, h2]
      refine ⟨mset_cg ?_, ?_⟩
      · rw [mset_o (by omega), mset_o (by omega)]; exact h1
      · rw [mset_o (show 222 ≠ 221 by omega), mset_o (show 222 ≠ 221 by omega)]; exact mset_cg h2
    · rw [if_neg hD, if_neg hD]
      unfold tsM pB
      rw [h1]
      refine ⟨mset_cg (mset_cg h1), ?_⟩
      rw [mset_o (by omega), mset_o (by omega), mset_o (by omega), mset_o (by omega)]
      exact h2
  · rw [if_neg hk, if_neg (mt ok.mpr hk)]
    exact ⟨h1, h2⟩
theorem cRd_o {n r : Nat} {W : Mem} (h8 : n ≤ 8) (h : 30 < r) : cRd n W r = W r := by
  unfold cRd
  exact cAddL_o (by omega) (by omega) (by omega)
/-- the reader of the opening is the reader of the reading -/
theorem otS_tk {nl : Nat} {V : Mem} : ∀ (q : Nat), nl + cntS V q ≤ 8 → otS nl V (rdR V) q 221 = tkI V q 221 ∧ otS nl V (rdR V) q 222 = tkI V q 222
  | 0, _ => ⟨rfl, rfl⟩
  | q + 1, h => by
    have hm := cntS_mono (V := V) (q := q) 1
    have ih := otS_tk (nl := nl) (V := V) q (by omega)
    show tkM (if V 220 q = nI 59 then cRd (nl + cntS V q) (otS nl V (rdR V) q) else otS nl V (rdR V) q) (V 220 q) 221 = tkM (tkI V q) (V 220 q) 221 ∧ tkM (if V 220 q = nI 59 then cRd (nl + cntS V q) (otS nl V (rdR V) q) else otS nl V (rdR V) q) (V 220 q) 222 = tkM (tkI V q) (V 220 q) 222
    refine tkM_cg ?_ ?_
    · split
      · rw [cRd_o (by omega) (by omega)]; exact ih.1
      · exact ih.1
    · split
      · rw [cRd_o (by omega) (by omega)]; exact ih.2
      · exact ih.2
theorem rdNum_cg {W W' : Mem} {w : Nat} (h1 : W 221 = W' 221) (h2 : W 222 = W' 222) : rdNum W w = rdNum W' w := by unfold rdNum; rw [h1, h2]
/-- one lease opened on both sides -/
theorem rd_both {n ns j : Nat} {X Z : Mem} {T : Nat → Int32} (hR : Rl n ns X Z) (hV : VI n ns X) (h8 : n < 8) (hn : ∀ w, w < 4 → rdNum X w = T (4 * j + w)) (hB : NB T j) : Rl (n + 1) ns (cRd n X) (rOpn n (T (4 * j)) (T (4 * j + 1)) (T (4 * j + 2)) (T (4 * j + 3)) Z) ∧ VI (n + 1) ns (cRd n X) := by
  have e0 : rdNum X 0 = T (4 * j) := hn 0 (by omega)
  unfold cRd
  rw [e0, hn 1 (by omega), hn 2 (by omega), hn 3 (by omega)]
  exact ⟨hR.opn h8 hV.1.2.1.2, hV.opn h8 hB.1 ⟨Int32.le_trans (by decide) hB.2.1.1, hB.2.1.2⟩ hB.2.2.1⟩
theorem ot_both {nl ns m : Nat} {V Z : Mem} {T : Nat → Int32} (hR : Rl nl ns V Z) (hV : VI nl ns V) (h8 : nl + cntS V m + 1 ≤ 8) (hn : ∀ q, q < m → V 220 q = nI 59 → ∀ w, w < 4 → rdNum (tkI V q) w = T (4 * cntS V q + w)) (hB : ∀ j, j ≤ cntS V m → NB T j) : ∀ q, q ≤ m → Rl (nl + cntS V q) ns (otS nl V (rdR V) q) (rOA T nl Z (cntS V q)) ∧ VI (nl + cntS V q) ns (otS nl V (rdR V) q)
  | 0, _ => ⟨hR.rows (by omega) hV.1.2.1.2 (fun r hr => rdR_o (by omega)) rfl, hV.rows (fun r hr => rdR_o (by omega))⟩
  | q + 1, hq => by
    have ih := ot_both hR hV h8 hn hB q (by omega)
    have hm := cntS_mono (V := V) (q := q + 1) (m - (q + 1))
    rw [show q + 1 + (m - (q + 1)) = m by omega] at hm
    have hm2 := cntS_mono (V := V) (q := q) 1
    have h12 := hV.1.2.1.2
    show Rl (nl + cntS V (q + 1)) ns (tkM (if V 220 q = nI 59 then cRd (nl + cntS V q) (otS nl V (rdR V) q) else otS nl V (rdR V) q) (V 220 q)) (rOA T nl Z (cntS V (q + 1))) ∧ VI (nl + cntS V (q + 1)) ns (tkM (if V 220 q = nI 59 then cRd (nl + cntS V q) (otS nl V (rdR V) q) else otS nl V (rdR V) q) (V 220 q))
    by_cases hx : V 220 q = nI 59
    · have ec : cntS V (q + 1) = cntS V q + 1 := by rw [cntS, if_pos hx]
      have tk := otS_tk (nl := nl) (V := V) q (by omega)
      have g := rd_both ih.1 ih.2 (by omega) (fun w hw => (rdNum_cg tk.1 tk.2).trans (hn q (by omega) hx w hw)) (hB (cntS V q) (by omega))
      rw [if_pos hx, ec]
      exact ⟨g.1.rows (by omega) h12 (fun r hr => tkM_o (by omega) (by omega)) rfl, g.2.rows (fun r hr => tkM_o (by omega) (by omega))⟩
    · have ec : cntS V (q + 1) = cntS V q := by rw [cntS, if_neg hx]
      rw [if_neg hx, ec]
      exact ⟨ih.1.rows (by omega) h12 (fun r hr => tkM_o (by omega) (by omega)) rfl, ih.2.rows (fun r hr => tkM_o (by omega) (by omega))⟩
theorem ota_both {nl ns m : Nat} {V Z : Mem} {T : Nat → Int32} (hR : Rl nl ns V Z) (hV : VI nl ns V) (h8 : nl + cntS V m + 1 ≤ 8) (hn : ∀ q, q < m → V 220 q = nI 59 → ∀ w, w < 4 → rdNum (tkI V q) w = T (4 * cntS V q + w)) (hn2 : ∀ w, w < 4 → rdNum (tkI V m) w = T (4 * cntS V m + w)) (hB : ∀ j, j ≤ cntS V m → NB T j) : Rl (nl + cntS V m + 1) ns (otA nl m V) (rOA T nl Z (cntS V m + 1)) ∧ VI (nl + cntS V m + 1) ns (otA nl m V) := by
  have g := ot_both hR hV h8 hn hB m (Nat.le_refl _)
  have tk := otS_tk (nl := nl) (V := V) m (by omega)
  exact rd_both g.1 g.2 (by omega) (fun w hw => (rdNum_cg tk.1 tk.2).trans (hn2 w hw)) (hB (cntS V m) (Nat.le_refl _))
/-- rows that the opening leaves -/
theorem otS_o {nl r : Nat} {V W : Mem} (h1 : r ≠ 221) (h2 : r ≠ 222) (h : 30 < r) : ∀ q, nl + cntS V q ≤ 8 → otS nl V W q r = W r
  | 0, _ => rfl
  | q + 1, hq => by
    have hm2 := cntS_mono (V := V) (q := q) 1
    show tkM _ _ r = _
    rw [tkM_o h1 h2]
    split
    · rw [cRd_o (by omega) h]; exact otS_o h1 h2 h q (by omega)
    · exact otS_o h1 h2 h q (by omega)
theorem otA_o {nl m r : Nat} {V : Mem} (h1 : r ≠ 221) (h2 : r ≠ 222) (h : 30 < r) (h8 : nl + cntS V m + 1 ≤ 8) : otA nl m V r = V r := by
  unfold otA
  rw [cRd_o (by omega) h, otS_o h1 h2 h m (by omega), rdR_o h1]
