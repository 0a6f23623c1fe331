/-! THE LAW'S STEPS: texts and undo -/
section CHG2
variable {l : Launch} {g : GC} {V : Mem} {L : LMem} {nl ns o n bm : Nat}
theorem IV.hV (h : IV nl ns o n bm V) : VI nl ns V := h.1
theorem IV.bm1 (h : IV nl ns o n bm V) : V 219 1 = nI bm := h.2.2.2.2.2.2.1
theorem IV.bm2 (h : IV nl ns o n bm V) : V 224 5 = nI bm := h.2.2.2.2.2.2.2.1
theorem IV.b60 (h : IV nl ns o n bm V) : bm ≤ 60 := h.2.2.2.2.2.2.2.2.1
theorem IV.bf (h : IV nl ns o n bm V) : V 220 = V 228 := h.2.2.2.2.2.2.2.2.2.1
theorem IV.hr2 (h : IV nl ns o n bm V) : rateR (V 222 2) := h.2.2.2.2.2.2.2.2.2.2.1
theorem kd5_lt {r : Nat} (h : kd r = 5) : r < 217 := by
  have := kd_lt h (by omega)
  unfold kd at h
  split at h <;> omega
/-- the text's cells alone have changed -/
theorem IV.txt {bm' : Nat} {V' : Mem} (h : IV nl ns o n bm V) (e1 : ∀ r, r < 219 → V' r = V r) (e2 : V' 225 = V 225) (e3 : V' 226 = V 226) (e5 : V' 224 3 = V 224 3) (b1 : V' 219 1 = nI bm') (b2 : V' 224 5 = nI bm') (hb : bm' ≤ 60) (e4 : V' 220 = V' 228) (eR : rateR (V' 222 2)) : IV nl ns o n bm' V' := by
  obtain ⟨a1, a2, a3, a4, a5, a6, a7, a8, a9, a10, a11, a12, a13, a14⟩ := h
  refine ⟨a1.rows (fun r hr => e1 r (by omega)), a2.rows a1.1.1.2 a1.1.2.1.2 (fun r hr => e1 r (by omega)) e2, ?_, a4.cg (fun r h1 h2 => e1 r (by omega)) e3, a5.rows (fun r hr => e1 r (by have := kd5_lt hr; omega)), by rw [e5]; exact a6, b1, b2, hb, e4, eR, by rw [e2]; exact a12, by rw [e2]; exact a13, by rw [e2, e1 0 (by omega)]; exact a14⟩
  unfold HI
  rw [e1 217 (by omega)]
  exact a3
theorem s_append (hf : l.stackTraces = false) (h : IV nl ns o n bm V) {x : Int32} : StL (WX_append l g V L x) (MX_append l g x) := by
  have h60 := h.b60
  by_cases hy : nI 33 ≤ x ∧ x ≤ nI 126
  · by_cases hs : bm < 60
    · have e5 : mset (thr 0 (mset (mset V 220 bm x) 219 1 (nI (bm + 1)))) 228 bm x 224 5 = nI bm := by
        rw [mset_ne (by omega), th_ne (by omega), mset_ne (by omega), mset_ne (by omega)]; exact h.bm2
      refine ⟨0, 0, 0, _, _, _, _, _, nl, ns, o, n, bm + 1, Nat.zero_le _, Nat.zero_le _, by omega, w_append (L := L) (c_X6_append h.bm1 hs hy), c_X7_append_ok hy (by rw [mset_ne (by omega), mset_ne (by omega)]; exact h.bm2) hs, ?_, ?_, ?_⟩
      · rw [mset_ne (by omega), mset_ne (by omega)]; exact th_6
      · intro _
        rw [e5, nI_add]
        exact if_pos rfl
      · refine h.txt (fun r hr => ?_) ?_ ?_ ?_ ?_ ?_ (by omega) ?_ ?_
        · rw [mset_o (by omega), mset_o (by omega), th_o (by omega), mset_o (by omega), mset_o (by omega)]
        · rw [mset_o (by omega), mset_o (by omega), th_o (by omega), mset_o (by omega), mset_o (by omega)]
        · rw [mset_o (by omega), mset_o (by omega), th_o (by omega), mset_o (by omega), mset_o (by omega)]
        · rw [mset_ne (by omega), mset_ne (by omega), th_ne (by omega), mset_ne (by omega), mset_ne (by omega)]
        · rw [mset_ne (by omega), mset_ne (by omega), th_o (by omega), mset_at]
        · rw [mset_at, e5, nI_add]
        · rw [mset_o (show 220 ≠ 224 by omega), mset_o (show 220 ≠ 228 by omega), th_o (by omega), mset_o (show 220 ≠ 219 by omega), mset_upd, mset_o (show 228 ≠ 224 by omega), mset_upd, th_o (by omega), mset_o (show 228 ≠ 219 by omega), mset_o (show 228 ≠ 220 by omega), h.bf]
        · rw [mset_ne (by omega), mset_ne (by omega), th_o (by omega), mset_ne (by omega), mset_ne (by omega)]; exact h.hr2
    · have e : bm = 60 := by omega
      exact StL.no h 2 (by omega) (by omega) (w_append_xIS (x_X6_append_IS hf hy (by rw [h.bm1, e]; decide))) (c_X7_append_2 hy (by rw [h.bm2, e]))
  · exact StL.no h 1 (by omega) (by omega) (w_append_xIA (x_X6_append_IA hf hy)) (c_X7_append_1 hy)
theorem s_clearBuffer (h : IV nl ns o n bm V) : ∃ (x : Int32) (V1 V2 : Mem), MC l yX6_clearBuffer cX6_clearBuffer 2 (some .int) 5 g V L [.ref (ad g 223)] (some (.int x)) V1 L ∧ MC l yX7_clearBuffer cX7_clearBuffer 2 (some .int) 0 g V1 L [.ref (ad g 224)] (some (.int x)) V2 L ∧ IV nl ns o n 0 V2 := by
  have e5 : thr 0 (mset V 219 1 (nI 0)) 224 5 = V 219 1 := by rw [th_ne (by omega), mset_ne (by omega), h.bm2, h.bm1]
  have hM := c_X7_clearBuffer (l := l) (g := g) (V := mset V 219 1 (nI 0)) (L := L)
  rw [e5] at hM
  refine ⟨_, _, _, c_X6_clearBuffer, hM, ?_⟩
  refine h.txt (fun r hr => ?_) ?_ ?_ ?_ ?_ ?_ (by omega) ?_ ?_
  · rw [mset_o (by omega), th_o (by omega), mset_o (by omega)]
  · rw [mset_o (by omega), th_o (by omega), mset_o (by omega)]
  · rw [mset_o (by omega), th_o (by omega), mset_o (by omega)]
  · rw [mset_ne (by omega), th_ne (by omega), mset_ne (by omega)]
  · rw [mset_ne (by omega), th_o (by omega), mset_at]
  · rw [mset_at]
  · rw [mset_o (show 220 ≠ 224 by omega), th_o (by omega), mset_o (show 220 ≠ 219 by omega), mset_o (show 228 ≠ 224 by omega), th_o (by omega), mset_o (show 228 ≠ 219 by omega), h.bf]
  · rw [mset_ne (by omega), th_o (by omega), mset_ne (by omega)]; exact h.hr2
/-- both have read the text -/
theorem IV.read (h : IV nl ns o n bm V) {pl m c : Nat} {T : Nat → Int32} : IV nl ns o n bm (pS (thr c (rdA bm V).2) pl m T) := by
  have o' : ∀ r, r ≠ 221 → r ≠ 222 → r ≠ 224 → r ≠ 229 → pS (thr c (rdA bm V).2) pl m T r = V r := fun r h1 h2 h3 h4 => by rw [pS_row h3 h4, th_o h3, rdA_o h1 h2]
  refine h.keep (fun r hr h1 h2 => o' r h1 h2 (by omega) (by omega)) ?_ (o' 225 (by omega) (by omega) (by omega) (by omega)) (o' 226 (by omega) (by omega) (by omega) (by omega)) (o' 228 (by omega) (by omega) (by omega) (by omega)) ?_ ?_
  · rw [pS_row (by omega) (by omega), th_o (by omega)]; exact rdA_r h.hr2
  · rw [pS_o (by omega) (by omega), th_ne (by omega), rdA_o (by omega) (by omega)]
  · rw [pS_o (by omega) (by omega), th_ne (by omega), rdA_o (by omega) (by omega)]
theorem pS_6 {c pl m : Nat} {T : Nat → Int32} {W : Mem} : pS (thr c W) pl m T 224 6 = nI c := by rw [pS_o (by omega) (by omega)]; exact th_6
theorem IV.rd8 (h : IV nl ns o n bm V) : (rdA bm V).2 228 = V 220 := by rw [rdA_o (by omega) (by omega), h.bf]
theorem IV.rd5 (h : IV nl ns o n bm V) : (rdA bm V).2 224 5 = nI bm := by rw [rdA_o (by omega) (by omega)]; exact h.bm2
theorem s_firstError (h : IV nl ns o n bm V) : ∃ (x : Int32) (V1 V2 : Mem), MC l yX6_firstError cX6_firstError 1 (some .int) 5 g V L [.ref (ad g 223)] (some (.int x)) V1 L ∧ MC l yX7_firstError cX7_firstError 1 (some .int) 4 g V1 L [.ref (ad g 224)] (some (.int x)) V2 L ∧ IV nl ns o n bm V2 := by
  have hM := c_X7_firstError (l := l) (g := g) (V := (rdA bm V).2) (L := L) h.rd5 h.b60
  rw [h.rd8] at hM
  have hF := pAll_ok (V := V) (T := (rdA bm V).2 229) h.b60
  have e : (if (pAll (V 220) bm ((rdA bm V).2 229)).1 = true ∧ (pAll (V 220) bm ((rdA bm V).2 229)).2.1 = bm then bm else (pAll (V 220) bm ((rdA bm V).2 229)).2.1) = (rdA bm V).1 := by
    rw [hF.2.1]
    split
    · rename_i z; exact z.2.symm
    · rfl
  rw [e] at hM
  exact ⟨_, _, _, c_X6_firstError h.bm1 h.b60, hM, h.read⟩
theorem rSave_cg {W W' : Mem} {n : Nat} (h1 : W 225 = W' 225) (h2 : W 226 = W' 226) : rSave n W 226 = rSave n W' 226 := by
  funext b
  unfold rSave
  split
  · unfold rSave6
    show mset _ 224 3 _ 226 b = mset _ 224 3 _ 226 b
    rw [mset_ne (by omega), mset_ne (by omega)]
    unfold rCp
    by_cases hb : 251 * 5 ≤ b ∧ b < 251 * 5 + 251
    · rw [if_pos ⟨rfl, hb.1, hb.2⟩, if_pos ⟨rfl, hb.1, hb.2⟩, mset_ne (by omega), mset_ne (by omega), rSh_ne (by omega), rSh_ne (by omega), h1]
    · rw [if_neg (fun z => hb z.2), if_neg (fun z => hb z.2), mset_ne (by omega), mset_ne (by omega)]
      unfold rSh
      rw [h2]
  · unfold rSaveL
    show mset _ 224 3 _ 226 b = mset _ 224 3 _ 226 b
    rw [mset_ne (by omega), mset_ne (by omega)]
    unfold rCp
    by_cases hb : 251 * n ≤ b ∧ b < 251 * n + 251
    · rw [if_pos ⟨rfl, hb.1, hb.2⟩, if_pos ⟨rfl, hb.1, hb.2⟩, h1]
    · rw [if_neg (fun z => hb z.2), if_neg (fun z => hb z.2), h2]
/-- both have saved, changed `now`, and emptied the text -/
theorem IV.stepT {nl' ns' bm' : Nat} {V1 V2 : Mem} (h : IV nl ns o n bm V) (c1 : ∀ r, 31 ≤ r → r < 219 → V1 r = cSave o n nl ns V r) (c2 : ∀ r, 224 ≤ r → V1 r = V r)
    (m1 : ∀ a, a < 224 → V2 a = V1 a) (m2 : V2 226 = rSave n (thr 0 V1) 226) (m3 : V2 224 3 = nI (if n = 6 then 6 else n + 1)) (hV : VI nl' ns' V1) (hR : Rl nl' ns' V1 V2) (hG : GM V1) (z0 : V2 225 0 = nI nl') (z1 : V2 225 1 = nI ns') (z2 : V2 225 2 = V1 0 4) (b1 : V2 219 1 = nI bm') (b2 : V2 224 5 = nI bm') (hb : bm' ≤ 60) (e4 : V2 220 = V2 228) (eR : rateR (V2 222 2)) : ∃ o' n', IV nl' ns' o' n' bm' V2 := by
  -- a memory that differs from V2 in the text alone
  obtain ⟨W, hW1, hW2, hW3⟩ : ∃ W : Mem, (∀ r, r < 219 → W r = V2 r) ∧ (∀ r, 219 ≤ r → r < 224 → W r = V r) ∧ (W 225 = V2 225 ∧ ∀ a, 224 ≤ a → a ≠ 225 → W a = rSave n (thr 0 V1) a) :=
    ⟨fun r => if r < 219 then V2 r else if r < 224 then V r else if r = 225 then V2 225 else rSave n (thr 0 V1) r, fun r hr => if_pos hr, fun r h1 h2 => (if_neg (by omega)).trans (if_pos h2), (if_neg (by omega)).trans ((if_neg (by omega)).trans (if_pos rfl)), fun a h1 h2 => (if_neg (by omega)).trans ((if_neg (by omega)).trans (if_neg h2))⟩
  obtain ⟨U, hU1, hU2, hU3⟩ : ∃ U : Mem, (∀ r, r < 219 → U r = V1 r) ∧ (∀ r, 219 ≤ r → r < 224 → U r = V r) ∧ ∀ r, 224 ≤ r → U r = V1 r :=
    ⟨fun r => if r < 219 then V1 r else if r < 224 then V r else V1 r, fun r hr => if_pos hr, fun r h1 h2 => (if_neg (by omega)).trans (if_pos h2), fun r h1 => (if_neg (by omega)).trans (if_neg (by omega))⟩
  have h8 := h.h8
  have h12 := h.h12
  have eS : ∀ a, a ≠ 225 → 224 ≤ a → rSave n (thr 0 U) a = rSave n (thr 0 V1) a := by
    intro a h1 h2
    by_cases e : a = 226
    · subst e
      exact rSave_cg (by rw [th_o (by omega), th_o (by omega), hU3 225 (by omega)]) (by rw [th_o (by omega), th_o (by omega), hU3 226 (by omega)])
    · by_cases e2 : a = 224
      · subst e2
        funext b
        by_cases eb : b = 3
        · subst eb
          have t : ∀ X : Mem, X 224 = V 224 → thr 0 X 224 3 = nI n := fun X hX => by rw [th_ne (by omega), hX]; exact h.sv
          rw [rSave_n (t U (by rw [hU3 224 (by omega), c2 224 (by omega)])) h.n6, rSave_n (t V1 (c2 224 (by omega))) h.n6]
        · rw [rSave_o eb, rSave_o eb]
          by_cases e6 : b = 6
          · subst e6; rw [th_6, th_6]
          · rw [th_ne e6, th_ne e6, hU3 224 (by omega)]
      · rw [rSave_row e2 e, rSave_row e2 e, th_o e2, th_o e2, hU3 a h2]
  have hIW : ∃ o' n', IV nl' ns' o' n' bm W := by
    refine h.step (V1 := U) (fun r r1 r2 => ?_) (fun r hr => by rw [hU3 r hr, c2 r hr]) (fun a ha => ?_) (hV.rows (fun r hr => hU1 r (by omega))) (hR.rows hV.1.1.2 hV.1.2.1.2 (fun r hr => hU1 r (by omega)) hW3.1) (hG.rows (fun r hr => hU1 r (by have := kd5_lt hr; omega))) (by rw [hW3.1]; exact z0) (by rw [hW3.1]; exact z1) (by rw [hW3.1, hU1 0 (by omega)]; exact z2)
    · rcases Nat.lt_or_ge r 219 with q | q
      · rw [hU1 r q, c1 r r1 q]
      · rw [hU2 r q r2, cSave_o h8 h12 (by omega)]
    · rcases Nat.lt_or_ge a 224 with q | q
      · rw [rSave_row (by omega) (by omega), th_o (by omega)]
        rcases Nat.lt_or_ge a 219 with q2 | q2
        · rw [hW1 a q2, hU1 a q2, m1 a q]
        · rw [hW2 a q2 q, hU2 a q2 q]
      · rw [hW3.2 a q ha, eS a ha q]
  obtain ⟨o', n', hI⟩ := hIW
  refine ⟨o', n', hI.txt (fun r hr => (hW1 r hr).symm) hW3.1.symm (by rw [m2, hW3.2 226 (by omega) (by omega)]) ?_ b1 b2 hb e4 eR⟩
  rw [m3, hW3.2 224 (by omega) (by omega), rSave_n (by rw [th_ne (by omega), c2 224 (by omega)]; exact h.sv) h.n6]
end CHG2
