/-! THE LAW'S STEPS: openAll, undo, share, digest -/
section CHG3
variable {l : Launch} {g : GC} {V : Mem} {L : LMem} {nl ns o n bm : Nat}
theorem IV.rdk (h : IV nl ns o n bm V) : IV nl ns o n bm (rdA bm V).2 :=
  h.keep (fun r hr h1 h2 => rdA_o h1 h2) (rdA_r h.hr2) (rdA_o (by omega) (by omega)) (rdA_o (by omega) (by omega)) (rdA_o (by omega) (by omega)) (by rw [rdA_o (by omega) (by omega)]) (by rw [rdA_o (by omega) (by omega)])
theorem cnt_le60 {V : Mem} {bm : Nat} {T : Nat → Int32} (h60 : bm ≤ 60) (hF : FA V bm (pAll (V 220) bm T)) (ho : (pAll (V 220) bm T).1 = true ∧ (pAll (V 220) bm T).2.1 = bm) : (pAll (V 220) bm T).2.2.1 ≤ 56 ∧ cntS V bm + 1 = (pAll (V 220) bm T).2.2.1 := by
  have := (hF.2.2.2 ho).1
  omega
set_option maxHeartbeats 1000000 in
theorem s_openAll (hf : l.stackTraces = false) (h : IV nl ns o n bm V) : StL (WX_openAll l g V L) (MX_openAll l g) := by
  have hF := pAll_ok (V := V) (T := (rdA bm V).2 229) h.b60
  by_cases hok : rdOk bm V
  · have ho := hF.2.2.1.mpr hok
    have hc := cnt_le60 h.b60 hF ho
    by_cases h8 : nl + cntS V bm + 1 ≤ 8
    · -- opened
      have hI := h.rdk
      have e220 : (rdA bm V).2 220 = V 220 := rdA_o (by omega) (by omega)
      have hV0 : opS o n nl ns bm V = cSave o n nl ns (rdA bm V).2 := rfl
      have hVs : VI nl ns (opS o n nl ns bm V) := hI.vs
      have hGs : GM (opS o n nl ns bm V) := hI.gs
      have hoo : ∀ r, r < 31 ∨ 217 < r → opS o n nl ns bm V r = (rdA bm V).2 r := fun r hr => hI.s8 hr
      have hc0 : cntS (opS o n nl ns bm V) bm = cntS V bm := cntS_row (by rw [hoo 220 (by omega), e220]) bm
      have h8' : nl + cntS (opS o n nl ns bm V) bm + 1 ≤ 8 := by rw [hc0]; exact h8
      have hr2S : rateR (opS o n nl ns bm V 222 2) := by rw [hoo 222 (by omega)]; exact rdA_r h.hr2
      -- the reader's second walk
      have hF2 := pAll_ok (V := opS o n nl ns bm V) (T := (rdA bm V).2 229) h.b60
      rw [hoo 220 (by omega), e220] at hF2
      have hN := hF2.2.2.2 ho
      have hW := w_openAll (L := L) (c_X6_openAll (l := l) (g := g) (L := L) h.2.2.1 h.1.1 h.bm1 h.b60 h.hr2 hok h8)
      have hlo : ∀ r, 31 ≤ r → r ≠ 221 → r ≠ 222 → otA nl bm (opS o n nl ns bm V) r = opS o n nl ns bm V r := fun r h1 h2 h3 => otA_o h2 h3 (by omega) h8'
      have hr2A : rateR (otA nl bm (opS o n nl ns bm V) 222 2) := by
        have hO : OI nl 0 bm (opS o n nl ns bm V) (rdR (opS o n nl ns bm V)) := ⟨⟨by rw [rdR_o (by omega), hoo 0 (by omega), rdA_o (by omega) (by omega)]; exact h.c0, by show nl + 0 ≤ 8; have := h.h8; omega⟩, rdR_P, by rw [rdR_o (by omega)]; exact hr2S, by rw [rdR_o (by omega), hoo 219 (by omega), rdA_o (by omega) (by omega)]; exact h.bm1, rdR_o (by omega)⟩
        have := (hO.at h8' bm (Nat.le_refl _)).2.2.1
        show rateR (cRd _ _ 222 2)
        rw [cRd_o (by omega) (by omega)]
        exact this
      have hG1 : GM (otA nl bm (opS o n nl ns bm V)) := hGs.ota h8'
      have h4 : otA nl bm (opS o n nl ns bm V) 0 4 = V 0 4 := by rw [otA_4 h8', hoo 0 (by omega), rdA_o (by omega) (by omega)]
      obtain ⟨r, hr⟩ : ∃ r, r = pAll (V 220) bm ((rdA bm V).2 229) := ⟨_, rfl⟩
      rw [← hr] at ho hc hN hF2
      -- the class's memory
      obtain ⟨V1, hV1⟩ : ∃ V1, V1 = mset (otA nl bm (opS o n nl ns bm V)) 219 1 (nI 0) := ⟨_, rfl⟩
      rw [← hV1] at hW
      have c2 : ∀ a, 224 ≤ a → V1 a = V a := fun a ha => by rw [hV1, mset_o (by omega), hlo a (by omega) (by omega) (by omega), hoo a (by omega), rdA_o (by omega) (by omega)]
      have c1 : ∀ a, 31 ≤ a → a < 219 → V1 a = cSave o n nl ns (rdA bm V).2 a := fun a h1 h2 => by rw [hV1, mset_o (by omega), hlo a (by omega) (by omega) (by omega)]; rfl
      have p1 : pAll (V1 228) bm (V1 229) = r := by rw [c2 228 (by omega), c2 229 (by omega), ← h.bf, hr, rdA_o (by omega) (by omega)]
      have hRR : RR nl ns V1 := h.rr1 c2
      have hM := c_X7_openAll_ok (l := l) (g := g) (V := V1) (L := lset L 1 (nI (nl + cntS V bm + 1)).toInt64) (bm := bm) (by rw [c2 224 (by omega)]; exact h.bm2) h.b60 hRR (by rw [p1]; exact ho) (by rw [p1]; omega) (by
        rw [p1]
        intro j hj
        have := (hN.2.2.2 j (by omega)).2.2.1
        exact this) (h.sv1 c2) h.n6
      rw [p1] at hM
      obtain ⟨Z, hZ⟩ : ∃ Z, Z = rSave n (pS (thr 0 V1) r.2.1 r.2.2.1 r.2.2.2) := ⟨_, rfl⟩
      rw [← hZ] at hM
      have hZ229 : Z 229 = r.2.2.2 := by
        rw [hZ, rSave_row (by omega) (by omega)]
        funext b
        exact pS_T
      rw [hZ229] at hM
      have z225 : Z 225 = V 225 := by rw [hZ, rSave_row (by omega) (by omega), pS_row (by omega) (by omega), th_o (by omega), c2 225 (by omega)]
      have hR0 : Rl nl ns (opS o n nl ns bm V) Z := h.2.1.rows h.h8 h.h12 (fun a ha => by rw [hoo a (by omega), rdA_o (by omega) (by omega)]) z225
      have hb := ota_both (m := bm) (T := r.2.2.2) hR0 hVs h8' hN.2.1 hN.2.2.1 hN.2.2.2
      rw [hc0] at hb
      have hm : r.2.2.1 = cntS V bm + 1 := hc.2.symm
      rw [hm, ← Nat.add_assoc] at hM
      -- z's first cells
      have hz : ∀ i, i + nl ≤ 8 → rOA r.2.2.2 nl Z i 225 0 = nI (nl + i) ∧ rOA r.2.2.2 nl Z i 225 1 = nI ns ∧ rOA r.2.2.2 nl Z i 225 2 = V 0 4 := by
        intro i
        induction i with
        | zero => exact fun _ => ⟨by show Z 225 0 = _; rw [z225]; exact h.zl, by show Z 225 1 = _; rw [z225]; exact h.zs, by show Z 225 2 = _; rw [z225]; exact h.zp⟩
        | succ i ih =>
          intro hi
          have g1 := ih (by omega)
          have fr := rOpn_fr (k := nl + i) (p := r.2.2.2 (4 * i)) (n := r.2.2.2 (4 * i + 1)) (r := r.2.2.2 (4 * i + 2)) (c := r.2.2.2 (4 * i + 3)) (Z := rOA r.2.2.2 nl Z i)
          exact ⟨fr.2.1.trans (by rw [g1.1, nI_add]; rfl), fr.2.2.1.trans g1.2.1, fr.2.2.2.trans g1.2.2⟩
      have hz1 := hz (cntS V bm + 1) (by omega)
      obtain ⟨o', n', hI2⟩ := IV.stepT (bm' := 0) (V1 := V1) (V2 := mset (rOA r.2.2.2 nl Z (cntS V bm + 1)) 224 5 (nI 0)) hI c1 (fun a ha => by rw [c2 a ha, rdA_o (by omega) (by omega)])
        (fun a ha => by rw [mset_o (by omega), rOA_row (by omega), hZ, rSave_row (by omega) (by omega), pS_row (by omega) (by omega), th_o (by omega)])
        (by rw [mset_o (by omega), rOA_row (by omega), hZ]; exact rSave_cg (pS_row (by omega) (by omega)) (pS_row (by omega) (by omega)))
        (by rw [mset_ne (by omega), rOA_row (by omega), hZ]; exact rSave_n (by rw [pS_o (by omega) (by omega), th_ne (by omega), c2 224 (by omega)]; exact h.sv) h.n6)
        (hb.2.rows (fun a ha => by rw [hV1, mset_o (by omega)]))
        (hb.1.rows (by omega) h.h12 (fun a ha => by rw [hV1, mset_o (by omega)]) (mset_o (by omega)))
        (hG1.rows (fun a ha => by rw [hV1, mset_o (by have := kd5_lt ha; omega)]))
        (by rw [mset_ne (by omega), hz1.1, ← Nat.add_assoc]) (by rw [mset_ne (by omega)]; exact hz1.2.1)
        (by rw [mset_ne (by omega), hz1.2.2, hV1, mset_ne (by omega), h4])
        (by rw [mset_ne (by omega), rOA_row (by omega), hZ, rSave_row (by omega) (by omega), pS_row (by omega) (by omega), th_o (by omega), hV1, mset_at])
        (by rw [mset_at]) (by omega)
        (by rw [mset_o (show 220 ≠ 224 by omega), mset_o (show 228 ≠ 224 by omega), rOA_row (by omega), rOA_row (by omega), hZ, rSave_row (by omega) (by omega), rSave_row (by omega) (by omega), pS_row (by omega) (by omega), pS_row (by omega) (by omega), th_o (by omega), th_o (by omega), c2 228 (by omega), hV1, mset_o (by omega), hlo 220 (by omega) (by omega) (by omega), hoo 220 (by omega), e220, h.bf])
        (by rw [mset_ne (by omega), rOA_row (by omega), hZ, rSave_row (by omega) (by omega), pS_row (by omega) (by omega), th_o (by omega), hV1, mset_ne (by omega)]; exact hr2A)
      refine ⟨0, 0, 0, V1, _, _, _, _, nl + cntS V bm + 1, ns, o', n', 0, Nat.zero_le _, Nat.zero_le _, by omega, hW, hM, ?_, fun _ => if_pos rfl, hI2⟩
      rw [mset_ne (by omega), rOA_row (by omega), hZ, rSave_o (by omega)]
      exact pS_6
    · have e8 : ∀ V1 : Mem, V1 = (rdA bm V).2 → V1 228 = V 220 := fun V1 e => by rw [e]; exact h.rd8
      have hM := c_X7_openAll_2 (l := l) (g := g) (V := (rdA bm V).2) (L := L) h.rd5 h.b60 (h.rdk.rr) (by rw [h.rd8]; exact ho) (by rw [h.rd8]; omega) (by rw [h.rd8]; omega)
      rw [h.rd8] at hM
      exact ⟨1, 6, 2, _, L, 0, _, L, nl, ns, o, n, bm, Nat.le_refl _, Nat.le_refl _, by omega, w_openAll_xIS (x_X6_openAll_IS hf h.bm1 h.b60 h.1.1.1 hok h8), hM, th_6, fun z => absurd z (by omega), h.read.th0⟩
  · have hM := c_X7_openAll_1 (l := l) (g := g) (V := (rdA bm V).2) (L := L) h.rd5 h.b60 (by rw [h.rd8]; exact fun z => hok (hF.2.2.1.mp z))
    rw [h.rd8] at hM
    exact ⟨1, 6, 1, _, L, 0, _, L, nl, ns, o, n, bm, Nat.le_refl _, Nat.le_refl _, by omega, w_openAll_xIA (x_X6_openAll_IA hf h.bm1 h.b60 hok), hM, th_6, fun z => absurd z (by omega), h.read.th0⟩
end CHG3
