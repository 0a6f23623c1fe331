/-! THE LAW'S STEPS: changes -/
section CHG
variable {l : Launch} {g : GC} {V : Mem} {L : LMem} {nl ns o n bm : Nat}
theorem IV.s8 (h : IV nl ns o n bm V) {r : Nat} (hr : r < 31 ∨ 217 < r) : cSave o n nl ns V r = V r := cSave_o h.h8 h.h12 hr
theorem IV.vs (h : IV nl ns o n bm V) : VI nl ns (cSave o n nl ns V) := h.1.save
theorem IV.gs (h : IV nl ns o n bm V) : GM (cSave o n nl ns V) := h.2.2.2.2.1.save h.h8 h.h12
/-- the class has saved, the model saves behind it -/
theorem IV.r1 (h : IV nl ns o n bm V) {V1 : Mem} (c2 : ∀ r, 224 ≤ r → V1 r = V r) : Rl nl ns (cSave o n nl ns V) (rSave n (thr 0 V1)) :=
  h.2.1.rows h.h8 h.h12 (fun r hr => h.s8 (Or.inl hr)) (by rw [rSave_row (by omega) (by omega), th_o (by omega), c2 225 (by omega)])
theorem IV.rr1 (h : IV nl ns o n bm V) {V1 : Mem} (c2 : ∀ r, 224 ≤ r → V1 r = V r) : RR nl ns V1 := h.rr.row (c2 225 (by omega))
theorem IV.sv1 (h : IV nl ns o n bm V) {V1 : Mem} (c2 : ∀ r, 224 ≤ r → V1 r = V r) : V1 224 3 = nI n := by rw [c2 224 (by omega)]; exact h.sv
theorem IV.zz (_ : IV nl ns o n bm V) {V1 Z : Mem} (c2 : ∀ r, 224 ≤ r → V1 r = V r) (hZ : ZK (rSave n (thr 0 V1)) Z) : ∀ b, b < 3 → Z 225 b = V 225 b := fun b hb => by
  rw [hZ.2 b hb, rSave_row (by omega) (by omega), th_o (by omega), c2 225 (by omega)]
theorem s_impair (hf : l.stackTraces = false) (h : IV nl ns o n bm V) {x a : Int32} : StL (WX_impair l g V L x a) (MX_impair l g x a) := by
  rcases h.ixl x with ⟨k, hk, rfl⟩ | hb
  · by_cases hy : nI 1 ≤ a ∧ a ≤ nI 1000000
    · have e4 : V 225 (3 + 22 * k + 4) = V (3 + k) 4 := h.2.1.f hk (by omega)
      have hk8 : k < 8 := by have := h.h8; omega
      by_cases hs : a ≤ V (3 + k) 4
      · have c2 : ∀ r, 224 ≤ r → cImp (3 + k) a (cSave o n nl ns V) r = V r := fun r hr => by rw [cImp_o (by omega) (by omega), h.s8 (Or.inr (by omega))]
        have hZ : ZK (rSave n (thr 0 (cImp (3 + k) a (cSave o n nl ns V)))) (rImp k a (rSave n (thr 0 (cImp (3 + k) a (cSave o n nl ns V))))) := ZK.rfl'.imp
        have hR := (h.r1 c2).imp (a := a) h.h8 h.h12 hk
        refine StL.chg h (fun r h1 h2 => cImp_o (by omega) (by omega)) c2 (fun a ha => hZ.1 a ha) (h.vs.imp hk) hR (h.gs.imp hk8) ?_ ?_ ?_ (hR.f hk (j := 4) (by omega)).symm (w_impair (c_X6_impair h.2.2.1 h.1.1 hk hy hs)) (c_X7_impair_ok hk (h.rr1 c2) hy (by rw [c2 225 (by omega), e4]; exact hs) (h.sv1 c2) h.n6)
        · rw [h.zz c2 hZ 0 (by omega)]; exact h.zl
        · rw [h.zz c2 hZ 1 (by omega)]; exact h.zs
        · rw [h.zz c2 hZ 2 (by omega), h.zp, cImp_o (by omega) (by omega), h.s8 (Or.inl (by omega))]
      · exact StL.no h 3 (by omega) (by omega) (w_impair_xIS (x_X6_impair_IS hf h.1.1.1 hk hy hs)) (c_X7_impair_3 hk h.rr hy (by rw [e4]; exact hs))
    · exact StL.no h 2 (by omega) (by omega) (w_impair_xIA (x_X6_impair_IA hf h.1.1.1 hk hy)) (c_X7_impair_2 hk h.rr hy)
  · exact StL.no h 1 (by omega) (by omega) (w_impair_xIO (x_X6_impair_IO hf hb.1)) (c_X7_impair_1 hb.2)
theorem s_rent (hf : l.stackTraces = false) (h : IV nl ns o n bm V) {x p1 : Int32} : StL (WX_rent l g V L x p1) (MX_rent l g x p1) := by
  rcases h.ixl x with ⟨k, hk, rfl⟩ | hb
  · by_cases hy : money p1
    · have e4 : V 225 (3 + 22 * k + 1) = V (3 + k) 1 := h.2.1.f hk (by omega)
      have hk8 : k < 8 := by have := h.h8; omega
      by_cases hs : 0 < V (3 + k) 1
      · have c2 : ∀ r, 224 ≤ r → cMeas (3 + k) p1 ((cSave o n nl ns V) (3 + k) 1) ((cSave o n nl ns V) (3 + k) 2) (cSave o n nl ns V) r = V r := fun r hr => by rw [cMeas_o (by omega) (by omega), h.s8 (Or.inr (by omega))]
        have hR := (h.r1 c2).rent (p := p1) h.h8 h.h12 hk h.vs.2.2.2
        generalize hV1 : cMeas (3 + k) p1 ((cSave o n nl ns V) (3 + k) 1) ((cSave o n nl ns V) (3 + k) 2) (cSave o n nl ns V) = V1 at c2 hR
        have hZ : ZK (rSave n (thr 0 V1)) (rMeas k p1 ((rSave n (thr 0 V1)) 225 (3 + 22 * k + 1)) ((rSave n (thr 0 V1)) 225 (3 + 22 * k + 2)) ns (rSave n (thr 0 V1))) := ZK.rfl'.meas
        have hW := w_rent (L := L) (c_X6_rent (l := l) (g := g) (L := L) h.2.2.1 h.1.1 hk hy hs)
        rw [hV1] at hW
        refine StL.chg h (fun r h1 h2 => ?_) c2 (fun a ha => hZ.1 a ha) ?_ hR ?_ ?_ ?_ ?_ (hR.f hk (j := 3) (by omega)).symm hW (c_X7_rent_ok hk (h.rr1 c2) hy (by rw [c2 225 (by omega), e4]; exact hs) (h.sv1 c2) h.n6)
        · rw [← hV1, cMeas_o (by omega) (by omega)]
        · rw [← hV1]; exact h.vs.meas hk hy (h.vs.1.2.2.2.1 k hk)
        · rw [← hV1]; exact h.gs.meas hk8
        · rw [h.zz c2 hZ 0 (by omega)]; exact h.zl
        · rw [h.zz c2 hZ 1 (by omega)]; exact h.zs
        · rw [h.zz c2 hZ 2 (by omega), h.zp, ← hV1, cMeas_o (by omega) (by omega), h.s8 (Or.inl (by omega))]
      · exact StL.no h 3 (by omega) (by omega) (w_rent_xIS (x_X6_rent_IS hf h.1.1.1 hk hy hs)) (c_X7_rent_3 hk h.rr hy (by rw [e4]; exact hs))
    · exact StL.no h 2 (by omega) (by omega) (w_rent_xIA (x_X6_rent_IA hf h.1.1.1 hk hy)) (c_X7_rent_2 hk h.rr hy)
  · exact StL.no h 1 (by omega) (by omega) (w_rent_xIO (x_X6_rent_IO hf hb.1)) (c_X7_rent_1 hb.2)
theorem s_term (hf : l.stackTraces = false) (h : IV nl ns o n bm V) {x n1 r1 : Int32} : StL (WX_term l g V L x n1 r1) (MX_term l g x n1 r1) := by
  rcases h.ixl x with ⟨k, hk, rfl⟩ | hb
  · by_cases hy : termR n1 ∧ rateR r1
    · have e4 : V 225 (3 + 22 * k + 1) = V (3 + k) 1 := h.2.1.f hk (by omega)
      have hk8 : k < 8 := by have := h.h8; omega
      by_cases hs : 0 < V (3 + k) 1
      · have c2 : ∀ r, 224 ≤ r → cMeasSt k ns n1 r1 (cSave o n nl ns V) r = V r := fun r hr => by rw [cMeasSt_o h.h12 hk8 (by omega), h.s8 (Or.inr (by omega))]
        have hR := (h.r1 c2).term (n := n1) (r := r1) h.h8 h.h12 hk h.vs.2.2.1 hy.1.1
        generalize hV1 : cMeasSt k ns n1 r1 (cSave o n nl ns V) = V1 at c2 hR
        have hZ : ZK (rSave n (thr 0 V1)) (rMeas k ((rSave n (thr 0 V1)) 225 (3 + 22 * k)) n1 r1 ns (rSave n (thr 0 V1))) := ZK.rfl'.meas
        have hW := w_term (L := L) (c_X6_term (l := l) (g := g) (L := L) h.2.2.1 h.1.1 hk hy.1 hy.2 hs)
        rw [hV1] at hW
        refine StL.chg h (fun r h1 h2 => ?_) c2 (fun a ha => hZ.1 a ha) ?_ hR ?_ ?_ ?_ ?_ (hR.f hk (j := 3) (by omega)).symm hW (c_X7_term_ok hk (h.rr1 c2) hy.1 hy.2 (by rw [c2 225 (by omega), e4]; exact hs) (h.sv1 c2) h.n6)
        · rw [← hV1, cMeasSt_o h.h12 hk8 (by omega)]
        · rw [← hV1]; exact h.vs.term hk hy.1 hy.2
        · rw [← hV1]; exact h.gs.term hk8
        · rw [h.zz c2 hZ 0 (by omega)]; exact h.zl
        · rw [h.zz c2 hZ 1 (by omega)]; exact h.zs
        · rw [h.zz c2 hZ 2 (by omega), h.zp, ← hV1, cMeasSt_o h.h12 hk8 (by omega), h.s8 (Or.inl (by omega))]
      · exact StL.no h 3 (by omega) (by omega) (w_term_xIS (x_X6_term_IS hf h.1.1.1 hk hy.1 hy.2 hs)) (c_X7_term_3 hk h.rr hy.1 hy.2 (by rw [e4]; exact hs))
    · exact StL.no h 2 (by omega) (by omega) (w_term_xIA (x_X6_term_IA hf h.1.1.1 hk hy)) (c_X7_term_2 hk h.rr hy)
  · exact StL.no h 1 (by omega) (by omega) (w_term_xIO (x_X6_term_IO hf hb.1)) (c_X7_term_1 hb.2)
theorem run_n {C : Mem} {k : Nat} : ∀ q, ∃ c, c ≤ q ∧ sF (runU C k) (fun _ => nI 1) q = nI c
  | 0 => ⟨0, Nat.le_refl _, rfl⟩
  | q + 1 => by
    obtain ⟨c, h1, h2⟩ := run_n (C := C) (k := k) q
    rw [sF, h2]
    by_cases hr : runU C k q = true
    · exact ⟨c + 1, by omega, by rw [if_pos hr, nI_add]⟩
    · exact ⟨c, by omega, by rw [if_neg hr]⟩
theorem s_endPart (hf : l.stackTraces = false) (h : IV nl ns o n bm V) {x t fee : Int32} : StL (WX_endPart l g V L x t fee) (MX_endPart l g x t fee) := by
  rcases h.ixl x with ⟨k, hk, rfl⟩ | hb
  · by_cases hy : partR t ∧ money fee
    · have e4 : V 225 (3 + 22 * k + 1) = V (3 + k) 1 := h.2.1.f hk (by omega)
      have hk8 : k < 8 := by have := h.h8; omega
      have hru : ∀ Z : Mem, Z 225 = V 225 → (cRunOf V ns k = 0 ↔ ¬ 0 < rSubs (thr 0 Z) k (nI 8) ns) := fun Z hZ => by
        have hr : Rl nl ns V (thr 0 Z) := h.2.1.z (by rw [th_o (by omega), hZ])
        rw [hr.sub8 ns (Nat.le_refl _)]
        show sF (runU V k) (fun _ => nI 1) ns = 0 ↔ _
        obtain ⟨c, h1, h2⟩ := run_n (C := V) (k := k) ns
        have := h.h12
        rw [h2]
        rcases Nat.eq_zero_or_pos c with e | e
        · subst e; exact ⟨fun _ => by decide, fun _ => rfl⟩
        · exact ⟨fun z => absurd z (nI_ne0 e (by omega)), fun z => absurd (Int32.not_le.mp (nI_nle e (by omega))) z⟩
      by_cases hs : 0 < V (3 + k) 1 ∧ cRunOf V ns k = 0
      · have c2 : ∀ r, 224 ≤ r → cEnd (3 + k) t fee (cSave o n nl ns V) r = V r := fun r hr => by rw [cEnd_o (by omega) (by omega), h.s8 (Or.inr (by omega))]
        have hR := (h.r1 c2).endp (t := t) (fee := fee) h.h8 h.h12 hk
        have hZ : ZK (rSave n (thr 0 (cEnd (3 + k) t fee (cSave o n nl ns V)))) (rEnd k t fee (rSave n (thr 0 (cEnd (3 + k) t fee (cSave o n nl ns V))))) := ZK.rfl'.endp
        refine StL.chg h (fun r h1 h2 => cEnd_o (by omega) (by omega)) c2 (fun a ha => hZ.1 a ha) (h.vs.endp hk hy.1) hR.1 (h.gs.endp hk8) ?_ ?_ ?_ hR.2 (w_endPart (c_X6_endPart h.2.2.1 h.1.1 hk hy.1 hy.2 hs.1 hs.2)) (c_X7_endPart_ok hk (h.rr1 c2) hy.1 hy.2 (by rw [c2 225 (by omega), e4]; exact hs.1) ((hru _ (c2 225 (by omega))).mp hs.2) (h.sv1 c2) h.n6)
        · rw [h.zz c2 hZ 0 (by omega)]; exact h.zl
        · rw [h.zz c2 hZ 1 (by omega)]; exact h.zs
        · rw [h.zz c2 hZ 2 (by omega), h.zp, cEnd_o (by omega) (by omega), h.s8 (Or.inl (by omega))]
      · exact StL.no h 3 (by omega) (by omega) (w_endPart_xIS (x_X6_endPart_IS hf h.1.1.1 hk h.1.1.2.1 hy.1 hy.2 hs)) (c_X7_endPart_3 hk h.rr hy.1 hy.2 (fun z => hs ⟨by rw [← e4]; exact z.1, (hru V rfl).mpr z.2⟩))
    · exact StL.no h 2 (by omega) (by omega) (w_endPart_xIA (x_X6_endPart_IA hf h.1.1.1 hk hy)) (c_X7_endPart_2 hk h.rr hy)
  · exact StL.no h 1 (by omega) (by omega) (w_endPart_xIO (x_X6_endPart_IO hf hb.1)) (c_X7_endPart_1 hb.2)
theorem s_open (hf : l.stackTraces = false) (h : IV nl ns o n bm V) {p1 n1 r1 c1 : Int32} : StL (WX_open l g V L p1 n1 r1 c1) (MX_open l g p1 n1 r1 c1) := by
  by_cases hy : money p1 ∧ termR n1 ∧ rateR r1 ∧ money c1
  · by_cases hl : nl < 8
    · have c2 : ∀ r, 224 ≤ r → cAddL nl p1 n1 r1 c1 (cSave o n nl ns V) r = V r := fun r hr => by rw [cAddL_o (by omega) (by omega) (by omega), h.s8 (Or.inr (by omega))]
      have hR := (h.r1 c2).opn (p := p1) (n := n1) (r := r1) (c := c1) hl h.h12
      have hf1 := rOpn_fr (k := nl) (p := p1) (n := n1) (r := r1) (c := c1) (Z := rSave n (thr 0 (cAddL nl p1 n1 r1 c1 (cSave o n nl ns V))))
      have z : ∀ b, rSave n (thr 0 (cAddL nl p1 n1 r1 c1 (cSave o n nl ns V))) 225 b = V 225 b := fun b => by rw [rSave_row (by omega) (by omega), th_o (by omega), c2 225 (by omega)]
      have e0 : rOpn nl p1 n1 r1 c1 (rSave n (thr 0 (cAddL nl p1 n1 r1 c1 (cSave o n nl ns V)))) 225 0 = nI (nl + 1) := by rw [hf1.2.1, z, h.zl, nI_add]
      refine StL.chg h (fun r h1 h2 => cAddL_o (by omega) (by omega) (by omega)) c2 (fun a ha => hf1.1 a ha) (h.vs.opn hl hy.1 ⟨Int32.le_trans (by decide) hy.2.1.1, hy.2.1.2⟩ hy.2.2.1) hR (h.gs.addL hl) e0 ?_ ?_ ?_ (w_open (c_X6_open h.2.2.1 h.1.1 hy.1 hy.2.1 hy.2.2.1 hy.2.2.2 hl)) (c_X7_open_ok (h.rr1 c2) (h.sv1 c2) h.n6 hy.1 hy.2.1 hy.2.2.1 hy.2.2.2 hl)
      · rw [hf1.2.2.1, z, h.zs]
      · rw [hf1.2.2.2, z, h.zp, cAddL_4, h.s8 (Or.inl (by omega))]
      · rw [e0, pk_sub (by omega)]; rfl
    · have e8 : nl = 8 := by have := h.h8; omega
      exact StL.no h 2 (by omega) (by omega) (w_open_xIS (x_X6_open_IS hf hy.1 hy.2.1 hy.2.2.1 hy.2.2.2 (by rw [h.c0, e8]; decide))) (c_X7_open_2 hy.1 hy.2.1 hy.2.2.1 hy.2.2.2 (by rw [h.zl, e8]))
  · exact StL.no h 1 (by omega) (by omega) (w_open_xIA (x_X6_open_IA hf hy)) (c_X7_open_1 hy)
theorem s_sublet (hf : l.stackTraces = false) (h : IV nl ns o n bm V) {x t rc n1 : Int32} : StL (WX_sublet l g V L x t rc n1) (MX_sublet l g x t rc n1) := by
  rcases h.ixl x with ⟨k, hk, rfl⟩ | hb
  · by_cases hy : partR t ∧ money rc ∧ termR n1
    · have hk8 : k < 8 := by have := h.h8; omega
      have hmay : ∀ Z : Mem, Z 225 = V 225 → (rMay (thr 0 Z) k ns t n1 ↔ (n1 ≤ V (3 + k) 1 ∧ V 0 3 < nI 12 ∧ cSub V ns k 1 + t ≤ nI 1000)) := fun Z hZ =>
        Rl.may (h.2.1.z (by rw [th_o (by omega), hZ])) hk hy.2.2.1 (by rw [th_o (by omega), hZ, h.zs, h.c1])
      by_cases hs : n1 ≤ V (3 + k) 1 ∧ V 0 3 < nI 12 ∧ cSub V ns k 1 + t ≤ nI 1000
      · have h12 : ns < 12 := by
          have := hs.2.1
          rw [h.c1] at this
          exact (nI_ltI (by have := h.h12; omega) (by omega)).mp this
        have c2 : ∀ r, 224 ≤ r → cAddS k ns t rc n1 (cSave o n nl ns V) r = V r := fun r hr => by rw [cAddS_o (by omega) (by omega) (by omega) (by omega), h.s8 (Or.inr (by omega))]
        have hR := (h.r1 c2).subl (t := t) (rc := rc) (n := n1) h.h8 h12 hk
        have hf1 := rSubl_fr (k := k) (ns := ns) (t := t) (rc := rc) (n := n1) (Z := rSave n (thr 0 (cAddS k ns t rc n1 (cSave o n nl ns V))))
        have z : ∀ b, rSave n (thr 0 (cAddS k ns t rc n1 (cSave o n nl ns V))) 225 b = V 225 b := fun b => by rw [rSave_row (by omega) (by omega), th_o (by omega), c2 225 (by omega)]
        have e1 : rSubl k ns t rc n1 (rSave n (thr 0 (cAddS k ns t rc n1 (cSave o n nl ns V)))) 225 1 = nI (ns + 1) := by rw [hf1.2.2.1, z, h.zs, nI_add]
        refine StL.chg h (fun r h1 h2 => cAddS_o (by omega) (by omega) (by omega) (by omega)) c2 (fun a ha => hf1.1 a ha) (h.vs.subl h12 hk ⟨Int32.le_trans (by decide) hy.2.2.1, hy.2.2.2⟩ (by rw [h.s8 (Or.inl (by omega))]; exact hs.1)) hR (h.gs.addS hk8 hy.2.1) ?_ e1 ?_ ?_ (w_sublet (c_X6_sublet h.2.2.1 h.1.1 hk hy.1 hy.2.1 hy.2.2 hs h12)) (c_X7_sublet_ok hk (h.rr1 c2) hy.1 hy.2.1 hy.2.2 ((hmay _ (c2 225 (by omega))).mpr hs) h12 (h.sv1 c2) h.n6)
        · rw [hf1.2.1, z, h.zl]
        · rw [hf1.2.2.2, z, h.zp, cAddS_4, h.s8 (Or.inl (by omega))]
        · rw [e1, pk_sub (by omega)]; rfl
      · exact StL.no h 3 (by omega) (by omega) (w_sublet_xIS (x_X6_sublet_IS hf h.1.1.1 hk h.1.1.2.1 hy.1 hy.2.1 hy.2.2 hs)) (c_X7_sublet_3 hk h.rr hy.1 hy.2.1 hy.2.2 (fun z => hs ((hmay V rfl).mp z)))
    · exact StL.no h 2 (by omega) (by omega) (w_sublet_xIA (x_X6_sublet_IA hf h.1.1.1 hk hy)) (c_X7_sublet_2 hk h.rr hy)
  · exact StL.no h 1 (by omega) (by omega) (w_sublet_xIO (x_X6_sublet_IO hf hb.1)) (c_X7_sublet_1 hb.2)
theorem s_pass (hf : l.stackTraces = false) (h : IV nl ns o n bm V) {x : Int32} : StL (WX_pass l g V L x) (MX_pass l g x) := by
  by_cases hy : termR x
  · obtain ⟨d, hd, rfl⟩ := rg (y := x) (M := 60) (by omega) ⟨Int32.le_trans (by decide) hy.1, hy.2⟩
    have hd1 : 1 ≤ d := (nI_leI (by omega) (by omega)).mp hy.1
    by_cases hs : V 0 4 + nI d ≤ nI 2000
    · have c2 : ∀ r, 224 ≤ r → cPassSt nl ns d (cSave o n nl ns V) r = V r := fun r hr => by rw [cPassSt_o h.vs.1 (by omega), h.s8 (Or.inr (by omega))]
      have hR := (h.r1 c2).pass (d := d) h.vs (by omega)
      have hV1 := h.vs.pass (d := d) (by omega)
      have e4 : cPassSt nl ns d (cSave o n nl ns V) 0 4 = V 0 4 + nI d := by rw [cPassSt_r h.vs.1 (by omega), mset_at, h.s8 (Or.inl (by omega))]
      have hW := w_pass (L := L) (c_X6_pass (l := l) (g := g) (L := L) h.2.2.1 h.1.1 hy hd hs)
      have hG1 := h.gs.pass (nl := nl) (ns := ns) (d := d) h.h8
      have c1 : ∀ r, 31 ≤ r → r < 224 → cPassSt nl ns d (cSave o n nl ns V) r = cSave o n nl ns V r := fun r h1 h2 => cPassSt_o h.vs.1 h1
      generalize cPassSt nl ns d (cSave o n nl ns V) = V1 at c2 hR hV1 e4 hW hG1 c1
      have hZ : ZK (rSave n (thr 0 V1)) (rPass nl ns (rSave n (thr 0 V1)) d) := ZK.rfl'.pass d
      have hp : rPass nl ns (rSave n (thr 0 V1)) d 225 2 = V 0 4 := by rw [h.zz c2 hZ 2 (by omega), h.zp]
      refine StL.chg h c1 c2 (fun a ha => ?_) hV1 (hR.zrow (by omega)) hG1 ?_ ?_ ?_ ?_ hW (c_X7_pass_ok (h.rr1 c2) ⟨hd1, hd⟩ (by rw [th_o (by omega), c2 225 (by omega), h.zp]; exact hs) (h.sv1 c2) h.n6)
      · rw [mset_o ha]; exact hZ.1 a ha
      · rw [mset_ne (by omega), h.zz c2 hZ 0 (by omega)]; exact h.zl
      · rw [mset_ne (by omega), h.zz c2 hZ 1 (by omega)]; exact h.zs
      · rw [mset_at, hp, e4]
      · rw [hp, e4]
    · exact StL.no h 2 (by omega) (by omega) (w_pass_xIS (x_X6_pass_IS hf hy hs)) (c_X7_pass_2 hy (by rw [th_o (by omega), h.zp]; exact hs))
  · exact StL.no h 1 (by omega) (by omega) (w_pass_xIA (x_X6_pass_IA hf hy)) (c_X7_pass_1 hy)
end CHG
