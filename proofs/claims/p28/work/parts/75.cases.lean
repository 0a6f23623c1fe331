/-! THE LAW'S STEPS, case by case -/
abbrev ActM (l : Launch) (g : GC) (V : Mem) (L : LMem) (a X Y : Nat) (V' : Mem) : Prop := MC l yL_act cL_act 12 (some .boolean) 8 g V L [.ref (ad g 223), .int (nI a), .int (nI X), .int (nI Y), .ref (ad g 224), .ref (ad g 225), .ref (ad g 226), .ref (ad g 227)] (some (.int (nI 1))) V' L
abbrev ChM (l : Launch) (g : GC) (V : Mem) (L : LMem) (j X Y : Nat) (V' : Mem) : Prop := MC l yL_changes cL_changes 15 (some .boolean) 6 g V L [.ref (ad g 223), .int (nI j), .int (nI X), .int (nI Y), .ref (ad g 224), .ref (ad g 225), .ref (ad g 226), .ref (ad g 227)] (some (.int (nI 1))) V' L
theorem atN_b {X m : Nat} (h : 0 < m) : atN X m < m := Nat.mod_lt _ h
theorem ite_le {P : Prop} [Decidable P] {a b m : Nat} (ha : a ≤ m) (hb : b ≤ m) : (if P then a else b) ≤ m := by split <;> assumption
section
variable {l : Launch} {g : GC} {V : Mem} {L : LMem} {nl ns o n pd t a X Y : Nat}
theorem s_open (h : IV nl ns o n V) (hp : V 0 4 = nI pd) (hpd : pd ≤ 20 * t) (hl : nl < 8) (ha : a < 3) (hX : X < 2 ^ 31) (hY : Y < 2 ^ 31) : ∃ V', ActM l g V L a X Y V' ∧ IVT (t + 1) V' := by
  have h8 := h.h8
  have h12 := h.h12
  obtain ⟨p1, ep⟩ : ∃ p1, atN Y (if atN X 4 = 0 then 100001 else 3000) = p1 := ⟨_, rfl⟩
  obtain ⟨m1, em⟩ : ∃ m1, 1 + atN (X / 8) (if atN Y 3 = 0 then 60 else 12) = m1 := ⟨_, rfl⟩
  obtain ⟨r1, er⟩ : ∃ r1, atN (Y / 16) (if atN X 3 = 0 then 2001 else 300) = r1 := ⟨_, rfl⟩
  obtain ⟨c1, ec⟩ : ∃ c1, atN (X / 64) 2000 = c1 := ⟨_, rfl⟩
  have bp : p1 ≤ 100000 := by
    have := atN_b (X := Y) (m := if atN X 4 = 0 then 100001 else 3000) (ite_pos (by omega) (by omega))
    have h2 : (if atN X 4 = 0 then 100001 else 3000) ≤ 100001 := ite_le (by omega) (by omega)
    omega
  have bm : 1 ≤ m1 ∧ m1 ≤ 60 := by
    have := atN_b (X := X / 8) (m := if atN Y 3 = 0 then 60 else 12) (ite_pos (by omega) (by omega))
    have h2 : (if atN Y 3 = 0 then 60 else 12) ≤ 60 := ite_le (by omega) (by omega)
    omega
  have br : r1 ≤ 2000 := by
    have := atN_b (X := Y / 16) (m := if atN X 3 = 0 then 2001 else 300) (ite_pos (by omega) (by omega))
    have h2 : (if atN X 3 = 0 then 2001 else 300) ≤ 2001 := ite_le (by omega) (by omega)
    omega
  have bc : c1 ≤ 100000 := by
    have := atN_b (X := X / 64) (m := 2000) (by omega)
    omega
  have mp : money (nI p1) := inN (by omega) bp (by omega)
  have mn1 : termR (nI m1) := inN bm.1 bm.2 (by omega)
  have pn : perR (nI m1) := inN (by omega) bm.2 (by omega)
  have rr : rateR (nI r1) := inN (by omega) br (by omega)
  have mc1 : money (nI c1) := inN (by omega) bc (by omega)
  have fr := lAdd_fr (k := nl) (p := nI p1) (n := nI m1) (r := nI r1) (c := nI c1) (V := V)
  have hVa := h.va (Va := lAdd nl (nI p1) (nI m1) (nI r1) (nI c1) V) fr.1
  have hL := (h.lw (Va := lAdd nl (nI p1) (nI m1) (nI r1) (nI c1) V) fr.1).opn (p := nI p1) (n := nI m1) (r := nI r1) (c := nI c1) hl h12
  have hK := h.1.2.2.1.add (p := nI p1) (n := nI m1) (r := nI r1) (c := nI c1) hl h12 (fun q hq => by
    obtain ⟨k, hk, e⟩ := h.1.1.1.2.2.2.2.1 q hq
    exact ⟨k, hk, by rw [h.1.2.1.s0 hq]; exact e⟩)
  have hT := c_X6_open (l := l) (g := g) (L := L) (p1 := nI p1) (n := nI m1) (r := nI r1) (c0 := nI c1) hVa.2.1 hVa.1.1 mp mn1 rr mc1 hl
  generalize hVa' : lAdd nl (nI p1) (nI m1) (nI r1) (nI c1) V = Va at fr hVa hL hK hT
  have e0 : cAddL nl (nI p1) (nI m1) (nI r1) (nI c1) (cSave o n nl ns Va) 0 4 = V 0 4 := by rw [cAddL_4, cSave_o h8 h12 (by omega)]; exact fr.1 0 4 (by omega)
  have eh : ∀ r, 224 ≤ r → cAddL nl (nI p1) (nI m1) (nI r1) (nI c1) (cSave o n nl ns Va) r = Va r := fun r hr => by rw [cAddL_o (by omega) (by omega) (by omega), cSave_o h8 h12 (by omega)]
  have e17 : cAddL nl (nI p1) (nI m1) (nI r1) (nI c1) (cSave o n nl ns Va) 217 = cSave o n nl ns Va 217 := cAddL_o (by omega) (by omega) (by omega)
  have eS : ∀ q, q < ns → cAddL nl (nI p1) (nI m1) (nI r1) (nI c1) (cSave o n nl ns Va) (19 + q) = Va (19 + q) := fun q hq => by rw [cAddL_o (by omega) (by omega) (by omega), cSave_o h8 h12 (by omega)]
  have hV2 := hVa.1.save (o := o) (n := n) |>.opn (c := nI c1) hl mp pn rr
  generalize hV2' : cAddL nl (nI p1) (nI m1) (nI r1) (nI c1) (cSave o n nl ns Va) = V2 at e0 eh e17 eS hV2 hL hT
  have z0 : V2 224 0 = nI (nl + 1) := by rw [eh 224 (by omega), fr.2.1, h.1.2.2.2.1, nI_add]
  refine ⟨V2, c_L_act_open hX hY ha h.1.2.2.2.1 hl ep em er ec mp pn rr (by rw [hVa']; exact hT) z0, ?_⟩
  exact IVT.mk (pd := pd) h fr.1 e17 hV2 (hL.rows (by omega) h12 (fun _ _ _ => rfl) (fun a b _ ha _ => by rw [eh a ha])) (hK.cg (by omega) h12 (fun a b ha _ _ => by rw [eh a ha])) (hVa.2.2.same (fun q hq => by rw [eS q hq])) z0 (by rw [eh 224 (by omega), fr.2.2.1]; exact h.1.2.2.2.2.1) (by rw [eh 224 (by omega), fr.2.2.2, e0]; exact h.1.2.2.2.2.2) (e0.trans hp) (by omega)
theorem s_pass (h : IV nl ns o n V) (hp : V 0 4 = nI pd) (hpd : pd ≤ 20 * t) (ht : t < 40) (ha : 3 ≤ a) (ha7 : a < 7) (hX : X < 2 ^ 31) (hY : Y < 2 ^ 31) : ∃ V', ActM l g V L a X Y V' ∧ IVT (t + 1) V' := by
  have h8 := h.h8
  have h12 := h.h12
  obtain ⟨d, ed⟩ : ∃ d, 1 + atN Y (if atN X 4 = 0 then 20 else 3) = d := ⟨_, rfl⟩
  have bd : 1 ≤ d ∧ d ≤ 20 := by
    have := atN_b (X := Y) (m := if atN X 4 = 0 then 20 else 3) (ite_pos (by omega) (by omega))
    have h2 : (if atN X 4 = 0 then 20 else 3) ≤ 20 := ite_le (by omega) (by omega)
    omega
  have hV := h.1.1
  have hO : ∀ j, j ≤ d → ∀ i, i ≤ nl → lPAll ns (lPass nl ns V j) i 224 0 = nI nl ∧ lPAll ns (lPass nl ns V j) i 224 1 = nI ns ∧ Sok ns (lPAll ns (lPass nl ns V j) i) ∧ Lok nl (lPAll ns (lPass nl ns V j) i) := fun j _ i hi => by
    have g1 := (hV.pg h.1.2.1 j).all h8 h12 hV.1.2.2.2.2.1 (fun k hk => (hV.N hk).2) (fun q hq => (hV.Q hq).2) (fun q hq => hV.P hq) i hi
    have g2 := g1.ok hV h.2.2
    exact ⟨by rw [lPAll_fr (by omega), lPass_fr (by omega)]; exact h.1.2.2.2.1, by rw [lPAll_fr (by omega), lPass_fr (by omega)]; exact h.1.2.2.2.2.1, g2.1, g2.2⟩
  have fr : ∀ a b, a < 224 ∨ (a = 224 ∧ b < 3) → lPass nl ns V d a b = V a b := fun a b hab => lPass_fr hab d
  have hK := h.1.2.2.1.pass h8 h12 d
  have hLV : ∀ Va : Mem, (∀ a b, a < 224 → Va a b = V a b) → Lw nl ns (cPassSt nl ns d (cSave o n nl ns Va)) (lPass nl ns V d) := fun Va e => (h.lw e).pass (h.va e).1.save (by omega)
  generalize hW : lPass nl ns V d = W at fr hK hLV
  obtain ⟨Va, hVa'⟩ : ∃ Va, mset W 224 2 (W 224 2 + nI d) = Va := ⟨_, rfl⟩
  have eV : ∀ a b, ¬ (a = 224 ∧ b = 2) → Va a b = W a b := fun a b hab => by rw [← hVa', mset_ne hab]
  have e2 : Va 224 2 = V 224 2 + nI d := by rw [← hVa', mset_at, fr 224 2 (by omega)]
  have eL : ∀ a b, a < 224 → Va a b = V a b := fun a b hab => by rw [eV a b (by omega), fr a b (Or.inl hab)]
  have hVa := h.va eL
  have hT := c_X6_pass (l := l) (g := g) (L := L) (d := d) hVa.2.1 hVa.1.1 (inN bd.1 (show d ≤ 60 by omega) (by omega)) (by omega) (by rw [eL 0 4 (by omega), hp, nI_add]; exact nI_le (by omega) (by omega))
  have hL := hLV Va eL
  have hV2 := (hVa.1.save (o := o) (n := n)).pass (d := d) (by omega)
  have hS2 := SM.pass (d := d) (SM.same hVa.2.2 (fun q hq => by rw [cSave_o h8 h12 (by omega)])) (hVa.1.save (o := o) (n := n)) (by omega)
  have eh : ∀ r, 224 ≤ r → cPassSt nl ns d (cSave o n nl ns Va) r = Va r := fun r hr => by rw [cPassSt_o (hVa.1.save (o := o) (n := n)).1 (by omega), cSave_o h8 h12 (by omega)]
  have e17 : cPassSt nl ns d (cSave o n nl ns Va) 217 = cSave o n nl ns Va 217 := cPassSt_o (hVa.1.save (o := o) (n := n)).1 (by omega)
  have e0 : cPassSt nl ns d (cSave o n nl ns Va) 0 4 = V 0 4 + nI d := by
    rw [cPassSt_r (hVa.1.save (o := o) (n := n)).1 (by omega), mset_at, cSave_o h8 h12 (by omega), eL 0 4 (by omega)]
  generalize hV2' : cPassSt nl ns d (cSave o n nl ns Va) = V2 at e0 eh e17 hV2 hL hT hS2
  have z2 : V2 224 2 = V2 0 4 := by rw [eh 224 (by omega), e2, e0, h.1.2.2.2.2.2]
  refine ⟨V2, c_L_act_pass hX hY ha ha7 h8 h12 ed (by omega) hO (by rw [hW, hVa']; exact hT) z2, ?_⟩
  exact IVT.mk (pd := pd + d) h eL e17 hV2 (hL.rows h8 h12 (fun _ _ _ => rfl) (fun a b hab ha _ => by rw [eh a ha, eV a b (by omega)])) (hK.cg h8 h12 (fun a b ha _ hab => by rw [eh a ha, eV a b (by omega)])) hS2 (by rw [eh 224 (by omega), eV 224 0 (by omega), fr 224 0 (by omega)]; exact h.1.2.2.2.1) (by rw [eh 224 (by omega), eV 224 1 (by omega), fr 224 1 (by omega)]; exact h.1.2.2.2.2.1) z2 (by rw [e0, hp, nI_add]) (by omega)
/-! changes -/
theorem s_term (h : IV nl ns o n V) (hp : V 0 4 = nI pd) (hpd : pd ≤ 20 * t) (h0 : 0 < nl) (hX : X < 2 ^ 31) (hY : Y < 2 ^ 31) : ∃ V', ChM l g V L 0 X Y V' ∧ (V' = V ∨ IVT (t + 1) V') := by
  have h8 := h.h8
  have h12 := h.h12
  obtain ⟨k, ek⟩ : ∃ k, atN (X / 4) nl = k := ⟨_, rfl⟩
  have hk : k < nl := by rw [← ek]; exact atN_b h0
  obtain ⟨m1, em⟩ : ∃ m1, 1 + atN Y (if atN X 2 = 0 then 60 else 8) = m1 := ⟨_, rfl⟩
  obtain ⟨r1, er⟩ : ∃ r1, atN (Y / 32) 2001 = r1 := ⟨_, rfl⟩
  by_cases hr : 0 < V 225 (3 * k + 1)
  · have bm : 1 ≤ m1 ∧ m1 ≤ 60 := by
      have := atN_b (X := Y) (m := if atN X 2 = 0 then 60 else 8) (ite_pos (by omega) (by omega))
      have h2 : (if atN X 2 = 0 then 60 else 8) ≤ 60 := ite_le (by omega) (by omega)
      omega
    have br : r1 ≤ 2000 := by
      have := atN_b (X := Y / 32) (m := 2001) (by omega)
      omega
    have mn1 : termR (nI m1) := inN bm.1 bm.2 (by omega)
    have pn : perR (nI m1) := inN (by omega) bm.2 (by omega)
    have rr : rateR (nI r1) := inN (by omega) br (by omega)
    have hk8 : k < 8 := by omega
    have hrun : 0 < V (3 + k) 1 := by rw [← h.1.2.1.f hk (by omega)]; exact hr
    have hT := c_X6_term (l := l) (g := g) (L := L) (n := nI m1) (r := nI r1) h.2.1 h.1.1.1 hk mn1 rr hrun
    have hVs := (h.va (Va := V) (fun _ _ _ => rfl)).1.save (o := o) (n := n)
    have hL0 := h.lw (Va := V) (fun _ _ _ => rfl)
    have eh : ∀ r, 224 ≤ r → cMeasSt k ns (nI m1) (nI r1) (cSave o n nl ns V) r = V r := fun r hr => by rw [cMeasSt_o h12 hk8 (by omega), cSave_o h8 h12 (by omega)]
    have e17 : cMeasSt k ns (nI m1) (nI r1) (cSave o n nl ns V) 217 = cSave o n nl ns V 217 := cMeasSt_o h12 hk8 (by omega)
    have e0 : cMeasSt k ns (nI m1) (nI r1) (cSave o n nl ns V) 0 4 = V 0 4 := by rw [cMeasSt_o h12 hk8 (by omega), cSave_o h8 h12 (by omega)]
    have hV1 := hVs.term (n := nI m1) (r := nI r1) hk mn1 rr
    have hS1 := SM.term (n := nI m1) (r := nI r1) (SM.same h.2.2 (fun q hq => by rw [cSave_o h8 h12 (by omega)])) hVs hk
    have hLt : ∀ Z : Mem, Lw nl ns (cSave o n nl ns V) Z → Lw nl ns (cMeasSt k ns (nI m1) (nI r1) (cSave o n nl ns V)) (lMeas k (Z 225 (3 * k)) (nI m1) (nI r1) ns Z) := fun Z hZ => hZ.term h8 h12 hk hVs.2.2.1 mn1.1
    generalize cMeasSt k ns (nI m1) (nI r1) (cSave o n nl ns V) = V1 at e0 eh e17 hV1 hLt hT hS1
    have hZ1 : Lw nl ns (cSave o n nl ns V) V1 := hL0.rows h8 h12 (fun _ _ _ => rfl) (fun a b _ ha _ => by rw [eh a ha])
    have hL2 := hLt V1 hZ1
    have fr := lMeas_fr (k := k) (ns := ns) (p := V1 225 (3 * k)) (n := nI m1) (r := nI r1) (V := V1)
    have hK2 := (h.1.2.2.1.cg (Z' := V1) h8 h12 (fun a b ha _ _ => by rw [eh a ha])).meas (p := V1 225 (3 * k)) (n := nI m1) (r := nI r1) h8 h12 hk
    have hSok : Sok ns V1 := fun q hq => by rw [eh 226 (by omega), eh 227 (by omega)]; exact h.1.sok h.2.2 q hq
    have hmo : money (V1 225 (3 * k)) := by rw [eh 225 (by omega), h.1.2.1.f0 hk]; exact (h.1.1.2.1 k hk).1
    have hM := c_L_measure (l := l) (g := g) (L := L) (k := k) hk8 hmo pn rr (show V1 224 1 = nI ns by rw [eh 224 (by omega)]; exact h.1.2.2.2.2.1) h12 hSok
    have ez : wor (V1 225 (3 * k)) (nI m1) (nI r1) = V1 (3 + k) 3 := by rw [← fr.2]; exact hL2.li hk
    rw [ez] at hM
    generalize lMeas k (V1 225 (3 * k)) (nI m1) (nI r1) ns V1 = V2 at fr hL2 hK2 hM
    have eV : ∀ r, r < 224 → V2 r = V1 r := fun r hr => funext fun b => fr.1 r b (Or.inl hr)
    refine ⟨V2, c_L_ch_term (ns := ns) hX hY h.1.2.2.2.1 h8 ek hk em er hr hT hM, Or.inr ?_⟩
    exact IVT.mk (pd := pd) (Va := V) h (fun _ _ _ => rfl) (by rw [eV 217 (by omega)]; exact e17) (hV1.rows (fun r hr => eV r (by omega))) (hL2.rows h8 h12 (fun r _ hr => eV r (by omega)) (fun _ _ _ _ _ => rfl)) hK2 (hS1.same (fun q hq => by rw [eV _ (by omega)])) (by rw [fr.1 224 0 (by omega), eh 224 (by omega)]; exact h.1.2.2.2.1) (by rw [fr.1 224 1 (by omega), eh 224 (by omega)]; exact h.1.2.2.2.2.1) (by rw [fr.1 224 2 (by omega), eh 224 (by omega), eV 0 (by omega), e0]; exact h.1.2.2.2.2.2) (by rw [eV 0 (by omega), e0]; exact hp) (by omega)
  · exact ⟨V, c_L_ch_term0 (ns := ns) hX hY h.1.2.2.2.1 h8 ek hk em er hr, Or.inl rfl⟩
theorem s_rent (h : IV nl ns o n V) (hp : V 0 4 = nI pd) (hpd : pd ≤ 20 * t) (h0 : 0 < nl) (hX : X < 2 ^ 31) (hY : Y < 2 ^ 31) : ∃ V', ChM l g V L 1 X Y V' ∧ (V' = V ∨ IVT (t + 1) V') := by
  have h8 := h.h8
  have h12 := h.h12
  obtain ⟨k, ek⟩ : ∃ k, atN (X / 4) nl = k := ⟨_, rfl⟩
  have hk : k < nl := by rw [← ek]; exact atN_b h0
  obtain ⟨p1, ep⟩ : ∃ p1, atN Y (if atN X 3 = 0 then 100001 else 3000) = p1 := ⟨_, rfl⟩
  by_cases hr : 0 < V 225 (3 * k + 1)
  · have bp : p1 ≤ 100000 := by
      have := atN_b (X := Y) (m := if atN X 3 = 0 then 100001 else 3000) (ite_pos (by omega) (by omega))
      have h2 : (if atN X 3 = 0 then 100001 else 3000) ≤ 100001 := ite_le (by omega) (by omega)
      omega
    have mp : money (nI p1) := inN (by omega) bp (by omega)
    have hk8 : k < 8 := by omega
    have hrun : 0 < V (3 + k) 1 := by rw [← h.1.2.1.f hk (by omega)]; exact hr
    have hT := c_X6_rent (l := l) (g := g) (L := L) (p1 := nI p1) h.2.1 h.1.1.1 hk mp hrun
    have hVs := (h.va (Va := V) (fun _ _ _ => rfl)).1.save (o := o) (n := n)
    have hL0 := h.lw (Va := V) (fun _ _ _ => rfl)
    have eh : ∀ r, 224 ≤ r → cMeas (3 + k) (nI p1) (cSave o n nl ns V (3 + k) 1) (cSave o n nl ns V (3 + k) 2) (cSave o n nl ns V) r = V r := fun r hr => by rw [cMeas_o (by omega) (by omega), cSave_o h8 h12 (by omega)]
    have e17 : cMeas (3 + k) (nI p1) (cSave o n nl ns V (3 + k) 1) (cSave o n nl ns V (3 + k) 2) (cSave o n nl ns V) 217 = cSave o n nl ns V 217 := cMeas_o (by omega) (by omega)
    have e0 : cMeas (3 + k) (nI p1) (cSave o n nl ns V (3 + k) 1) (cSave o n nl ns V (3 + k) 2) (cSave o n nl ns V) 0 4 = V 0 4 := by rw [cMeas_o (by omega) (by omega), cSave_o h8 h12 (by omega)]
    have eS : ∀ q, q < ns → cMeas (3 + k) (nI p1) (cSave o n nl ns V (3 + k) 1) (cSave o n nl ns V (3 + k) 2) (cSave o n nl ns V) (19 + q) = V (19 + q) := fun q hq => by rw [cMeas_o (by omega) (by omega), cSave_o h8 h12 (by omega)]
    have hV1 := hVs.meas (p := nI p1) hk mp (hVs.1.2.2.2.1 k hk)
    have hLt : ∀ Z : Mem, Lw nl ns (cSave o n nl ns V) Z → Lw nl ns (cMeas (3 + k) (nI p1) (cSave o n nl ns V (3 + k) 1) (cSave o n nl ns V (3 + k) 2) (cSave o n nl ns V)) (lMeas k (nI p1) (Z 225 (3 * k + 1)) (Z 225 (3 * k + 2)) ns Z) := fun Z hZ => hZ.rent h8 h12 hk hVs.2.2.2
    generalize cMeas (3 + k) (nI p1) (cSave o n nl ns V (3 + k) 1) (cSave o n nl ns V (3 + k) 2) (cSave o n nl ns V) = V1 at e0 eh e17 eS hV1 hLt hT
    have hZ1 : Lw nl ns (cSave o n nl ns V) V1 := hL0.rows h8 h12 (fun _ _ _ => rfl) (fun a b _ ha _ => by rw [eh a ha])
    have hL2 := hLt V1 hZ1
    have fr := lMeas_fr (k := k) (ns := ns) (p := nI p1) (n := V1 225 (3 * k + 1)) (r := V1 225 (3 * k + 2)) (V := V1)
    have hK2 := (h.1.2.2.1.cg (Z' := V1) h8 h12 (fun a b ha _ _ => by rw [eh a ha])).meas (p := nI p1) (n := V1 225 (3 * k + 1)) (r := V1 225 (3 * k + 2)) h8 h12 hk
    have hSok : Sok ns V1 := fun q hq => by rw [eh 226 (by omega), eh 227 (by omega)]; exact h.1.sok h.2.2 q hq
    have pn : perR (V1 225 (3 * k + 1)) := by rw [eh 225 (by omega), h.1.2.1.f hk (by omega)]; exact h.1.1.1.2.2.1 k hk
    have rr : rateR (V1 225 (3 * k + 2)) := by rw [eh 225 (by omega), h.1.2.1.f hk (by omega)]; exact h.1.1.1.2.2.2.1 k hk
    have hM := c_L_measure (l := l) (g := g) (L := L) (k := k) hk8 mp pn rr (show V1 224 1 = nI ns by rw [eh 224 (by omega)]; exact h.1.2.2.2.2.1) h12 hSok
    have ez : wor (nI p1) (V1 225 (3 * k + 1)) (V1 225 (3 * k + 2)) = V1 (3 + k) 3 := by rw [← fr.2]; exact hL2.li hk
    rw [ez] at hM
    generalize lMeas k (nI p1) (V1 225 (3 * k + 1)) (V1 225 (3 * k + 2)) ns V1 = V2 at fr hL2 hK2 hM
    have eV : ∀ r, r < 224 → V2 r = V1 r := fun r hr => funext fun b => fr.1 r b (Or.inl hr)
    refine ⟨V2, c_L_ch_rent (ns := ns) hX hY h.1.2.2.2.1 h8 ek hk ep hr hT hM, Or.inr ?_⟩
    exact IVT.mk (pd := pd) (Va := V) h (fun _ _ _ => rfl) (by rw [eV 217 (by omega)]; exact e17) (hV1.rows (fun r hr => eV r (by omega))) (hL2.rows h8 h12 (fun r _ hr => eV r (by omega)) (fun _ _ _ _ _ => rfl)) hK2 (h.2.2.same (fun q hq => by rw [eV _ (by omega), eS q hq])) (by rw [fr.1 224 0 (by omega), eh 224 (by omega)]; exact h.1.2.2.2.1) (by rw [fr.1 224 1 (by omega), eh 224 (by omega)]; exact h.1.2.2.2.2.1) (by rw [fr.1 224 2 (by omega), eh 224 (by omega), eV 0 (by omega), e0]; exact h.1.2.2.2.2.2) (by rw [eV 0 (by omega), e0]; exact hp) (by omega)
  · exact ⟨V, c_L_ch_rent0 (ns := ns) hX hY h.1.2.2.2.1 h8 ek hk ep hr, Or.inl rfl⟩
theorem run_n {C : Mem} {k : Nat} : ∀ q, ∃ c, c ≤ q ∧ sF (runU C k) (fun _ => nI 1) q = nI c
  | 0 => ⟨0, Nat.le_refl _, rfl⟩
  | q + 1 => by
    obtain ⟨c, h1, h2⟩ := run_n (C := C) (k := k) q
    rw [sF, h2]
    by_cases hr : runU C k q = true
    · exact ⟨c + 1, by omega, by rw [if_pos hr, nI_add]⟩
    · exact ⟨c, by omega, by rw [if_neg hr]⟩
theorem runOf_c {C C' : Mem} {k ns : Nat} (e : ∀ q, q < ns → C' (19 + q) = C (19 + q)) : cRunOf C' ns k = cRunOf C ns k :=
  sF_c2 ns (fun q hq => by unfold runU; rw [e q hq]) (fun _ _ _ => rfl)
theorem cSub_c {C C' : Mem} {k ns w : Nat} (e : ∀ q, q < ns → C' (19 + q) = C (19 + q)) : cSub C' ns k w = cSub C ns k w :=
  sF_c2 ns (fun q hq => by unfold runU; rw [e q hq]) (fun q hq _ => by rw [e q hq])
theorem s_end (h : IV nl ns o n V) (hp : V 0 4 = nI pd) (hpd : pd ≤ 20 * t) (h0 : 0 < nl) (hX : X < 2 ^ 31) (hY : Y < 2 ^ 31) : ∃ V', ChM l g V L 2 X Y V' ∧ (V' = V ∨ IVT (t + 1) V') := by
  have h8 := h.h8
  have h12 := h.h12
  obtain ⟨k, ek⟩ : ∃ k, atN (X / 4) nl = k := ⟨_, rfl⟩
  have hk : k < nl := by rw [← ek]; exact atN_b h0
  have hk8 : k < 8 := by omega
  by_cases hr : 0 < V 225 (3 * k + 1)
  · by_cases ho : 0 < lOf V k 8 ns
    · exact ⟨V, c_L_ch_end1 (ns := ns) hX hY h.1.2.2.2.1 h8 ek hk hr h.1.2.2.2.2.1 h12 ho, Or.inl rfl⟩
    · obtain ⟨t1, et⟩ : ∃ t1, 1 + atN Y 1000 = t1 := ⟨_, rfl⟩
      obtain ⟨f1, ef⟩ : ∃ f1, atN (Y / 64) 500 = f1 := ⟨_, rfl⟩
      have bt : 1 ≤ t1 ∧ t1 ≤ 1000 := by
        have := atN_b (X := Y) (m := 1000) (by omega)
        omega
      have bf : f1 ≤ 100000 := by
        have := atN_b (X := Y / 64) (m := 500) (by omega)
        omega
      have pt : partR (nI t1) := inN bt.1 bt.2 (by omega)
      have mf : money (nI f1) := inN (by omega) bf (by omega)
      have hrun : 0 < V (3 + k) 1 := by rw [← h.1.2.1.f hk (by omega)]; exact hr
      have eL : ∀ a b, a < 224 → lEnd k (nI t1) (nI f1) V a b = V a b := fun a b ha => lEnd_fr (Or.inl ha)
      have eC : ∀ b, b < 3 → lEnd k (nI t1) (nI f1) V 224 b = V 224 b := fun b hb => lEnd_fr (Or.inr ⟨rfl, hb⟩)
      have hVa := h.va eL
      have hro : cRunOf (lEnd k (nI t1) (nI f1) V) ns k = 0 := by
        rw [runOf_c (C := V) (fun q hq => funext fun b => eL _ b (by omega))]
        have e8 : lOf V k 8 ns = cRunOf V ns k := h.1.2.1.p8 h.1.1.2.2.1
        rw [e8] at ho
        obtain ⟨c, hc1, hc2⟩ := run_n (C := V) (k := k) ns
        have e9 : cRunOf V ns k = nI c := hc2
        rw [e9] at ho ⊢
        rcases Nat.eq_zero_or_pos c with z | z
        · rw [z]; rfl
        · exact absurd (Int32.not_le.mp (nI_nle z (by omega))) ho
      have hT := c_X6_endPart (l := l) (g := g) (L := L) (t := nI t1) (fee := nI f1) hVa.2.1 hVa.1.1 hk pt mf (by rw [eL _ _ (by omega)]; exact hrun) hro
      have hL := (h.lw eL).endp (t := nI t1) (fee := nI f1) h8 h12 hk
      rw [hL.2] at hT
      have hw : money (V 225 (3 * k) - prt (V 225 (3 * k)) (nI t1)) ∧ perR (V 225 (3 * k + 1)) ∧ rateR (V 225 (3 * k + 2)) := by
        rw [h.1.2.1.f0 hk, h.1.2.1.f hk (by omega), h.1.2.1.f hk (by omega)]
        refine ⟨?_, h.1.1.1.2.2.1 k hk, h.1.1.1.2.2.2.1 k hk⟩
        have h3 := ((h.1.1.endp (t := nI t1) (fee := nI f1) hk pt).2.1 k hk).1
        have f0 : cEnd (3 + k) (nI t1) (nI f1) V (3 + k) 0 = V (3 + k) 0 - prt (V (3 + k) 0) (nI t1) := by unfold cEnd cMv; simp (disch := omega) only [mset_at, mset_ne]
        rw [f0] at h3
        exact h3
      have hK := h.1.2.2.1.endp (t := nI t1) (fee := nI f1) h8 h12 hk
      have hcon := c_L_ch_end (l := l) (g := g) (V := V) (L := L) (t := t1) (fee := f1) hX hY h.1.2.2.2.1 h8 ek hk hr h.1.2.2.2.2.1 h12 ho et ef hw hT
      have hV2 := (hVa.1.save (o := o) (n := n)).endp (t := nI t1) (fee := nI f1) hk pt
      have hL1 := hL.1
      generalize lEnd k (nI t1) (nI f1) V = Va at eL eC hVa hL1 hK hV2 hcon
      have eh : ∀ r, 224 ≤ r → cEnd (3 + k) (nI t1) (nI f1) (cSave o n nl ns Va) r = Va r := fun r hr => by rw [cEnd_o (by omega) (by omega), cSave_o h8 h12 (by omega)]
      have e17 : cEnd (3 + k) (nI t1) (nI f1) (cSave o n nl ns Va) 217 = cSave o n nl ns Va 217 := cEnd_o (by omega) (by omega)
      have e0 : cEnd (3 + k) (nI t1) (nI f1) (cSave o n nl ns Va) 0 4 = V 0 4 := by rw [cEnd_o (by omega) (by omega), cSave_o h8 h12 (by omega)]; exact eL 0 4 (by omega)
      have eS : ∀ q, q < ns → cEnd (3 + k) (nI t1) (nI f1) (cSave o n nl ns Va) (19 + q) = Va (19 + q) := fun q hq => by rw [cEnd_o (by omega) (by omega), cSave_o h8 h12 (by omega)]
      generalize cEnd (3 + k) (nI t1) (nI f1) (cSave o n nl ns Va) = V2 at e0 eh e17 eS hV2 hL1 hcon
      refine ⟨V2, hcon, Or.inr ?_⟩
      exact IVT.mk (pd := pd) h eL e17 hV2 (hL1.rows h8 h12 (fun _ _ _ => rfl) (fun a b _ ha _ => by rw [eh a ha])) (hK.cg h8 h12 (fun a b ha _ _ => by rw [eh a ha])) (hVa.2.2.same (fun q hq => by rw [eS q hq])) (by rw [eh 224 (by omega), eC 0 (by omega)]; exact h.1.2.2.2.1) (by rw [eh 224 (by omega), eC 1 (by omega)]; exact h.1.2.2.2.2.1) (by rw [eh 224 (by omega), eC 2 (by omega), e0]; exact h.1.2.2.2.2.2) (e0.trans hp) (by omega)
  · exact ⟨V, c_L_ch_end0 (ns := ns) hX hY h.1.2.2.2.1 h8 ek hk hr, Or.inl rfl⟩
theorem s_imp (h : IV nl ns o n V) (hp : V 0 4 = nI pd) (hpd : pd ≤ 20 * t) (h0 : 0 < nl) (hX : X < 2 ^ 31) (hY : Y < 2 ^ 31) : ∃ V', ChM l g V L 3 X Y V' ∧ (V' = V ∨ IVT (t + 1) V') := by
  have h8 := h.h8
  have h12 := h.h12
  obtain ⟨k, ek⟩ : ∃ k, atN (X / 4) nl = k := ⟨_, rfl⟩
  have hk : k < nl := by rw [← ek]; exact atN_b h0
  have hk8 : k < 8 := by omega
  obtain ⟨m1, em⟩ : ∃ m1, 1 + atN Y (if atN X 2 = 0 then 100000 else 500) = m1 := ⟨_, rfl⟩
  have bm : 1 ≤ m1 ∧ m1 ≤ 100000 := by
    have := atN_b (X := Y) (m := if atN X 2 = 0 then 100000 else 500) (ite_pos (by omega) (by omega))
    have h2 : (if atN X 2 = 0 then 100000 else 500) ≤ 100000 := ite_le (by omega) (by omega)
    omega
  by_cases hc : nI m1 ≤ V 224 (11 + k)
  · have eL : ∀ a b, a < 224 → lImp k (nI m1) V a b = V a b := fun a b ha => lImp_fr (Or.inl ha)
    have eC : ∀ b, b < 3 → lImp k (nI m1) V 224 b = V 224 b := fun b hb => lImp_fr (Or.inr ⟨rfl, hb⟩)
    have hVa := h.va eL
    have hT := c_X6_impair (l := l) (g := g) (L := L) (a1 := nI m1) hVa.2.1 hVa.1.1 hk (inN bm.1 (show m1 ≤ 1000000 by omega) (by omega)) (by rw [eL _ _ (by omega), ← h.1.2.1.as hk]; exact hc)
    have hL := (h.lw eL).imp (a := nI m1) h8 h12 hk
    have hK := h.1.2.2.1.imp (a := nI m1) h8 h12 hk
    have hV2 := (hVa.1.save (o := o) (n := n)).imp (a := nI m1) hk
    have hcon : ∀ V2 z, MC l yX6_impair cX6_impair 4 (some .int) 5 g (lImp k (nI m1) V) L [.ref (ad g 223), .int (nI k), .int (nI m1)] (some (.int z)) V2 L → V2 224 (11 + k) = z → ChM l g V L 3 X Y V2 := by
      intro V2 z hM he
      by_cases hr : 0 < V 225 (3 * k + 1)
      · exact c_L_ch_impa (ns := ns) hX hY h.1.2.2.2.1 h8 ek hk em hr hc hM he
      · exact c_L_ch_impb (ns := ns) hX hY h.1.2.2.2.1 h8 ek hk em hr hc hM he
    generalize lImp k (nI m1) V = Va at eL eC hVa hL hK hV2 hcon hT
    have eh : ∀ r, 224 ≤ r → cImp (3 + k) (nI m1) (cSave o n nl ns Va) r = Va r := fun r hr => by rw [cImp_o (by omega) (by omega), cSave_o h8 h12 (by omega)]
    have e17 : cImp (3 + k) (nI m1) (cSave o n nl ns Va) 217 = cSave o n nl ns Va 217 := cImp_o (by omega) (by omega)
    have e0 : cImp (3 + k) (nI m1) (cSave o n nl ns Va) 0 4 = V 0 4 := by rw [cImp_o (by omega) (by omega), cSave_o h8 h12 (by omega)]; exact eL 0 4 (by omega)
    have eS : ∀ q, q < ns → cImp (3 + k) (nI m1) (cSave o n nl ns Va) (19 + q) = Va (19 + q) := fun q hq => by rw [cImp_o (by omega) (by omega), cSave_o h8 h12 (by omega)]
    generalize cImp (3 + k) (nI m1) (cSave o n nl ns Va) = V2 at e0 eh e17 eS hV2 hL hT
    have hLL : Lw nl ns V2 V2 := hL.rows h8 h12 (fun _ _ _ => rfl) (fun a b _ ha _ => by rw [eh a ha])
    refine ⟨V2, hcon V2 _ hT (hLL.as hk), Or.inr ?_⟩
    exact IVT.mk (pd := pd) h eL e17 hV2 hLL (hK.cg h8 h12 (fun a b ha _ _ => by rw [eh a ha])) (hVa.2.2.same (fun q hq => by rw [eS q hq])) (by rw [eh 224 (by omega), eC 0 (by omega)]; exact h.1.2.2.2.1) (by rw [eh 224 (by omega), eC 1 (by omega)]; exact h.1.2.2.2.2.1) (by rw [eh 224 (by omega), eC 2 (by omega), e0]; exact h.1.2.2.2.2.2) (e0.trans hp) (by omega)
  · by_cases hr : 0 < V 225 (3 * k + 1)
    · exact ⟨V, c_L_ch_imp0a (ns := ns) hX hY h.1.2.2.2.1 h8 ek hk em hr hc, Or.inl rfl⟩
    · exact ⟨V, c_L_ch_imp0b (ns := ns) hX hY h.1.2.2.2.1 h8 ek hk em hr hc, Or.inl rfl⟩
theorem s_sub (h : IV nl ns o n V) (hp : V 0 4 = nI pd) (hpd : pd ≤ 20 * t) (h0 : 0 < nl) (hX : X < 2 ^ 31) (hY : Y < 2 ^ 31) : ∃ V', ChM l g V L 4 X Y V' ∧ (V' = V ∨ IVT (t + 1) V') := by
  have h8 := h.h8
  have h12 := h.h12
  obtain ⟨k, ek⟩ : ∃ k, atN (X / 4) nl = k := ⟨_, rfl⟩
  have hk : k < nl := by rw [← ek]; exact atN_b h0
  have hk8 : k < 8 := by omega
  obtain ⟨t1, et⟩ : ∃ t1, 1 + atN Y (if atN X 2 = 0 then 1000 else 300) = t1 := ⟨_, rfl⟩
  obtain ⟨m1, em⟩ : ∃ m1, 1 + atN (Y / 128) 10 = m1 := ⟨_, rfl⟩
  obtain ⟨c1, ec⟩ : ∃ c1, atN (Y / 8) 3000 = c1 := ⟨_, rfl⟩
  by_cases hr : 0 < V 225 (3 * k + 1)
  · by_cases hlt : V 225 (3 * k + 1) < nI m1
    · exact ⟨V, c_L_ch_sub1 (ns := ns) hX hY h.1.2.2.2.1 h8 ek hk et em ec hr hlt, Or.inl rfl⟩
    · by_cases hgt : nI 1000 < lOf V k 7 ns + nI t1
      · exact ⟨V, c_L_ch_sub2 (ns := ns) hX hY h.1.2.2.2.1 h8 ek hk et em ec hr h.1.2.2.2.2.1 h12 hlt hgt, Or.inl rfl⟩
      · by_cases h12e : ns = 12
        · exact ⟨V, c_L_ch_sub3 (ns := ns) hX hY h.1.2.2.2.1 h8 ek hk et em ec hr h.1.2.2.2.2.1 h12 hlt hgt h12e, Or.inl rfl⟩
        · have h12l : ns < 12 := by omega
          have bt : 1 ≤ t1 ∧ t1 ≤ 1000 := by
            have := atN_b (X := Y) (m := if atN X 2 = 0 then 1000 else 300) (ite_pos (by omega) (by omega))
            have h2 : (if atN X 2 = 0 then 1000 else 300) ≤ 1000 := ite_le (by omega) (by omega)
            omega
          have bm : 1 ≤ m1 ∧ m1 ≤ 60 := by
            have := atN_b (X := Y / 128) (m := 10) (by omega)
            omega
          have bc : c1 ≤ 100000 := by
            have := atN_b (X := Y / 8) (m := 3000) (by omega)
            omega
          have pt : partR (nI t1) := inN bt.1 bt.2 (by omega)
          have mn1 : termR (nI m1) := inN bm.1 bm.2 (by omega)
          have pn : perR (nI m1) := inN (by omega) bm.2 (by omega)
          have mc1 : money (nI c1) := inN (by omega) bc (by omega)
          have fr := lSubl_fr (k := k) (ns := ns) (t := nI t1) (rc := nI c1) (n := nI m1) (V := V)
          have hVa := h.va fr.1
          have hle : nI m1 ≤ V (3 + k) 1 := by rw [← h.1.2.1.f hk (by omega)]; exact Int32.not_lt.mp hlt
          have h7 : cSub V ns k 1 + nI t1 ≤ nI 1000 := by
            have e7 : lOf V k 7 ns = cSub V ns k 1 := h.1.2.1.p7 h.1.1.2.2.1
            rw [← e7]; exact Int32.not_lt.mp hgt
          have hT := c_X6_sublet (l := l) (g := g) (L := L) (t := nI t1) (rc := nI c1) (n := nI m1) hVa.2.1 hVa.1.1 hk pt mc1 mn1 ⟨by rw [fr.1 _ _ (by omega)]; exact hle, by rw [fr.1 _ _ (by omega), h.1.1.1.2.1.1]; exact nI_lt h12l (by omega), by rw [cSub_c (C := V) (fun q hq => funext fun b => fr.1 _ b (by omega))]; exact h7⟩ h12l
          have hL := (h.lw fr.1).subl (t := nI t1) (rc := nI c1) (n := nI m1) h8 h12l hk
          have hK := h.1.2.2.1.subl (t := nI t1) (rc := nI c1) (n := nI m1) h8 h12l hk
          have hz : rateR (V 225 (3 * k + 2)) := by rw [h.1.2.1.f hk (by omega)]; exact h.1.1.1.2.2.2.1 k hk
          have hcon := c_L_ch_sub (l := l) (g := g) (V := V) (L := L) (t := t1) (n := m1) (rc := c1) hX hY h.1.2.2.2.1 h8 ek hk et em ec hr h.1.2.2.2.2.1 h12 hlt hgt h12l hz hT mc1 pn
          have hV2 := (hVa.1.save (o := o) (n := n)).subl (t := nI t1) (rc := nI c1) (n := nI m1) h12l hk pn (by rw [cSave_o h8 h12 (by omega), fr.1 _ _ (by omega)]; exact hle)
          have hS2 := SM.subl (t := nI t1) (n := nI m1) (SM.same hVa.2.2 (fun q hq => by rw [cSave_o h8 h12 (by omega)])) (hVa.1.save (o := o) (n := n)) hk mc1
          generalize lSubl k ns (nI t1) (nI c1) (nI m1) V = Va at fr hVa hL hK hV2 hcon hS2
          have eh : ∀ r, 224 ≤ r → cAddS k ns (nI t1) (nI c1) (nI m1) (cSave o n nl ns Va) r = Va r := fun r hr => by rw [cAddS_o (by omega) (by omega) (by omega) (by omega), cSave_o h8 h12 (by omega)]
          have e17 : cAddS k ns (nI t1) (nI c1) (nI m1) (cSave o n nl ns Va) 217 = cSave o n nl ns Va 217 := cAddS_o (by omega) (by omega) (by omega) (by omega)
          have e0 : cAddS k ns (nI t1) (nI c1) (nI m1) (cSave o n nl ns Va) 0 4 = V 0 4 := by rw [cAddS_4, cSave_o h8 h12 (by omega)]; exact fr.1 0 4 (by omega)
          generalize cAddS k ns (nI t1) (nI c1) (nI m1) (cSave o n nl ns Va) = V2 at e0 eh e17 hV2 hL hcon hS2
          refine ⟨V2, hcon, Or.inr ?_⟩
          exact IVT.mk (pd := pd) h fr.1 e17 hV2 (hL.rows h8 (by omega) (fun _ _ _ => rfl) (fun a b _ ha _ => by rw [eh a ha])) (hK.cg h8 (by omega) (fun a b ha _ _ => by rw [eh a ha])) hS2 (by rw [eh 224 (by omega), fr.2.1]; exact h.1.2.2.2.1) (by rw [eh 224 (by omega), fr.2.2.1, h.1.2.2.2.2.1, nI_add]) (by rw [eh 224 (by omega), fr.2.2.2, e0]; exact h.1.2.2.2.2.2) (e0.trans hp) (by omega)
  · exact ⟨V, c_L_ch_sub0 (ns := ns) hX hY h.1.2.2.2.1 h8 ek hk et em ec hr, Or.inl rfl⟩
/-- one action -/
theorem s_act {V : Mem} {t a X Y : Nat} (h : IVT t V) (ht : t < 40) (ha : a < 16) (h0 : t = 0 → a = 0) (hX : X < 2 ^ 31) (hY : Y < 2 ^ 31) : ∃ V', ActM l g V L a X Y V' ∧ IVT (t + 1) V' := by
  obtain ⟨nl, ns, o, n, pd, hI, hp, hpd, z1, z2⟩ := h
  have h8 := hI.h8
  have stay : 0 < t → IVT (t + 1) V := fun hz => ⟨nl, ns, o, n, pd, hI, hp, by omega, fun q => absurd q (by omega), fun _ => z2 hz⟩
  by_cases a3 : a < 3
  · by_cases hl : nl = 8
    · rcases Nat.eq_zero_or_pos t with e | e
      · have := z1 e; omega
      · exact ⟨V, c_L_act_full hX hY a3 (by rw [hI.1.2.2.2.1, hl]), stay e⟩
    · exact s_open hI hp hpd (by omega) a3 hX hY
  · have tp : 0 < t := by
      rcases Nat.eq_zero_or_pos t with e | e
      · have := h0 e; omega
      · exact e
    by_cases a7 : a < 7
    · exact s_pass hI hp hpd ht (by omega) a7 hX hY
    · have go : ∀ j, (∃ V', ChM l g V L j X Y V' ∧ (V' = V ∨ IVT (t + 1) V')) → (∀ V', ChM l g V L j X Y V' → ActM l g V L a X Y V') → ∃ V', ActM l g V L a X Y V' ∧ IVT (t + 1) V' := by
        rintro j ⟨V', c1, c2⟩ hf
        refine ⟨V', hf V' c1, ?_⟩
        rcases c2 with c2 | c2
        · rw [c2]; exact stay tp
        · exact c2
      have c0 : ∀ j, nl = 0 → ChM l g V L j X Y V := fun j e => c_L_ch0 hX hY (by rw [hI.1.2.2.2.1, e])
      rcases Nat.eq_zero_or_pos nl with e | e
      · rcases (show a < 9 ∨ (9 ≤ a ∧ a < 11) ∨ a = 11 ∨ a = 12 ∨ 13 ≤ a by omega) with q | q | q | q | q
        · exact go 0 ⟨V, c0 0 e, Or.inl rfl⟩ (fun V' hM => c_L_act_ch0 hX hY (by omega) q hM)
        · exact go 1 ⟨V, c0 1 e, Or.inl rfl⟩ (fun V' hM => c_L_act_ch1 hX hY q.1 q.2 hM)
        · exact go 2 ⟨V, c0 2 e, Or.inl rfl⟩ (fun V' hM => c_L_act_ch2 hX hY q hM)
        · exact go 3 ⟨V, c0 3 e, Or.inl rfl⟩ (fun V' hM => c_L_act_ch3 hX hY q hM)
        · exact go 4 ⟨V, c0 4 e, Or.inl rfl⟩ (fun V' hM => c_L_act_ch4 hX hY q ha hM)
      · rcases (show a < 9 ∨ (9 ≤ a ∧ a < 11) ∨ a = 11 ∨ a = 12 ∨ 13 ≤ a by omega) with q | q | q | q | q
        · exact go 0 (s_term hI hp hpd e hX hY) (fun V' hM => c_L_act_ch0 hX hY (by omega) q hM)
        · exact go 1 (s_rent hI hp hpd e hX hY) (fun V' hM => c_L_act_ch1 hX hY q.1 q.2 hM)
        · exact go 2 (s_end hI hp hpd e hX hY) (fun V' hM => c_L_act_ch2 hX hY q hM)
        · exact go 3 (s_imp hI hp hpd e hX hY) (fun V' hM => c_L_act_ch3 hX hY q hM)
        · exact go 4 (s_sub hI hp hpd e hX hY) (fun V' hM => c_L_act_ch4 hX hY q ha hM)
end
