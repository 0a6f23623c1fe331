/-! RECEIPTS: whatever a row holds, its receipt is money -/
def GM (V : Mem) : Prop := ∀ r, kd r = 5 → money (V r 2)
theorem GM.rows {V V' : Mem} (h : GM V) (e : ∀ r, kd r = 5 → V' r = V r) : GM V' := fun r hr => by rw [e r hr]; exact h r hr
theorem GM.mne {V : Mem} {k i : Nat} {x : Int32} (h : GM V) (hi : i ≠ 2) : GM (mset V k i x) := fun r hr => by rw [mset_ne (by omega)]; exact h r hr
theorem GM.mkd {V : Mem} {k i : Nat} {x : Int32} (h : GM V) (hk : kd k ≠ 5) : GM (mset V k i x) := fun r hr => by
  rw [mset_ne (fun z => hk (by rw [← z.1]; exact hr))]; exact h r hr
theorem GM.mok {V : Mem} {k i : Nat} {x : Int32} (h : GM V) (hx : money x) : GM (mset V k i x) := fun r hr => by
  by_cases e : r = k ∧ 2 = i
  · rw [← e.1, ← e.2, mset_at]; exact hx
  · rw [mset_ne e]; exact h r hr
theorem GM.mv {V : Mem} {k q : Nat} {x : Int32} (h : GM V) (hk : kd (k + 8) ≠ 5 ∨ q ≠ 2) : GM (cMv k q x V) := by
  unfold cMv
  rcases hk with hk | hk
  · exact h.mkd hk
  · exact h.mne hk
theorem GM.rcp {V : Mem} {k n : Nat} {f : Nat → Int32} (h : GM V) (hk : kd k ≠ 5) : GM (rcpy V k f n) := fun r hr => by
  rw [rcpy_ne (fun z => hk (by rw [← z]; exact hr))]; exact h r hr
theorem kn_L {k : Nat} (h : k < 8) : kd (3 + k) ≠ 5 := by rw [kdL h]; omega
theorem kn_S {k : Nat} (h : k < 8) : kd (3 + k + 8) ≠ 5 := by unfold kd; (repeat' split) <;> omega
theorem GM.meas {V : Mem} {k : Nat} {p n r : Int32} (h : GM V) (hk : k < 8) : GM (cMeas (3 + k) p n r V) := by
  unfold cMeas
  exact (((((((h.mv (Or.inr (by omega))).mv (Or.inr (by omega))).mkd (kn_L hk)).mkd (kn_L hk)).mkd (kn_L hk)).mkd (kn_L hk)).mkd (kn_L hk))
theorem GM.endp {V : Mem} {k : Nat} {t fee : Int32} (h : GM V) (hk : k < 8) : GM (cEnd (3 + k) t fee V) := by
  unfold cEnd
  exact (((((h.mkd (kn_L hk)).mkd (kn_L hk)).mkd (kn_L hk)).mv (Or.inr (by omega))).mv (Or.inr (by omega))).mv (Or.inr (by omega))
theorem GM.imp {V : Mem} {k : Nat} {a : Int32} (h : GM V) (hk : k < 8) : GM (cImp (3 + k) a V) := by
  unfold cImp
  exact (h.mkd (kn_L hk)).mv (Or.inr (by omega))
theorem GM.addL {V : Mem} {nl : Nat} {p n r c : Int32} (h : GM V) (hk : nl < 8) : GM (cAddL nl p n r c V) := by
  have h0 : kd 0 ≠ 5 := by decide
  unfold cAddL cBeg
  exact ((((((((((h.mkd h0).rcp (kn_S hk)).mkd (kn_L hk)).mkd (kn_L hk)).mkd (kn_L hk)).mkd (kn_L hk)).mkd (kn_L hk)).mv (Or.inr (by omega))).mv (Or.inr (by omega))).mv (Or.inr (by omega)))
theorem GM.addS {V : Mem} {k ns : Nat} {t rc n : Int32} (h : GM V) (hk : k < 8) (hr : money rc) : GM (cAddS k ns t rc n V) := by
  have h0 : kd 0 ≠ 5 := by decide
  unfold cAddS cSubT
  exact (((((((((h.mkd h0).mne (by omega)).mne (by omega)).mok hr).mne (by omega)).mne (by omega)).mne (by omega)).mkd (kn_L hk)).mv (Or.inr (by omega))).mv (Or.inr (by omega))
theorem GM.cut {V : Mem} {k : Nat} (h : GM V) : ∀ i, GM (cCut k V i)
  | 0 => h
  | i + 1 => by
    show GM (cCutS k i (cCut k V i))
    unfold cCutS
    split
    · exact ((h.cut i).mne (by omega)).mne (by omega)
    · exact h.cut i
theorem GM.term {V : Mem} {k ns : Nat} {n r : Int32} (h : GM V) (hk : k < 8) : GM (cMeasSt k ns n r V) := by
  unfold cMeasSt cCutO
  exact ((h.meas hk).mv (Or.inr (by omega))).cut ns
theorem GM.scp {V : Mem} {k j : Nat} (h : GM V) (hj : kd j = 5) : GM (sCpy k j V) := by
  unfold sCpy
  refine (((((h.mne (by omega)).mne (by omega)).mok ?_).mne (by omega)).mne (by omega)).mne (by omega)
  rw [mset_ne (by omega), mset_ne (by omega)]
  exact h j hj
theorem GM.cpy {V : Mem} {b b2 nl ns : Nat} (h : GM V) (hb : kd b = 0) (hb2 : kd b2 = 0) (h8 : nl ≤ 8) (h12 : ns ≤ 12) : GM (cpySt b b2 nl ns V) := by
  have h3 : GM (st3 b b2 V) := by
    unfold st3
    exact ((h.mkd (by rw [hb]; omega)).mkd (by rw [hb]; omega)).mkd (by rw [hb]; omega)
  have hL : ∀ i, i ≤ 8 → GM (stL b b2 (st3 b b2 V) i) := by
    intro i
    induction i with
    | zero => exact fun _ => h3
    | succ i ih =>
      intro hi
      have k1 : kd (b + 3 + i) = 3 := kd_ls hb (by omega)
      have k2 : kd (b + 3 + i + 8) = 4 := kd_sums k1
      show GM (cCpy (b + 3 + i) (b2 + 3 + i) (stL b b2 (st3 b b2 V) i))
      unfold cCpy cCpy5
      exact ((((((ih (by omega)).mkd (by rw [k1]; omega)).mkd (by rw [k1]; omega)).mkd (by rw [k1]; omega)).mkd (by rw [k1]; omega)).mkd (by rw [k1]; omega)).rcp (by rw [k2]; omega)
  have hS : ∀ i, i ≤ 12 → GM (stS b b2 (stL b b2 (st3 b b2 V) nl) i) := by
    intro i
    induction i with
    | zero => exact fun _ => hL nl h8
    | succ i ih =>
      intro hi
      exact (ih (by omega)).scp (kd_sb hb2 (by omega))
  exact hS ns h12
theorem kd_slR {o a : Nat} : kd (slR o a) = 0 := slR_k.1
theorem GM.save {V : Mem} {o n nl ns : Nat} (h : GM V) (h8 : nl ≤ 8) (h12 : ns ≤ 12) : GM (cSave o n nl ns V) := by
  have k0 : kd 0 = 0 := by decide
  have k1 : kd 217 ≠ 5 := by decide
  unfold cSave
  split
  · unfold hSave6 hSave
    exact (((h.mkd k1).mkd k1).cpy kd_slR k0 h8 h12).mkd k1
  · unfold hSave
    exact (h.cpy kd_slR k0 h8 h12).mkd k1
theorem GM.rest {V : Mem} {o n nl ns : Nat} (h : GM V) (h8 : nl ≤ 8) (h12 : ns ≤ 12) : GM (hRest o n nl ns V) := by
  unfold hRest
  exact (h.cpy (by decide) kd_slR h8 h12).mkd (by decide)
theorem GM.tk {V : Mem} {x : Int32} (h : GM V) : GM (tkM V x) := h.rows (fun r hr => tkM_o (fun z => by rw [z] at hr; exact absurd hr (by decide)) (fun z => by rw [z] at hr; exact absurd hr (by decide)))
theorem GM.rdr {V : Mem} (h : GM V) : GM (rdR V) := by
  unfold Jvm.Pilot.CLeaseBookLaw_law_r4542_dfcdb2.rdR
  exact (h.mkd (by decide)).mkd (by decide)
theorem GM.rd {V : Mem} {nl : Nat} (h : GM V) (hk : nl < 8) : GM (cRd nl V) := h.addL hk
theorem GM.ots {T W : Mem} {nl m : Nat} (h : GM W) (h8 : nl + cntS T m + 1 ≤ 8) : ∀ q, q ≤ m → GM (otS nl T W q)
  | 0, _ => h
  | q + 1, hq => by
    have hm := cntS_mono (V := T) (q := q) (m - q)
    rw [show q + (m - q) = m by omega] at hm
    show GM (tkM _ _)
    refine GM.tk ?_
    split
    · exact (h.ots h8 q (by omega)).rd (by omega)
    · exact h.ots h8 q (by omega)
theorem GM.ota {V : Mem} {nl m : Nat} (h : GM V) (h8 : nl + cntS V m + 1 ≤ 8) : GM (otA nl m V) := by
  unfold Jvm.Pilot.CLeaseBookLaw_law_r4542_dfcdb2.otA
  exact (h.rdr.ots h8 m (Nat.le_refl _)).rd (by omega)
theorem GM.pass {V : Mem} {nl ns d : Nat} (h : GM V) (h8 : nl ≤ 8) : GM (cPassSt nl ns d V) := by
  have hL : ∀ i, i ≤ 8 → GM (cPLs d (mset V 0 4 (V 0 4 + nI d)) i) := by
    intro i
    induction i with
    | zero => exact fun _ => h.mne (by omega)
    | succ i ih =>
      intro hi
      show GM (cPass (3 + i) _ d _)
      unfold cPass
      exact ((((((ih (by omega)).mv (Or.inr (by omega))).mv (Or.inl (kn_S (by omega)))).mv (Or.inr (by omega))).mne (by omega)).mne (by omega)).mne (by omega)
  have hS : ∀ i, GM (cPSs (nI d) (cPLs d (mset V 0 4 (V 0 4 + nI d)) nl) i) := by
    intro i
    induction i with
    | zero => exact hL nl h8
    | succ i ih =>
      show GM (sPassH i (nI d) _)
      unfold sPassH sPass
      exact (((ih.mv (Or.inr (by omega))).mv (Or.inr (by omega))).mne (by omega)).mne (by omega)
  exact hS ns
/-- the receivables' sum is small, so the share is 0 or a normal number -/
theorem VI.rec5 {nl ns k : Nat} {C : Mem} (h : VI nl ns C) (hG : GM C) : ∀ q, q ≤ ns → ∃ S, S ≤ 6000000 * q ∧ sF (runU C k) (fun q => C (19 + q) 5) q = nI S
  | 0, _ => ⟨0, by omega, rfl⟩
  | q + 1, hq => by
    obtain ⟨S, h1, h2⟩ := VI.rec5 h hG q (by omega)
    have hS := h.2.2.1 q (by omega)
    have h12 := h.1.2.1.2
    obtain ⟨w, h3, h4⟩ := wor_of (hG (19 + q) (kdQ (by omega))) hS.1 (h.1.2.2.2.2.2 q (by omega))
    rw [sF, h2]
    by_cases hr : runU C k q = true
    · exact ⟨S + w, by omega, by rw [if_pos hr, hS.2, h4, nI_add]⟩
    · exact ⟨S, by omega, by rw [if_neg hr]⟩
theorem VI.sum5 {nl ns : Nat} {C : Mem} (h : VI nl ns C) (hG : GM C) : ∀ j, j ≤ nl → ∃ S, S ≤ 72000000 * j ∧ cSumL C j ns 5 = nI S
  | 0, _ => ⟨0, by omega, rfl⟩
  | j + 1, hj => by
    obtain ⟨S, h1, h2⟩ := VI.sum5 h hG j (by omega)
    have h12 := h.1.2.1.2
    obtain ⟨w, h3, h4⟩ := VI.rec5 (k := j) h hG ns (Nat.le_refl _)
    refine ⟨S + w, by omega, ?_⟩
    unfold cSumL at h2 ⊢
    rw [sF, if_pos rfl, h2, show cProp C ns j 5 = sF (runU C j) (fun q => C (19 + q) 5) ns from rfl, h4, nI_add]
theorem VI.off {nl ns : Nat} {C : Mem} (h : VI nl ns C) (hG : GM C) : cOff C nl ns = FP.dconst0 ∨ ∃ (c : Nat) (q : Int), NV (cOff C nl ns) c q ∧ -84 ≤ q ∧ q ≤ -20 := by
  have h8 := h.1.1.2
  obtain ⟨S, h1, h2⟩ := h.sum3 nl (Nat.le_refl _)
  obtain ⟨R, h3, h4⟩ := h.sum5 hG nl (Nat.le_refl _)
  unfold cOff
  rw [h2, h4]
  by_cases hS : S = 0
  · left
    rw [hS, if_neg (by decide)]
  · rw [if_pos (Int32.not_le.mp (nI_nle (by omega) (by omega)))]
    by_cases hR : R = 0
    · left
      rw [hR, quo_0 (by omega) (by omega)]
    · exact Or.inr (quo_NV (by omega) (by omega) (by omega) (by omega))
theorem c_X6_dig {l : Launch} {g : GC} {V : Mem} {L : LMem} {nl ns m0 : Nat} (h : VI nl ns V) (hG : GM V) (hm : V 219 1 = nI m0) (h60 : m0 ≤ 60) : MC l yX6_digest cX6_digest 5 (some .long) 7 g V L [.ref (ad g 223)] (some (.long (cDg V nl ns m0))) V L := c_X6_digest h.1 (fun k hk => (h.2.1 k hk).1) hm h60 (c_X6_bitsOf (h.off hG))
