/-! FRAMES: what the changes leave -/
/-- only z's rows of leases and subleases differ -/
def ZK (Z0 Z : Mem) : Prop := (∀ a, a ≠ 225 → Z a = Z0 a) ∧ ∀ b, b < 3 → Z 225 b = Z0 225 b
theorem ZK.rfl' {Z : Mem} : ZK Z Z := ⟨fun _ _ => rfl, fun _ _ => rfl⟩
theorem ZK.put {Z0 Z : Mem} {b : Nat} {x : Int32} (h : ZK Z0 Z) (hb : 3 ≤ b) : ZK Z0 (mset Z 225 b x) := ⟨fun a ha => by rw [mset_o ha]; exact h.1 a ha, fun i hi => by rw [mset_ne (by omega)]; exact h.2 i hi⟩
theorem ZK.mv {Z0 Z : Mem} {k m : Nat} {x : Int32} (h : ZK Z0 Z) : ZK Z0 (rMv k m x Z) := by unfold rMv; exact h.put (by omega)
theorem ZK.imp {Z0 Z : Mem} {k : Nat} {a : Int32} (h : ZK Z0 Z) : ZK Z0 (rImp k a Z) := by unfold rImp; exact (h.put (by omega)).mv
theorem ZK.endp {Z0 Z : Mem} {k : Nat} {t fee : Int32} (h : ZK Z0 Z) : ZK Z0 (rEnd k t fee Z) := by
  unfold rEnd
  exact (((((h.put (by omega)).put (by omega)).put (by omega)).mv).mv).mv
theorem ZK.cut {Z0 Z : Mem} {k : Nat} {n : Int32} (h : ZK Z0 Z) : ∀ i, ZK Z0 (rCut k n Z i)
  | 0 => h
  | i + 1 => by
    show ZK Z0 (rCutS k n i (rCut k n Z i))
    unfold rCutS
    split
    · exact (((h.cut i).mv).put (by omega)).put (by omega)
    · exact h.cut i
theorem ZK.meas {Z0 Z : Mem} {k ns : Nat} {p n r : Int32} (h : ZK Z0 Z) : ZK Z0 (rMeas k p n r ns Z) := by
  unfold rMeas
  refine ZK.cut ?_ ns
  unfold rMeas0 rMeasA
  exact ((((((h.mv).mv).put (by omega)).put (by omega)).put (by omega)).put (by omega)).put (by omega)
theorem ZK.psub {Z0 Z : Mem} {k : Nat} (h : ZK Z0 Z) : ∀ i, ZK Z0 (rPSub k Z i)
  | 0 => h
  | i + 1 => by
    show ZK Z0 (rPSubS k i (rPSub k Z i))
    unfold rPSubS
    split
    · exact ((((h.psub i).put (by omega)).mv).mv).put (by omega)
    · exact h.psub i
theorem ZK.pl {Z0 Z : Mem} {k ns : Nat} (h : ZK Z0 Z) : ZK Z0 (rPL k ns Z) := by
  unfold rPL
  split
  · refine ZK.psub ?_ ns
    unfold rPL0
    exact (((((h.put (by omega)).mv).mv).mv).put (by omega)).put (by omega)
  · exact h
theorem ZK.pass {Z0 Z : Mem} {nl ns : Nat} (h : ZK Z0 Z) : ∀ d, ZK Z0 (rPass nl ns Z d)
  | 0 => h
  | d + 1 => by
    have hA : ∀ k, ZK Z0 (rPAll ns (rPass nl ns Z d) k) := by
      intro k
      induction k with
      | zero => exact h.pass d
      | succ k ih => exact ih.pl
    exact hA nl
theorem rSubl_fr {k ns : Nat} {t rc n : Int32} {Z : Mem} : (∀ a, a ≠ 225 → rSubl k ns t rc n Z a = Z a) ∧ rSubl k ns t rc n Z 225 0 = Z 225 0 ∧ rSubl k ns t rc n Z 225 1 = Z 225 1 + nI 1 ∧ rSubl k ns t rc n Z 225 2 = Z 225 2 := by
  have key : ∃ W, ZK Z W ∧ rSubl k ns t rc n Z = mset W 225 1 (W 225 1 + nI 1) := by
    unfold rSubl
    exact ⟨_, ((((((((((ZK.rfl').put (by omega)).put (by omega)).put (by omega)).put (by omega)).put (by omega)).put (by omega)).put (by omega)).mv).mv), rfl⟩
  obtain ⟨W, hW, e⟩ := key
  rw [e]
  exact ⟨fun a ha => by rw [mset_o ha]; exact hW.1 a ha, by rw [mset_ne (by omega)]; exact hW.2 0 (by omega), by rw [mset_at, hW.2 1 (by omega)], by rw [mset_ne (by omega)]; exact hW.2 2 (by omega)⟩
theorem rOpn_fr {k : Nat} {p n r c : Int32} {Z : Mem} : (∀ a, a ≠ 225 → rOpn k p n r c Z a = Z a) ∧ rOpn k p n r c Z 225 0 = Z 225 0 + nI 1 ∧ rOpn k p n r c Z 225 1 = Z 225 1 ∧ rOpn k p n r c Z 225 2 = Z 225 2 :=
  ⟨fun a ha => rOpn_row ha, rOpn_0, rOpn_ne (by omega) (by omega), rOpn_ne (by omega) (by omega)⟩
theorem cEnd_o {k r : Nat} {t fee : Int32} {V : Mem} (h : r ≠ k) (h2 : r ≠ k + 8) : cEnd k t fee V r = V r := by
  unfold cEnd
  rw [cMv_o h2, cMv_o h2, cMv_o h2, mset_o h, mset_o h, mset_o h]
theorem cImp_o {k r : Nat} {a : Int32} {V : Mem} (h : r ≠ k) (h2 : r ≠ k + 8) : cImp k a V r = V r := by
  unfold cImp
  rw [cMv_o h2, mset_o h]
theorem cMeasSt_o {k ns r : Nat} {n z : Int32} {V : Mem} (h12 : ns ≤ 12) (hk : k < 8) (h : r < 3 ∨ 31 ≤ r) : cMeasSt k ns n z V r = V r := by
  unfold cMeasSt cCutO
  rw [cCut_o ns (by omega), cMv_o (by omega), cMeas_o (by omega) (by omega)]
theorem cPassSt_o {nl ns d r : Nat} {C : Mem} (h : CI nl ns C) (hr : 31 ≤ r) : cPassSt nl ns d C r = C r := by
  have h8 := h.1.2
  have h12 := h.2.1.2
  unfold cPassSt
  have hh : hdR nl ns (cPLs d (mset C 0 4 (C 0 4 + nI d)) nl) := fun q hq => by
    rw [cPLs_o nl h8 (by omega), mset_o (by omega)]
    exact h.2.2.2.2.1 q hq
  rw [cPSs_o hh h8 ns (Nat.le_refl _) (by omega), cPLs_o nl h8 (by omega), mset_o (by omega)]
theorem cAddL_4 {nl : Nat} {p n z c : Int32} {V : Mem} : cAddL nl p n z c V 0 4 = V 0 4 := by
  unfold cAddL
  rw [cBeg_o (by omega) (by omega), mset_ne (by omega)]
theorem cAddS_4 {k ns : Nat} {t rc n : Int32} {V : Mem} : cAddS k ns t rc n V 0 4 = V 0 4 := by
  unfold cAddS cSubT
  rw [cMv_o (by omega), cMv_o (by omega), mset_o (by omega), mset_o (by omega), mset_o (by omega), mset_o (by omega), mset_o (by omega), mset_o (by omega), mset_o (by omega), mset_ne (by omega)]
theorem otS_4 {nl : Nat} {T W : Mem} : ∀ q, nl + cntS T q ≤ 8 → otS nl T W q 0 4 = W 0 4
  | 0, _ => rfl
  | q + 1, hq => by
    have hm := cntS_mono (V := T) (q := q) 1
    show tkM _ _ 0 4 = _
    rw [tkM_o (by omega) (by omega)]
    split
    · unfold cRd
      rw [cAddL_4]
      exact otS_4 q (by omega)
    · exact otS_4 q (by omega)
theorem otA_4 {nl m : Nat} {V : Mem} (h8 : nl + cntS V m + 1 ≤ 8) : otA nl m V 0 4 = V 0 4 := by
  unfold otA cRd
  rw [cAddL_4, otS_4 m (by omega), rdR_o (by omega)]
theorem rSave_n {n : Nat} {V : Mem} (h : V 224 3 = nI n) (h6 : n ≤ 6) : rSave n V 224 3 = nI (if n = 6 then 6 else n + 1) := by
  unfold rSave
  by_cases e : n = 6
  · rw [if_pos e, if_pos e]
    unfold rSave6
    show mset _ 224 3 _ 224 3 = _
    rw [mset_at, rCp_ne (by omega), mset_at, rSh_ne (by omega), h, e]
    decide
  · rw [if_neg e, if_neg e]
    unfold rSaveL
    show mset _ 224 3 _ 224 3 = _
    rw [mset_at, rCp_ne (by omega), h, nI_add]
