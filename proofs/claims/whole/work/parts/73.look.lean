/-! THE LAW'S STEPS: names (laid by wip/whole/p73.py) -/
def StL (W : Nat → Nat → Nat → Mem → LMem → Prop) (M : Mem → LMem → Int32 → Mem → LMem → Prop) : Prop := ∃ (mc ms k : Nat) (V1 : Mem) (L1 : LMem) (b : Int32) (V2 : Mem) (L2 : LMem) (nl ns o n bm : Nat), mc ≤ 1 ∧ ms ≤ 6 ∧ k < 4 ∧ W mc ms k V1 L1 ∧ M V1 L1 b V2 L2 ∧ V2 224 6 = nI k ∧ (k = 0 → L2 1 = b.toInt64) ∧ IV nl ns o n bm V2
abbrev WX_open (l : Launch) (g : GC) (V : Mem) (L : LMem) (p0 p1 p2 p3 : Int32) : Nat → Nat → Nat → Mem → LMem → Prop := fun mc ms k V1 L1 => WM l yL_open cL_open 7 (some .int) [(0, 14, 17, 13), (0, 14, 21, 15)] 9 mc ms g V L [.ref (ad g 223), .int p0, .int p1, .int p2, .int p3, .ref (ad g 230)] (some (.int (nI k))) V1 L1
abbrev MX_open (l : Launch) (g : GC) (p0 p1 p2 p3 : Int32) : Mem → LMem → Int32 → Mem → LMem → Prop := fun V1 L1 b V2 L2 => MC l yX7_open cX7_open 5 (some .int) 6 g V1 L1 [.ref (ad g 224), .int p0, .int p1, .int p2, .int p3] (some (.int b)) V2 L2
abbrev WX_term (l : Launch) (g : GC) (V : Mem) (L : LMem) (p0 p1 p2 : Int32) : Nat → Nat → Nat → Mem → LMem → Prop := fun mc ms k V1 L1 => WM l yL_term cL_term 6 (some .int) [(0, 12, 15, 21), (0, 12, 19, 13), (0, 12, 23, 15)] 9 mc ms g V L [.ref (ad g 223), .int p0, .int p1, .int p2, .ref (ad g 230)] (some (.int (nI k))) V1 L1
abbrev MX_term (l : Launch) (g : GC) (p0 p1 p2 : Int32) : Mem → LMem → Int32 → Mem → LMem → Prop := fun V1 L1 b V2 L2 => MC l yX7_term cX7_term 4 (some .int) 6 g V1 L1 [.ref (ad g 224), .int p0, .int p1, .int p2] (some (.int b)) V2 L2
abbrev WX_rent (l : Launch) (g : GC) (V : Mem) (L : LMem) (p0 p1 : Int32) : Nat → Nat → Nat → Mem → LMem → Prop := fun mc ms k V1 L1 => WM l yL_rent cL_rent 5 (some .int) [(0, 10, 13, 21), (0, 10, 17, 13), (0, 10, 21, 15)] 9 mc ms g V L [.ref (ad g 223), .int p0, .int p1, .ref (ad g 230)] (some (.int (nI k))) V1 L1
abbrev MX_rent (l : Launch) (g : GC) (p0 p1 : Int32) : Mem → LMem → Int32 → Mem → LMem → Prop := fun V1 L1 b V2 L2 => MC l yX7_rent cX7_rent 3 (some .int) 6 g V1 L1 [.ref (ad g 224), .int p0, .int p1] (some (.int b)) V2 L2
abbrev WX_endPart (l : Launch) (g : GC) (V : Mem) (L : LMem) (p0 p1 p2 : Int32) : Nat → Nat → Nat → Mem → LMem → Prop := fun mc ms k V1 L1 => WM l yL_endPart cL_endPart 6 (some .int) [(0, 12, 15, 21), (0, 12, 19, 13), (0, 12, 23, 15)] 9 mc ms g V L [.ref (ad g 223), .int p0, .int p1, .int p2, .ref (ad g 230)] (some (.int (nI k))) V1 L1
abbrev MX_endPart (l : Launch) (g : GC) (p0 p1 p2 : Int32) : Mem → LMem → Int32 → Mem → LMem → Prop := fun V1 L1 b V2 L2 => MC l yX7_endPart cX7_endPart 8 (some .int) 6 g V1 L1 [.ref (ad g 224), .int p0, .int p1, .int p2] (some (.int b)) V2 L2
abbrev WX_impair (l : Launch) (g : GC) (V : Mem) (L : LMem) (p0 p1 : Int32) : Nat → Nat → Nat → Mem → LMem → Prop := fun mc ms k V1 L1 => WM l yL_impair cL_impair 5 (some .int) [(0, 10, 13, 21), (0, 10, 17, 13), (0, 10, 21, 15)] 9 mc ms g V L [.ref (ad g 223), .int p0, .int p1, .ref (ad g 230)] (some (.int (nI k))) V1 L1
abbrev MX_impair (l : Launch) (g : GC) (p0 p1 : Int32) : Mem → LMem → Int32 → Mem → LMem → Prop := fun V1 L1 b V2 L2 => MC l yX7_impair cX7_impair 3 (some .int) 6 g V1 L1 [.ref (ad g 224), .int p0, .int p1] (some (.int b)) V2 L2
abbrev WX_sublet (l : Launch) (g : GC) (V : Mem) (L : LMem) (p0 p1 p2 p3 : Int32) : Nat → Nat → Nat → Mem → LMem → Prop := fun mc ms k V1 L1 => WM l yL_sublet cL_sublet 7 (some .int) [(0, 14, 17, 21), (0, 14, 21, 13), (0, 14, 25, 15)] 9 mc ms g V L [.ref (ad g 223), .int p0, .int p1, .int p2, .int p3, .ref (ad g 230)] (some (.int (nI k))) V1 L1
abbrev MX_sublet (l : Launch) (g : GC) (p0 p1 p2 p3 : Int32) : Mem → LMem → Int32 → Mem → LMem → Prop := fun V1 L1 b V2 L2 => MC l yX7_sublet cX7_sublet 8 (some .int) 6 g V1 L1 [.ref (ad g 224), .int p0, .int p1, .int p2, .int p3] (some (.int b)) V2 L2
abbrev WX_pass (l : Launch) (g : GC) (V : Mem) (L : LMem) (p0 : Int32) : Nat → Nat → Nat → Mem → LMem → Prop := fun mc ms k V1 L1 => WM l yL_pass cL_pass 4 (some .int) [(0, 9, 12, 13), (0, 9, 15, 15)] 9 mc ms g V L [.ref (ad g 223), .int p0, .ref (ad g 230)] (some (.int (nI k))) V1 L1
abbrev MX_pass (l : Launch) (g : GC) (p0 : Int32) : Mem → LMem → Int32 → Mem → LMem → Prop := fun V1 L1 b V2 L2 => MC l yX7_pass cX7_pass 4 (some .int) 6 g V1 L1 [.ref (ad g 224), .int p0] (some (.int b)) V2 L2
abbrev WX_append (l : Launch) (g : GC) (V : Mem) (L : LMem) (p0 : Int32) : Nat → Nat → Nat → Mem → LMem → Prop := fun mc ms k V1 L1 => WM l yL_append cL_append 4 (some .int) [(0, 9, 12, 13), (0, 9, 15, 15)] 9 mc ms g V L [.ref (ad g 223), .int p0, .ref (ad g 230)] (some (.int (nI k))) V1 L1
abbrev MX_append (l : Launch) (g : GC) (p0 : Int32) : Mem → LMem → Int32 → Mem → LMem → Prop := fun V1 L1 b V2 L2 => MC l yX7_append cX7_append 2 (some .int) 6 g V1 L1 [.ref (ad g 224), .int p0] (some (.int b)) V2 L2
abbrev WX_openAll (l : Launch) (g : GC) (V : Mem) (L : LMem) : Nat → Nat → Nat → Mem → LMem → Prop := fun mc ms k V1 L1 => WM l yL_openAll cL_openAll 3 (some .int) [(0, 8, 11, 13), (0, 8, 14, 15)] 9 mc ms g V L [.ref (ad g 223), .ref (ad g 230)] (some (.int (nI k))) V1 L1
abbrev MX_openAll (l : Launch) (g : GC) : Mem → LMem → Int32 → Mem → LMem → Prop := fun V1 L1 b V2 L2 => MC l yX7_openAll cX7_openAll 2 (some .int) 6 g V1 L1 [.ref (ad g 224)] (some (.int b)) V2 L2
abbrev WX_undo (l : Launch) (g : GC) (V : Mem) (L : LMem) : Nat → Nat → Nat → Mem → LMem → Prop := fun mc ms k V1 L1 => WM l yL_undo cL_undo 3 (some .int) [(0, 8, 11, 15)] 9 mc ms g V L [.ref (ad g 223), .ref (ad g 230)] (some (.int (nI k))) V1 L1
abbrev MX_undo (l : Launch) (g : GC) : Mem → LMem → Int32 → Mem → LMem → Prop := fun V1 L1 b V2 L2 => MC l yX7_undo cX7_undo 2 (some .int) 6 g V1 L1 [.ref (ad g 224)] (some (.int b)) V2 L2
abbrev WX_lease (l : Launch) (g : GC) (V : Mem) (L : LMem) (p0 p1 : Int32) : Nat → Nat → Nat → Mem → LMem → Prop := fun mc ms k V1 L1 => WM l yL_lease cL_lease 5 (some .int) [(0, 10, 13, 21), (0, 10, 17, 13)] 9 mc ms g V L [.ref (ad g 223), .int p0, .int p1, .ref (ad g 230)] (some (.int (nI k))) V1 L1
abbrev MX_lease (l : Launch) (g : GC) (p0 p1 : Int32) : Mem → LMem → Int32 → Mem → LMem → Prop := fun V1 L1 b V2 L2 => MC l yX7_lease cX7_lease 3 (some .int) 6 g V1 L1 [.ref (ad g 224), .int p0, .int p1] (some (.int b)) V2 L2
abbrev WX_sublease (l : Launch) (g : GC) (V : Mem) (L : LMem) (p0 p1 : Int32) : Nat → Nat → Nat → Mem → LMem → Prop := fun mc ms k V1 L1 => WM l yL_sublease cL_sublease 5 (some .int) [(0, 10, 13, 21), (0, 10, 17, 13)] 9 mc ms g V L [.ref (ad g 223), .int p0, .int p1, .ref (ad g 230)] (some (.int (nI k))) V1 L1
abbrev MX_sublease (l : Launch) (g : GC) (p0 p1 : Int32) : Mem → LMem → Int32 → Mem → LMem → Prop := fun V1 L1 b V2 L2 => MC l yX7_sublease cX7_sublease 3 (some .int) 6 g V1 L1 [.ref (ad g 224), .int p0, .int p1] (some (.int b)) V2 L2
abbrev WX_movement (l : Launch) (g : GC) (V : Mem) (L : LMem) (p0 p1 : Int32) : Nat → Nat → Nat → Mem → LMem → Prop := fun mc ms k V1 L1 => WM l yL_movement cL_movement 5 (some .int) [(0, 10, 13, 21), (0, 10, 17, 13)] 9 mc ms g V L [.ref (ad g 223), .int p0, .int p1, .ref (ad g 230)] (some (.int (nI k))) V1 L1
abbrev MX_movement (l : Launch) (g : GC) (p0 p1 : Int32) : Mem → LMem → Int32 → Mem → LMem → Prop := fun V1 L1 b V2 L2 => MC l yX7_movement cX7_movement 3 (some .int) 6 g V1 L1 [.ref (ad g 224), .int p0, .int p1] (some (.int b)) V2 L2
abbrev WX_profit (l : Launch) (g : GC) (V : Mem) (L : LMem) (p0 p1 : Int32) : Nat → Nat → Nat → Mem → LMem → Prop := fun mc ms k V1 L1 => WM l yL_profit cL_profit 5 (some .int) [(0, 10, 13, 21), (0, 10, 17, 13)] 9 mc ms g V L [.ref (ad g 223), .int p0, .int p1, .ref (ad g 230)] (some (.int (nI k))) V1 L1
abbrev MX_profit (l : Launch) (g : GC) (p0 p1 : Int32) : Mem → LMem → Int32 → Mem → LMem → Prop := fun V1 L1 b V2 L2 => MC l yX7_profit cX7_profit 3 (some .int) 6 g V1 L1 [.ref (ad g 224), .int p0, .int p1] (some (.int b)) V2 L2
abbrev WX_count (l : Launch) (g : GC) (V : Mem) (L : LMem) (p0 : Int32) : Nat → Nat → Nat → Mem → LMem → Prop := fun mc ms k V1 L1 => WM l yL_count cL_count 4 (some .int) [(0, 9, 12, 13)] 9 mc ms g V L [.ref (ad g 223), .int p0, .ref (ad g 230)] (some (.int (nI k))) V1 L1
abbrev MX_count (l : Launch) (g : GC) (p0 : Int32) : Mem → LMem → Int32 → Mem → LMem → Prop := fun V1 L1 b V2 L2 => MC l yX7_count cX7_count 2 (some .int) 6 g V1 L1 [.ref (ad g 224), .int p0] (some (.int b)) V2 L2
abbrev WX_worth (l : Launch) (g : GC) (V : Mem) (L : LMem) (p0 p1 p2 : Int32) : Nat → Nat → Nat → Mem → LMem → Prop := fun mc ms k V1 L1 => WM l yL_worth cL_worth 6 (some .int) [(0, 12, 15, 13)] 9 mc ms g V L [.ref (ad g 223), .int p0, .int p1, .int p2, .ref (ad g 230)] (some (.int (nI k))) V1 L1
abbrev MX_worth (l : Launch) (g : GC) (p0 p1 p2 : Int32) : Mem → LMem → Int32 → Mem → LMem → Prop := fun V1 L1 b V2 L2 => MC l yX7_worth cX7_worth 4 (some .int) 6 g V1 L1 [.ref (ad g 224), .int p0, .int p1, .int p2] (some (.int b)) V2 L2
abbrev WX_plan (l : Launch) (g : GC) (V : Mem) (L : LMem) (p0 p1 p2 : Int32) : Nat → Nat → Nat → Mem → LMem → Prop := fun mc ms k V1 L1 => WM l yL_plan cL_plan 6 (some .int) [(0, 12, 15, 21), (0, 12, 19, 13)] 9 mc ms g V L [.ref (ad g 223), .int p0, .int p1, .int p2, .ref (ad g 230)] (some (.int (nI k))) V1 L1
abbrev MX_plan (l : Launch) (g : GC) (p0 p1 p2 : Int32) : Mem → LMem → Int32 → Mem → LMem → Prop := fun V1 L1 b V2 L2 => MC l yX7_plan cX7_plan 4 (some .int) 6 g V1 L1 [.ref (ad g 224), .int p0, .int p1, .int p2] (some (.int b)) V2 L2
abbrev WX_ifMeasured (l : Launch) (g : GC) (V : Mem) (L : LMem) (p0 p1 p2 p3 p4 : Int32) : Nat → Nat → Nat → Mem → LMem → Prop := fun mc ms k V1 L1 => WM l yL_ifMeasured cL_ifMeasured 8 (some .int) [(0, 16, 19, 21), (0, 16, 23, 13)] 9 mc ms g V L [.ref (ad g 223), .int p0, .int p1, .int p2, .int p3, .int p4, .ref (ad g 230)] (some (.int (nI k))) V1 L1
abbrev MX_ifMeasured (l : Launch) (g : GC) (p0 p1 p2 p3 p4 : Int32) : Mem → LMem → Int32 → Mem → LMem → Prop := fun V1 L1 b V2 L2 => MC l yX7_ifMeasured cX7_ifMeasured 6 (some .int) 6 g V1 L1 [.ref (ad g 224), .int p0, .int p1, .int p2, .int p3, .int p4] (some (.int b)) V2 L2
abbrev WX_paymentFor (l : Launch) (g : GC) (V : Mem) (L : LMem) (p0 p1 : Int32) : Nat → Nat → Nat → Mem → LMem → Prop := fun mc ms k V1 L1 => WM l yL_paymentFor cL_paymentFor 5 (some .int) [(0, 10, 13, 21), (0, 10, 17, 13)] 9 mc ms g V L [.ref (ad g 223), .int p0, .int p1, .ref (ad g 230)] (some (.int (nI k))) V1 L1
abbrev MX_paymentFor (l : Launch) (g : GC) (p0 p1 : Int32) : Mem → LMem → Int32 → Mem → LMem → Prop := fun V1 L1 b V2 L2 => MC l yX7_paymentFor cX7_paymentFor 3 (some .int) 6 g V1 L1 [.ref (ad g 224), .int p0, .int p1] (some (.int b)) V2 L2
abbrev WX_rateWithin (l : Launch) (g : GC) (V : Mem) (L : LMem) (p0 : Int32) : Nat → Nat → Nat → Mem → LMem → Prop := fun mc ms k V1 L1 => WM l yL_rateWithin cL_rateWithin 4 (some .int) [(0, 9, 12, 21)] 9 mc ms g V L [.ref (ad g 223), .int p0, .ref (ad g 230)] (some (.int (nI k))) V1 L1
abbrev MX_rateWithin (l : Launch) (g : GC) (p0 : Int32) : Mem → LMem → Int32 → Mem → LMem → Prop := fun V1 L1 b V2 L2 => MC l yX7_rateWithin cX7_rateWithin 2 (some .int) 6 g V1 L1 [.ref (ad g 224), .int p0] (some (.int b)) V2 L2
abbrev WX_fairReceipt (l : Launch) (g : GC) (V : Mem) (L : LMem) (p0 p1 p2 : Int32) : Nat → Nat → Nat → Mem → LMem → Prop := fun mc ms k V1 L1 => WM l yL_fairReceipt cL_fairReceipt 6 (some .int) [(0, 12, 15, 21), (0, 12, 19, 13)] 9 mc ms g V L [.ref (ad g 223), .int p0, .int p1, .int p2, .ref (ad g 230)] (some (.int (nI k))) V1 L1
abbrev MX_fairReceipt (l : Launch) (g : GC) (p0 p1 p2 : Int32) : Mem → LMem → Int32 → Mem → LMem → Prop := fun V1 L1 b V2 L2 => MC l yX7_fairReceipt cX7_fairReceipt 4 (some .int) 6 g V1 L1 [.ref (ad g 224), .int p0, .int p1, .int p2] (some (.int b)) V2 L2
theorem StL.no {W : Nat → Nat → Nat → Mem → LMem → Prop} {M : Mem → LMem → Int32 → Mem → LMem → Prop} {V : Mem} {L : LMem} {nl ns o n bm : Nat} (h : IV nl ns o n bm V) (k : Nat) (hk : 0 < k) (hk4 : k < 4) (hW : W 1 6 k V L) (hM : M V L 0 (thr k (thr 0 V)) L) : StL W M :=
  ⟨1, 6, k, V, L, 0, _, L, nl, ns, o, n, bm, Nat.le_refl _, Nat.le_refl _, hk4, hW, hM, th_6, fun z => absurd z (by omega), h.th0.th0⟩
theorem StL.look {W : Nat → Nat → Nat → Mem → LMem → Prop} {M : Mem → LMem → Int32 → Mem → LMem → Prop} {V V2 : Mem} {L : LMem} {nl ns o n bm : Nat} {r b : Int32} (h : IV nl ns o n bm V2) (h6 : V2 224 6 = nI 0) (e : r = b) (hW : W 0 0 0 V (lset L 1 r.toInt64)) (hM : M V (lset L 1 r.toInt64) b V2 (lset L 1 r.toInt64)) : StL W M :=
  ⟨0, 0, 0, V, _, b, V2, _, nl, ns, o, n, bm, Nat.zero_le _, Nat.zero_le _, by omega, hW, hM, h6, fun _ => by rw [← e]; exact if_pos rfl, h⟩
theorem StL.chg {W : Nat → Nat → Nat → Mem → LMem → Prop} {M : Mem → LMem → Int32 → Mem → LMem → Prop} {V V1 V2 : Mem} {L : LMem} {nl ns o n bm nl' ns' : Nat} {r b : Int32} (h : IV nl ns o n bm V) (c1 : ∀ r, 31 ≤ r → r < 224 → V1 r = cSave o n nl ns V r) (c2 : ∀ r, 224 ≤ r → V1 r = V r)
    (m1 : ∀ a, a ≠ 225 → V2 a = rSave n (thr 0 V1) a) (hV : VI nl' ns' V1) (hR : Rl nl' ns' V1 V2) (hG : GM V1) (z0 : V2 225 0 = nI nl') (z1 : V2 225 1 = nI ns') (z2 : V2 225 2 = V1 0 4) (e : r = b) (hW : W 0 0 0 V1 (lset L 1 r.toInt64)) (hM : M V1 (lset L 1 r.toInt64) b V2 (lset L 1 r.toInt64)) : StL W M := by
  obtain ⟨o', n', hI⟩ := h.step c1 c2 m1 hV hR hG z0 z1 z2
  exact ⟨0, 0, 0, V1, _, b, V2, _, nl', ns', o', n', bm, Nat.zero_le _, Nat.zero_le _, by omega, hW, hM, by rw [m1 224 (by omega), rSave_o (by omega)]; exact th_6, fun _ => by rw [← e]; exact if_pos rfl, hI⟩
theorem ix {x : Int32} {nl : Nat} (h : nl ≤ 12) : (∃ k, k < nl ∧ x = nI k) ∨ (¬ (nI 0 ≤ x ∧ x < nI nl) ∧ ¬ (nI 0 ≤ x ∧ x ≤ nI nl - nI 1)) := by
  by_cases h0 : nI 0 ≤ x
  · by_cases h1 : x < nI nl
    · left
      obtain ⟨j, hj, rfl⟩ := nI_of2 (n := nl) (nI_toInt (by omega)) (fun q => absurd h0 (Int32.not_le.mpr q)) (Int32.le_of_lt h1)
      exact ⟨j, (nI_ltI (by omega) (by omega)).mp h1, rfl⟩
    · right
      refine ⟨fun z => h1 z.2, fun z => h1 ?_⟩
      rcases Nat.eq_zero_or_pos nl with e | e
      · exfalso
        subst e
        have := Int32.le_trans z.1 z.2
        exact absurd this (by decide)
      · rw [pk_sub (by omega)] at z
        exact Int32.lt_of_le_of_lt z.2 (Int32.not_le.mp (fun q => absurd ((nI_leI (by omega) (by omega)).mp q) (by omega)))
  · exact Or.inr ⟨fun z => h0 z.1, fun z => h0 z.1⟩
theorem rg {y : Int32} {M : Nat} (hM : M < 2 ^ 31) (h : nI 0 ≤ y ∧ y ≤ nI M) : ∃ w, w ≤ M ∧ y = nI w := nI_of2 (n := M) (nI_toInt hM) (fun q => absurd h.1 (Int32.not_le.mpr q)) h.2
/-! the looks -/
section LOOKS
variable {l : Launch} {g : GC} {V : Mem} {L : LMem} {nl ns o n bm : Nat}
theorem IV.c0 (h : IV nl ns o n bm V) : V 0 2 = nI nl := h.1.1.1.1
theorem IV.c1 (h : IV nl ns o n bm V) : V 0 3 = nI ns := h.1.1.2.1.1
theorem IV.h8 (h : IV nl ns o n bm V) : nl ≤ 8 := h.1.1.1.2
theorem IV.h12 (h : IV nl ns o n bm V) : ns ≤ 12 := h.1.1.2.1.2
theorem IV.zl (h : IV nl ns o n bm V) : V 225 0 = nI nl := h.2.2.2.2.2.2.2.2.2.2.2.1
theorem IV.zs (h : IV nl ns o n bm V) : V 225 1 = nI ns := h.2.2.2.2.2.2.2.2.2.2.2.2.1
theorem IV.zp (h : IV nl ns o n bm V) : V 225 2 = V 0 4 := h.2.2.2.2.2.2.2.2.2.2.2.2.2
theorem IV.sv (h : IV nl ns o n bm V) : V 224 3 = nI n := h.2.2.2.2.2.1
theorem IV.n6 (h : IV nl ns o n bm V) : n ≤ 6 := h.2.2.1.2.2.2
/-- a lease's number on both sides -/
theorem IV.ixl (h : IV nl ns o n bm V) (x : Int32) : (∃ k, k < nl ∧ x = nI k) ∨ (¬ (nI 0 ≤ x ∧ x < V 0 2) ∧ ¬ (nI 0 ≤ x ∧ x ≤ V 225 0 - nI 1)) := by
  rw [h.c0, h.zl]
  exact ix (by have := h.h8; omega)
theorem IV.ixs (h : IV nl ns o n bm V) (x : Int32) : (∃ k, k < ns ∧ x = nI k) ∨ (¬ (nI 0 ≤ x ∧ x < V 0 3) ∧ ¬ (nI 0 ≤ x ∧ x ≤ V 225 1 - nI 1)) := by
  rw [h.c1, h.zs]
  exact ix h.h12
theorem IV.r0 (h : IV nl ns o n bm V) : Rl nl ns V (thr 0 V) := h.2.1.z (th_o (by omega))
theorem s_lease (hf : l.stackTraces = false) (h : IV nl ns o n bm V) {x y : Int32} : StL (WX_lease l g V L x y) (MX_lease l g x y) := by
  rcases h.ixl x with ⟨k, hk, rfl⟩ | hb
  · by_cases hy : nI 0 ≤ y ∧ y ≤ nI 8
    · obtain ⟨w, hw, rfl⟩ := rg (by omega) hy
      exact StL.look h.th0 th_6 (h.r0.prop h.1.2.2.1 hk (by omega)).symm (w_lease (c_X6_lease h.1.1 hk (by omega))) (c_X7_lease_ok hk h.rr (by omega))
    · exact StL.no h 2 (by omega) (by omega) (w_lease_xIA (x_X6_lease_IA hf h.1.1.1 hk hy)) (c_X7_lease_2 hk h.rr hy)
  · exact StL.no h 1 (by omega) (by omega) (w_lease_xIO (x_X6_lease_IO hf hb.1)) (c_X7_lease_1 hb.2)
theorem s_sublease (hf : l.stackTraces = false) (h : IV nl ns o n bm V) {x y : Int32} : StL (WX_sublease l g V L x y) (MX_sublease l g x y) := by
  rcases h.ixs x with ⟨k, hk, rfl⟩ | hb
  · by_cases hy : nI 0 ≤ y ∧ y ≤ nI 5
    · obtain ⟨w, hw, rfl⟩ := rg (by omega) hy
      exact StL.look h.th0 th_6 (h.r0.s hk (by omega)).symm (w_sublease (c_X6_sublease h.1.1 hk (by omega))) (c_X7_sublease_ok hk h.rr (by omega))
    · refine StL.no h 2 (by omega) (by omega) (w_sublease_xIA (x_X6_sublease_IA hf ⟨nI_le (by omega) (by have := h.h12; omega), ?_⟩ hy)) (c_X7_sublease_2 hk h.rr hy)
      rw [h.c1]
      exact (nI_ltI (by have := h.h12; omega) (by have := h.h12; omega)).mpr hk
  · exact StL.no h 1 (by omega) (by omega) (w_sublease_xIO (x_X6_sublease_IO hf hb.1)) (c_X7_sublease_1 hb.2)
theorem s_movement (hf : l.stackTraces = false) (h : IV nl ns o n bm V) {x y : Int32} : StL (WX_movement l g V L x y) (MX_movement l g x y) := by
  rcases h.ixl x with ⟨k, hk, rfl⟩ | hb
  · by_cases hy : nI 0 ≤ y ∧ y ≤ nI 16
    · obtain ⟨w, hw, rfl⟩ := rg (by omega) hy
      exact StL.look h.th0 th_6 (h.r0.m hk (by omega)).symm (w_movement (c_X6_movement h.1.1 hk (by omega))) (c_X7_movement_ok hk h.rr (by omega))
    · exact StL.no h 2 (by omega) (by omega) (w_movement_xIA (x_X6_movement_IA hf h.1.1.1 hk hy)) (c_X7_movement_2 hk h.rr hy)
  · exact StL.no h 1 (by omega) (by omega) (w_movement_xIO (x_X6_movement_IO hf hb.1)) (c_X7_movement_1 hb.2)
theorem s_profit (hf : l.stackTraces = false) (h : IV nl ns o n bm V) {x y : Int32} : StL (WX_profit l g V L x y) (MX_profit l g x y) := by
  rcases h.ixl x with ⟨k, hk, rfl⟩ | hb
  · by_cases hy : nI 0 ≤ y ∧ y ≤ nI 1
    · refine StL.look h.th0 th_6 ?_ (w_profit (c_X6_profit h.1.1 hk hy)) (c_X7_profit_ok hk h.rr hy)
      obtain ⟨w, hw, rfl⟩ := rg (by omega) hy
      rcases (show w = 0 ∨ w = 1 by omega) with rfl | rfl
      · rw [if_pos (by decide), if_neg (by decide), h.r0.prof0 hk]
      · rw [if_neg (by decide), if_pos rfl, h.r0.prof1 h.1.2.2.1 hk]
    · exact StL.no h 2 (by omega) (by omega) (w_profit_xIA (x_X6_profit_IA hf h.1.1.1 hk hy)) (c_X7_profit_2 hk h.rr hy)
  · exact StL.no h 1 (by omega) (by omega) (w_profit_xIO (x_X6_profit_IO hf hb.1)) (c_X7_profit_1 hb.2)
theorem s_count (hf : l.stackTraces = false) (h : IV nl ns o n bm V) {y : Int32} : StL (WX_count l g V L y) (MX_count l g y) := by
  by_cases hy : nI 0 ≤ y ∧ y ≤ nI 10
  · obtain ⟨w, hw, rfl⟩ := rg (by omega) hy
    refine StL.look h.th0 th_6 (h.r0.count h.h8 h.1.2.2.1 h.1.1.2.2.1 (show w < 11 by omega) ?_ ?_ ?_ ?_).symm (w_count (c_X6_count h.1.1 (by omega))) (c_X7_count_ok h.rr (by omega))
    · rw [th_o (by omega), h.zl, h.c0]
    · rw [th_o (by omega), h.zs, h.c1]
    · rw [th_o (by omega), h.zp]
    · rw [th_ne (by omega), h.sv]; exact h.2.2.1.2.2.1.symm
  · exact StL.no h 1 (by omega) (by omega) (w_count_xIA (x_X6_count_IA hf hy)) (c_X7_count_1 hy)
theorem s_worth (hf : l.stackTraces = false) (h : IV nl ns o n bm V) {p1 n1 r : Int32} : StL (WX_worth l g V L p1 n1 r) (MX_worth l g p1 n1 r) := by
  by_cases hy : money p1 ∧ (nI 0 ≤ n1 ∧ n1 ≤ nI 60) ∧ rateR r
  · exact StL.look h.th0 th_6 rfl (w_worth (c_X6_worth hy.1 hy.2.1 hy.2.2)) (c_X7_worth_ok hy.1 hy.2.1 hy.2.2)
  · exact StL.no h 1 (by omega) (by omega) (w_worth_xIA (x_X6_worth_IA hf hy)) (c_X7_worth_1 hy)
theorem IV.as0 (h : IV nl ns o n bm V) : IV nl ns o n bm (rAside (thr 0 V)) :=
  h.th0.keep (fun r hr _ _ => rAside_row (by omega)) (by rw [rAside_row (by omega), th_o (by omega)]; exact h.2.2.2.2.2.2.2.2.2.2.1) (rAside_row (by omega)) (rAside_row (by omega)) (rAside_row (by omega)) (by rw [rAside_row (by omega)]) (by rw [rAside_row (by omega)])
theorem as_6 : rAside (thr 0 V) 224 6 = nI 0 := by rw [rAside_row (by omega)]; exact th_6
theorem IV.ra (h : IV nl ns o n bm V) : Rl nl ns V (rAside (thr 0 V)) := h.r0.z (rAside_row (by omega))
theorem s_plan (hf : l.stackTraces = false) (h : IV nl ns o n bm V) {x n1 y : Int32} : StL (WX_plan l g V L x n1 y) (MX_plan l g x n1 y) := by
  rcases h.ixl x with ⟨k, hk, rfl⟩ | hb
  · by_cases hy : (nI 0 ≤ n1 ∧ n1 ≤ nI 60) ∧ (nI 0 ≤ y ∧ y ≤ nI 3)
    · obtain ⟨N, hN, rfl⟩ := rg (by omega) hy.1
      obtain ⟨w, hw, rfl⟩ := rg (by omega) hy.2
      exact StL.look h.as0 as_6 (h.ra.plan h.1 hk hN (by omega)).symm (w_plan (c_X6_plan h.1.1 hk hN (by omega))) (c_X7_plan_ok hk h.rr hN (by omega))
    · exact StL.no h 2 (by omega) (by omega) (w_plan_xIA (x_X6_plan_IA hf h.1.1.1 hk hy)) (c_X7_plan_2 hk h.rr hy)
  · exact StL.no h 1 (by omega) (by omega) (w_plan_xIO (x_X6_plan_IO hf hb.1)) (c_X7_plan_1 hb.2)
theorem s_ifMeasured (hf : l.stackTraces = false) (h : IV nl ns o n bm V) {x p1 n1 r y : Int32} : StL (WX_ifMeasured l g V L x p1 n1 r y) (MX_ifMeasured l g x p1 n1 r y) := by
  rcases h.ixl x with ⟨k, hk, rfl⟩ | hb
  · by_cases hy : money p1 ∧ termR n1 ∧ rateR r ∧ (nI 0 ≤ y ∧ y ≤ nI 2)
    · obtain ⟨w, hw, rfl⟩ := rg (by omega) hy.2.2.2
      have e1 : thr 0 V 225 (3 + 22 * k + 1) = V (3 + k) 1 := h.r0.f hk (j := 1) (by omega)
      have hM := c_X7_ifMeasured_ok (l := l) (g := g) (V := V) (L := lset L 1 (if 0 < V (3 + k) 1 then cIfM V k ns p1 n1 r w else -1).toInt64) hk h.rr hy.1 hy.2.1 hy.2.2.1 (show w < 3 by omega)
      by_cases hr : 0 < V (3 + k) 1
      · have hr2 : rRuns (thr 0 V) k := by show 0 < thr 0 V 225 (3 + 22 * k + 1); rw [e1]; exact hr
        rw [if_pos hr2, if_pos hr2] at hM
        exact StL.look h.as0 as_6 (by rw [if_pos hr]; exact (h.ra.ifm h.h8 h.h12 hk h.1.2.2.1 hy.2.1.1 (by omega)).symm) (w_ifMeasured (c_X6_ifMeasured h.1.1 hk hy.1 hy.2.1 hy.2.2.1 (show w < 3 by omega))) hM
      · have hr2 : ¬ rRuns (thr 0 V) k := by show ¬ 0 < thr 0 V 225 (3 + 22 * k + 1); rw [e1]; exact hr
        rw [if_neg hr2, if_neg hr2] at hM
        exact StL.look h.th0 th_6 (by rw [if_neg hr]) (w_ifMeasured (c_X6_ifMeasured h.1.1 hk hy.1 hy.2.1 hy.2.2.1 (show w < 3 by omega))) hM
    · exact StL.no h 2 (by omega) (by omega) (w_ifMeasured_xIA (x_X6_ifMeasured_IA hf h.1.1.1 hk hy)) (c_X7_ifMeasured_2 hk h.rr hy)
  · exact StL.no h 1 (by omega) (by omega) (w_ifMeasured_xIO (x_X6_ifMeasured_IO hf hb.1)) (c_X7_ifMeasured_1 hb.2)
theorem s_paymentFor (hf : l.stackTraces = false) (h : IV nl ns o n bm V) {x li : Int32} : StL (WX_paymentFor l g V L x li) (MX_paymentFor l g x li) := by
  rcases h.ixl x with ⟨k, hk, rfl⟩ | hb
  · by_cases hy : nI 0 ≤ li ∧ li ≤ nI 10000000
    · exact StL.look h.th0 th_6 (h.r0.pay h.1.1 hk hy.1).symm (w_paymentFor (c_X6_paymentFor h.1.1 hk hy)) (c_X7_paymentFor_ok hk h.rr hy)
    · exact StL.no h 2 (by omega) (by omega) (w_paymentFor_xIA (x_X6_paymentFor_IA hf h.1.1.1 hk hy)) (c_X7_paymentFor_2 hk h.rr hy)
  · exact StL.no h 1 (by omega) (by omega) (w_paymentFor_xIO (x_X6_paymentFor_IO hf hb.1)) (c_X7_paymentFor_1 hb.2)
theorem s_rateWithin (hf : l.stackTraces = false) (h : IV nl ns o n bm V) {x : Int32} : StL (WX_rateWithin l g V L x) (MX_rateWithin l g x) := by
  rcases h.ixl x with ⟨k, hk, rfl⟩ | hb
  · exact StL.look h.th0 th_6 (h.r0.rate h.1.1 h.1.2.1 hk).symm (w_rateWithin (c_X6_rateWithin h.1.1 hk)) (c_X7_rateWithin_ok hk h.rr)
  · exact StL.no h 1 (by omega) (by omega) (w_rateWithin_xIO (x_X6_rateWithin_IO hf hb.1)) (c_X7_rateWithin_1 hb.2)
theorem s_fairReceipt (hf : l.stackTraces = false) (h : IV nl ns o n bm V) {x t n1 : Int32} : StL (WX_fairReceipt l g V L x t n1) (MX_fairReceipt l g x t n1) := by
  rcases h.ixl x with ⟨k, hk, rfl⟩ | hb
  · by_cases hy : partR t ∧ termR n1
    · exact StL.look h.th0 th_6 (h.r0.recp h.1.1 hk hy.2 (by rw [th_o (by omega), h.zs, h.c1])).symm (w_fairReceipt (c_X6_fairReceipt h.1.1 hk hy.1 hy.2)) (c_X7_fairReceipt_ok hk h.rr hy.1 hy.2)
    · exact StL.no h 2 (by omega) (by omega) (w_fairReceipt_xIA (x_X6_fairReceipt_IA hf h.1.1.1 hk hy)) (c_X7_fairReceipt_2 hk h.rr hy)
  · exact StL.no h 1 (by omega) (by omega) (w_fairReceipt_xIO (x_X6_fairReceipt_IO hf hb.1)) (c_X7_fairReceipt_1 hb.2)
end LOOKS
