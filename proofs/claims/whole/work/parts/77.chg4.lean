/-! THE LAW'S STEPS: undo, share, digest -/
section CHG4
variable {l : Launch} {g : GC} {V : Mem} {L : LMem} {nl ns o n bm : Nat}
theorem s_undo (hf : l.stackTraces = false) (h : IV nl ns o n bm V) : StL (WX_undo l g V L) (MX_undo l g) := by
  have hHI := h.2.2.1
  have hHR := h.2.2.2.1
  have h6 := h.n6
  rcases Nat.eq_zero_or_pos n with e | e
  · subst e
    exact StL.no h 1 (by omega) (by omega) (w_undo_xIS (x_X6_undo_IS hf (by rw [hHI.2.2.1]; decide))) (c_X7_undo_1 h.sv)
  · obtain ⟨n0, rfl⟩ : ∃ n0, n = n0 + 1 := ⟨n - 1, by omega⟩
    obtain ⟨l1, s1, hr⟩ := hHR n0 (by omega)
    have l8 : l1 ≤ 8 := hr.2.1.1.1.2
    have s12 : s1 ≤ 12 := hr.2.1.1.2.1.2
    have q2 : V (slR o n0) 2 = nI l1 := hr.2.1.1.1.1
    have q3 : V (slR o n0) 3 = nI s1 := hr.2.1.1.2.1.1
    have bn := slR_b (o := o) (a := n0)
    obtain ⟨V1, hV1⟩ : ∃ V1, V1 = hRest o n0 l1 s1 V := ⟨_, rfl⟩
    have hW := w_undo (L := L) (c_X6_undo (l := l) (g := g) (L := L) hHI.1 hHI.2.1 hHI.2.2.1 (by omega) q2 q3 l8 s12)
    rw [← hV1] at hW
    have c2 : ∀ a, 218 ≤ a → V1 a = V a := fun a ha => by rw [hV1]; unfold hRest; rw [mset_o (by omega), cpySt_o l8 s12 (by omega)]
    have hM := c_X7_undo_ok (l := l) (g := g) (V := V1) (L := lset L 1 (nI n0).toInt64) (sv := n0) (by rw [c2 224 (by omega)]; exact h.sv) (by omega)
    obtain ⟨Z, hZ⟩ : ∃ Z, Z = mset (thr 0 V1) 224 3 (nI n0) := ⟨_, rfl⟩
    rw [← hZ] at hM
    have zr : ∀ a, a ≠ 224 → Z a = V1 a := fun a ha => by rw [hZ, mset_o ha, th_o ha]
    have z226 : Z 226 = V 226 := by rw [zr 226 (by omega), c2 226 (by omega)]
    have hu := (hHR.cg (S' := V) (Z' := Z) (fun _ _ _ => rfl) z226).undo (nl := l1) (ns := s1) (by omega) (by rw [z226]; exact hr)
    rw [← hV1] at hu
    obtain ⟨⟨u1, u2, u3, u4, u5⟩, u6⟩ := hu
    rw [sh_0] at u1 u2
    have v2 : ∀ a, a ≠ 225 → a ≠ 224 → rRes Z n0 251 a = V1 a := fun a h1 h2 => by rw [rRes_ne h1, zr a h2]
    refine ⟨0, 0, 0, V1, _, _, rRes Z n0 251, _, l1, s1, o, n0, bm, Nat.zero_le _, Nat.zero_le _, by omega, hW, hM, ?_, fun _ => if_pos rfl, ?_⟩
    · rw [rRes_ne (by omega), hZ, mset_ne (by omega)]; exact th_6
    · refine ⟨u2.rows (fun a ha => v2 a (by omega) (by omega)), ?_, ?_, u6.cg (fun a h1 h2 => v2 a (by omega) (by omega)) rfl, ?_, ?_, ?_, ?_, h.b60, ?_, ?_, u3, u4, ?_⟩
      · have : Rl l1 s1 V1 (rRes Z n0 251) := u1.z rfl
        exact this.rows l8 s12 (fun a ha => v2 a (by omega) (by omega)) rfl
      · unfold HI
        rw [v2 217 (by omega) (by omega), hV1]
        unfold hRest
        refine ⟨?_, hHI.2.1, by rw [mset_at], by omega⟩
        rw [mset_ne (by omega), cpySt_o l8 s12 (by omega)]
        exact hHI.1
      · have hG : GM V1 := by rw [hV1]; exact h.2.2.2.2.1.rest l8 s12
        exact hG.rows (fun a ha => v2 a (by have := kd5_lt ha; omega) (by have := kd5_lt ha; omega))
      · rw [rRes_ne (by omega), hZ, mset_at]
      · rw [v2 219 (by omega) (by omega), c2 219 (by omega)]; exact h.bm1
      · rw [rRes_ne (by omega), hZ, mset_ne (by omega), th_ne (by omega), c2 224 (by omega)]; exact h.bm2
      · rw [v2 220 (by omega) (by omega), v2 228 (by omega) (by omega), c2 220 (by omega), c2 228 (by omega)]; exact h.bf
      · rw [v2 222 (by omega) (by omega), c2 222 (by omega)]; exact h.hr2
      · rw [u5, v2 0 (by omega) (by omega)]
theorem cmp_self {x : UInt64} (h : x = FP.dconst0 ∨ ∃ (c : Nat) (q : Int), NV x c q ∧ -84 ≤ q ∧ q ≤ -20) : ∀ op, Op.cmpValue (FP.dcmp x x) op = 0 := by
  intro op
  have e : FP.dcmp x x = some .eq := by
    show FP.Core.order (FP.Core.val64 x) (FP.Core.val64 x) = _
    have key : ∀ (c : Nat) (q : Int), FP.Core.order (DF false c q) (DF false c q) = some .eq := fun c q => by
      show some (compare _ _) = _
      congr 1
      rw [Int.compare_eq_eq]
    rcases h with rfl | ⟨c, q, hN, _⟩
    · rw [v_zero]; exact key _ _
    · rw [hN.1]; exact key _ _
  exact cmpI.2.1 e
theorem s_offShare (h : IV nl ns o n bm V) : ∃ (x : UInt64) (V1 V2 : Mem), MC l yX6_offShare cX6_offShare 3 (some .double) 5 g V L [.ref (ad g 223)] (some (.double x)) V1 L ∧ MC l yX7_offShare cX7_offShare 1 (some .double) 6 g V1 L [.ref (ad g 224)] (some (.double x)) V2 L ∧ (∀ op, Op.cmpValue (FP.dcmp x x) op = 0) ∧ IV nl ns o n bm V2 := by
  have hM := c_X7_offShare (l := l) (g := g) (L := L) h.rr
  rw [h.r0.off h.1] at hM
  exact ⟨_, _, _, c_X6_offShare h.1.1, hM, cmp_self (h.1.off h.2.2.2.2.1), h.th0⟩
theorem s_digest (h : IV nl ns o n bm V) : ∃ (x : Int64) (V1 V2 : Mem) (L2 : LMem), MC l yX6_digest cX6_digest 5 (some .long) 7 g V L [.ref (ad g 223)] (some (.long x)) V1 L ∧ MC l yX7_digest cX7_digest 2 (some .long) 6 g V1 L [.ref (ad g 224)] (some (.long x)) V2 L2 ∧ IV nl ns o n bm V2 := by
  have hM := c_X7_digest (l := l) (g := g) (L := L) h.rr h.bm2 h.b60
  have e : rDg (thr 0 V) nl ns bm = cDg V nl ns bm := h.r0.dig h.1 (by rw [th_o (by omega), h.zl, h.c0]) (by rw [th_o (by omega), h.zs, h.c1]) (by rw [th_o (by omega), h.zp]) (by rw [th_ne (by omega), h.sv]; exact h.2.2.1.2.2.1.symm) (fun i hi => by rw [th_o (by omega), h.bf])
  rw [e] at hM
  refine ⟨_, _, _, _, c_X6_dig h.1 h.2.2.2.2.1 h.bm1 h.b60, hM, ?_⟩
  exact h.th0.keep (fun r hr _ _ => rAsN_row (by omega) nl) (by rw [rAsN_row (by omega) nl, th_o (by omega)]; exact h.hr2) (rAsN_row (by omega) nl) (rAsN_row (by omega) nl) (rAsN_row (by omega) nl) (by rw [rAsN_row (by omega) nl]) (by rw [rAsN_row (by omega) nl])
end CHG4
