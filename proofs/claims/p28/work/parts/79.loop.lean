/-! THE LAW'S LOOP (laid by wip/p28/p61.py) -/
section SCR
variable {p : Program} {l : Launch} {e : Env} {R : Room} {s : State} {m : MethodId} {args : Array Value} {below : List Frame} {meth : Method} {c : Code} {nL : Nat} {g : GC} {cells slots : Nat} {Q : State → Prop} {V : Mem} {L : LMem} {pc : Nat} {lv : List (Option Value)} {st : List Value} {cc : ByteArray} {own : String} {ret : Option FieldType}
theorem Cx.scr (C : Cx p s args m meth c cc nL own ret g) : va_X (gB g) (gL g) (gX g) s s.heap ∧ gB g < s.heap.size ∧ ¬ AA g (gB g) := by
  have hX := C.2.2.2.2.2.2.2
  have hO : OldH g s.heap := hX.2.2.1
  have hH : XH g s := hX.2.2.2.2
  exact ⟨va_X.kept hH.1 (hO.2 _ hH.2), Nat.lt_of_lt_of_le hH.2 hO.1, Nat.not_le.mpr hH.2⟩
theorem j_sldG (C : Cx p s args m meth c cc nL own ret g) {i : Nat} (hi : i < gL g) (h31 : gL g < 2 ^ 31) (hd : decode cc pc = .ok (.iaload, 1)) (k : J p l e R s m args below meth c nL g cells slots Q V L (pc + 1) lv (.int (gX g i) :: st)) : J p l e R s m args below meth c nL g cells slots Q V L pc lv (.int (nI i) :: .ref (gB g) :: st) := by
  intro H locs ls hw hl
  have S := C.scr
  refine va_sld C.1 C.2.1 S.1 S.2.1 (A := AA g) S.2.2 hw.2 (vp_in_nI hi h31) hd ?_
  rw [nI_clamp (by omega)]
  exact k H locs ls hw hl
theorem j_slenG (C : Cx p s args m meth c cc nL own ret g) (hd : decode cc pc = .ok (.arraylength, 1)) (k : J p l e R s m args below meth c nL g cells slots Q V L (pc + 1) lv (.int (nI (gL g)) :: st)) : J p l e R s m args below meth c nL g cells slots Q V L pc lv (.ref (gB g) :: st) := fun H locs ls hw hl =>
  va_slen C.1 C.2.1 C.scr.1 C.scr.2.1 (A := AA g) C.scr.2.2 hw.2 hd (k H locs ls hw hl)
end SCR
/-- the script's int k, or one made out of k -/
def cellV (g : GC) (k : Nat) : Int32 := if k < gL g then gX g k else nI 834131401 * (nI k + nI 1)
set_option maxHeartbeats 4000000 in
theorem c_L_cell {l : Launch} {g : GC} {V : Mem} {L : LMem} {k : Nat} (h31 : gL g < 2 ^ 31) (hk31 : k < 2 ^ 31) : MC l yL_cell cL_cell 2 (some .int) 0 g V L [.ref (gB g), .int (nI k)] (some (.int (cellV g k))) V L := by
  refine MC.of [some (.ref (gB g)), some (.int (nI k))] (by decide +kernel) rfl (Nat.le_of_ble_eq_true rfl) (fun p e s m args below meth c C => ?_)
  refine j_iload_n C dL_cell_0 rfl rfl ?_
  refine j_aload_n C dL_cell_1 rfl rfl ?_
  refine j_slenG C dL_cell_2 ?_
  refine j_icmp_ge (tgt := 12) C dL_cell_3 (by decide) (fun h3 => ?_) (fun h3 => ?_)
  · have hk : ¬ k < gL g := fun z => absurd h3 (nI_ge z h31)
    refine j_ldc (v := nI 834131401) C qk_L_7 dL_cell_12 ?_
    refine j_iload_n C dL_cell_14 rfl rfl ?_
    refine j_iconst (v := (nI 1)) C dL_cell_15 (by decide) ?_
    refine j_iaddN C dL_cell_16 ?_
    refine j_imulN C dL_cell_17 ?_
    exact j_iret C dL_cell_18 (by unfold cellV; first | rw [if_pos hk] | (rw [if_neg hk, nI_add, pk_mul])) (by rfl) (by rfl)
  · have hk : k < gL g := Nat.not_le.mp (fun z => h3 (nI_le z hk31))
    refine j_aload_n C dL_cell_6 rfl rfl ?_
    refine j_iload_n C dL_cell_7 rfl rfl ?_
    refine j_sldG C hk h31 dL_cell_8 ?_
    refine j_goto (tgt := 18) C dL_cell_9 (by decide) ?_
    exact j_iret C dL_cell_18 (by unfold cellV; first | rw [if_pos hk] | (rw [if_neg hk, nI_add, pk_mul])) (by rfl) (by rfl)
section LAWL
variable {p : Program} {l : Launch} {e : Env} {s : State} {m : MethodId} {args : Array Value} {below : List Frame} {meth : Method} {c : Code} {g : GC} {Q : State → Prop} {L : LMem}
theorem IVT.ti {t : Nat} {V : Mem} (h : IVT t V) : ∃ nl ns, TI nl ns V := by
  obtain ⟨nl, ns, o, n, pd, hI, _⟩ := h
  exact ⟨nl, ns, hI.1⟩
set_option maxHeartbeats 4000000 in
theorem law_loop (C : Cx p s args m meth c cL_law 10 RL (some .boolean) g) (h31 : gL g < 2 ^ 31) (kx : ∀ (V : Mem) (lv : List (Option Value)), J p l e room_1 s m args below meth c 10 g 228 2180 Q V L 159 lv [.int (nI 1)]) : ∀ (f i : Nat) (V : Mem), i + f = 40 → IVT i V → J p l e room_1 s m args below meth c 10 g 228 2180 Q V L 48 [some (.ref (gB g)), some (.ref (ad g 223)), some (.ref (ad g 224)), some (.ref (ad g 225)), some (.ref (ad g 226)), some (.ref (ad g 227)), some (.int (nI i)), none, none, none] [] := by
  intro f
  induction f with
  | zero =>
    intro i V hi hI
    have hi : i = 40 := by omega
    subst hi
    obtain ⟨nl, ns, o, n, pd, hV, _, _, _, hn⟩ := hI
    have hn0 := hn (by omega)
    have hCI := hV.1.1.1
    have hn6 := hV.2.1.2.2.2
    refine j_iload C dL_law_48 rfl ?_
    refine j_bipush (v := (nI 40)) C dL_law_50 (by decide) ?_
    refine j_icmp_ge (tgt := 145) C dL_law_52 (by decide) (fun h52 => ?_) (fun h52 => absurd (nI_le (by omega) (by omega)) h52)
    refine j_aload_n C dL_law_145 rfl rfl ?_
    refine j_bipush (v := (nI 10)) C dL_law_146 (by decide) ?_
    refine j_callV1r C (oa_X6 (by first | assumption | rfl)) rfl rfl (c_X6_count (w := 10) hCI (by omega)) qm_L_14 qi_X6_count qs_X6_count qn_X6 qc_X6_count fit_X6_count ⟨Nat.le_of_ble_eq_true rfl, Nat.le_of_ble_eq_true rfl, Nat.le_of_ble_eq_true rfl, Nat.le_of_ble_eq_true rfl⟩ (Nat.le_of_ble_eq_true rfl) dL_law_148 ?_
    refine j_tope (y := nI n) (by exact hV.2.1.2.2.1) ?_
    refine j_if_le (tgt := 158) C dL_law_151 (by decide) (fun h151 => (by exact absurd h151 (nI_nle hn0 (by omega)))) (fun h151 => ?_)
    refine j_iconst (v := (nI 1)) C dL_law_154 (by decide) ?_
    refine j_goto (tgt := 159) C dL_law_155 (by decide) ?_
    exact kx _ _
  | succ f ih =>
    intro i V hi hI
    obtain ⟨nl, ns, hT⟩ := hI.ti
    obtain ⟨X, bX, eX⟩ : ∃ X : Nat, X < 2 ^ 31 ∧ cellV g (2 * i) &&& nI 2147483647 = nI X := pk_andE _ 31 (by decide)
    obtain ⟨Y, bY, eY⟩ : ∃ Y : Nat, Y < 2 ^ 31 ∧ cellV g (2 * i + 1) &&& nI 2147483647 = nI Y := pk_andE _ 31 (by decide)
    refine j_iload C dL_law_48 rfl ?_
    refine j_bipush (v := (nI 40)) C dL_law_50 (by decide) ?_
    refine j_icmp_ge (tgt := 145) C dL_law_52 (by decide) (fun h52 => absurd h52 (nI_ge (by omega) (by omega))) (fun h52 => ?_)
    refine j_aload_n C dL_law_55 rfl rfl ?_
    refine j_iconst (v := (nI 2)) C dL_law_56 (by decide) ?_
    refine j_iload C dL_law_57 rfl ?_
    refine j_imulN C dL_law_59 ?_
    refine j_callS2r C (c_L_cell h31 (by omega)) qm_L_94 qt_L_cell qn_L qc_L_cell fit_L_cell ⟨Nat.le_of_ble_eq_true rfl, Nat.le_of_ble_eq_true rfl, Nat.le_of_ble_eq_true rfl, Nat.le_of_ble_eq_true rfl⟩ (Nat.le_of_ble_eq_true rfl) dL_law_60 ?_
    refine j_ldc (v := nI 2147483647) C qk_L_98 dL_law_63 ?_
    refine j_iand C dL_law_65 ?_
    refine j_tope (y := nI X) (by exact eX) ?_
    refine j_ist7 C dL_law_66 (Nat.le_of_ble_eq_true rfl) rfl ?_
    refine j_aload_n C dL_law_68 rfl rfl ?_
    refine j_iconst (v := (nI 2)) C dL_law_69 (by decide) ?_
    refine j_iload C dL_law_70 rfl ?_
    refine j_imulN C dL_law_72 ?_
    refine j_iconst (v := (nI 1)) C dL_law_73 (by decide) ?_
    refine j_iaddN C dL_law_74 ?_
    refine j_callS2r C (c_L_cell h31 (by omega)) qm_L_94 qt_L_cell qn_L qc_L_cell fit_L_cell ⟨Nat.le_of_ble_eq_true rfl, Nat.le_of_ble_eq_true rfl, Nat.le_of_ble_eq_true rfl, Nat.le_of_ble_eq_true rfl⟩ (Nat.le_of_ble_eq_true rfl) dL_law_75 ?_
    refine j_ldc (v := nI 2147483647) C qk_L_98 dL_law_78 ?_
    refine j_iand C dL_law_80 ?_
    refine j_tope (y := nI Y) (by exact eY) ?_
    refine j_ist8 C dL_law_81 (Nat.le_of_ble_eq_true rfl) rfl ?_
    refine j_iload C dL_law_83 rfl ?_
    refine j_iconst (v := (nI 2)) C dL_law_85 (by decide) ?_
    refine j_icmp_ge (tgt := 93) C dL_law_86 (by decide) (fun h86 => ?_) (fun h86 => ?_)
    · have h2i : 2 ≤ i := i_ge (by omega) (by omega) h86
      have ha16 : atN (X / 8192) 16 < 16 := atN_b (by omega)
      refine j_iload C dL_law_93 rfl ?_
      refine j_bipush (v := (nI 13)) C dL_law_95 (by decide) ?_
      refine j_ishr C dL_law_97 ?_
      refine j_tope (y := nI (X / 8192)) (by exact shrN (by omega) 13 (by decide)) ?_
      refine j_bipush (v := (nI 16)) C dL_law_98 (by decide) ?_
      refine j_callS2r C (c_L_at (by omega) (by omega) (by omega)) qm_L_44 qt_L_at qn_L qc_L_at fit_L_at ⟨Nat.le_of_ble_eq_true rfl, Nat.le_of_ble_eq_true rfl, Nat.le_of_ble_eq_true rfl, Nat.le_of_ble_eq_true rfl⟩ (Nat.le_of_ble_eq_true rfl) dL_law_100 ?_
      refine j_ist9 C dL_law_103 (Nat.le_of_ble_eq_true rfl) rfl ?_
      obtain ⟨V2, hM, hI2⟩ := s_act (l := l) (g := g) (L := L) (X := X) (Y := Y) hI (by omega) (a := atN (X / 8192) 16) ha16 (fun z => absurd z (by omega)) bX bY
      obtain ⟨nl2, ns2, hT2⟩ := hI2.ti
      refine j_aload_n C dL_law_105 rfl rfl ?_
      refine j_iload C dL_law_106 rfl ?_
      refine j_iload C dL_law_108 rfl ?_
      refine j_iload C dL_law_110 rfl ?_
      refine j_aload_n C dL_law_112 rfl rfl ?_
      refine j_aload_n C dL_law_113 rfl rfl ?_
      refine j_aload C dL_law_114 rfl ?_
      refine j_aload C dL_law_116 rfl ?_
      refine j_callS8r C (hM) qm_L_99 qt_L_act qn_L qc_L_act fit_L_act ⟨Nat.le_of_ble_eq_true rfl, Nat.le_of_ble_eq_true rfl, Nat.le_of_ble_eq_true rfl, Nat.le_of_ble_eq_true rfl⟩ (Nat.le_of_ble_eq_true rfl) dL_law_118 ?_
      refine j_if_eq (tgt := 137) C dL_law_121 (by decide) (fun h121 => (by exact absurd h121 (by decide))) (fun h121 => ?_)
      refine j_aload_n C dL_law_124 rfl rfl ?_
      refine j_aload_n C dL_law_125 rfl rfl ?_
      refine j_aload_n C dL_law_126 rfl rfl ?_
      refine j_aload C dL_law_127 rfl ?_
      refine j_aload C dL_law_129 rfl ?_
      refine j_callS5r C (c_L_told hT2) qm_L_90 qt_L_told qn_L qc_L_told fit_L_told ⟨Nat.le_of_ble_eq_true rfl, Nat.le_of_ble_eq_true rfl, Nat.le_of_ble_eq_true rfl, Nat.le_of_ble_eq_true rfl⟩ (Nat.le_of_ble_eq_true rfl) dL_law_131 ?_
      refine j_if_ne (tgt := 139) C dL_law_134 (by decide) (fun h134 => ?_) (fun h134 => (by exact absurd h134 (by decide)))
      refine j_incN6 (q := 1) C dL_law_139 (by decide) (Nat.le_of_ble_eq_true rfl) rfl ?_
      refine j_goto (tgt := 48) C dL_law_142 (by decide) ?_
      exact j_dr (lv' := [some (.ref (gB g)), some (.ref (ad g 223)), some (.ref (ad g 224)), some (.ref (ad g 225)), some (.ref (ad g 226)), some (.ref (ad g 227)), some (.int (nI (i + 1))), none, none, none]) (And.intro rfl (And.intro rfl (And.intro rfl (And.intro rfl (And.intro rfl (And.intro rfl (And.intro rfl True.intro))))))) (ih (i + 1) _ (by omega) hI2)
    · have h2i : i < 2 := Nat.not_le.mp (fun z => h86 (nI_le z (by omega)))
      refine j_iconst (v := (nI 0)) C dL_law_89 (by decide) ?_
      refine j_goto (tgt := 103) C dL_law_90 (by decide) ?_
      refine j_ist9 C dL_law_103 (Nat.le_of_ble_eq_true rfl) rfl ?_
      obtain ⟨V2, hM, hI2⟩ := s_act (l := l) (g := g) (L := L) (X := X) (Y := Y) hI (by omega) (a := 0) (by omega) (fun _ => rfl) bX bY
      obtain ⟨nl2, ns2, hT2⟩ := hI2.ti
      refine j_aload_n C dL_law_105 rfl rfl ?_
      refine j_iload C dL_law_106 rfl ?_
      refine j_iload C dL_law_108 rfl ?_
      refine j_iload C dL_law_110 rfl ?_
      refine j_aload_n C dL_law_112 rfl rfl ?_
      refine j_aload_n C dL_law_113 rfl rfl ?_
      refine j_aload C dL_law_114 rfl ?_
      refine j_aload C dL_law_116 rfl ?_
      refine j_callS8r C (hM) qm_L_99 qt_L_act qn_L qc_L_act fit_L_act ⟨Nat.le_of_ble_eq_true rfl, Nat.le_of_ble_eq_true rfl, Nat.le_of_ble_eq_true rfl, Nat.le_of_ble_eq_true rfl⟩ (Nat.le_of_ble_eq_true rfl) dL_law_118 ?_
      refine j_if_eq (tgt := 137) C dL_law_121 (by decide) (fun h121 => (by exact absurd h121 (by decide))) (fun h121 => ?_)
      refine j_aload_n C dL_law_124 rfl rfl ?_
      refine j_aload_n C dL_law_125 rfl rfl ?_
      refine j_aload_n C dL_law_126 rfl rfl ?_
      refine j_aload C dL_law_127 rfl ?_
      refine j_aload C dL_law_129 rfl ?_
      refine j_callS5r C (c_L_told hT2) qm_L_90 qt_L_told qn_L qc_L_told fit_L_told ⟨Nat.le_of_ble_eq_true rfl, Nat.le_of_ble_eq_true rfl, Nat.le_of_ble_eq_true rfl, Nat.le_of_ble_eq_true rfl⟩ (Nat.le_of_ble_eq_true rfl) dL_law_131 ?_
      refine j_if_ne (tgt := 139) C dL_law_134 (by decide) (fun h134 => ?_) (fun h134 => (by exact absurd h134 (by decide)))
      refine j_incN6 (q := 1) C dL_law_139 (by decide) (Nat.le_of_ble_eq_true rfl) rfl ?_
      refine j_goto (tgt := 48) C dL_law_142 (by decide) ?_
      exact j_dr (lv' := [some (.ref (gB g)), some (.ref (ad g 223)), some (.ref (ad g 224)), some (.ref (ad g 225)), some (.ref (ad g 226)), some (.ref (ad g 227)), some (.int (nI (i + 1))), none, none, none]) (And.intro rfl (And.intro rfl (And.intro rfl (And.intro rfl (And.intro rfl (And.intro rfl (And.intro rfl True.intro))))))) (ih (i + 1) _ (by omega) hI2)
end LAWL
