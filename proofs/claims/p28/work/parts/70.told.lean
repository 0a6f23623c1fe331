/-! THE LAW LOOKS: told (laid by wip/p28/p70.py) -/
set_option maxHeartbeats 4000000 in
theorem lp_L_toldA {p : Program} {l : Launch} {e : Env} {s : State} {m : MethodId} {args : Array Value} {below : List Frame} {meth : Method} {c : Code} {g : GC} {Q : State → Prop} {V : Mem} {L : LMem} {r0 r1 r2 r3 r4 r5 : Int32} {rv : Int32} {k nl ns : Nat} (C : Cx p s args m meth c cL_told 14 yL_told.cls (some .boolean) g) (hT : TI nl ns V) (hk : k < nl) (kx : J p l e (RM 6) s m args below meth c 14 g 0 0 Q V L 113 [some (.ref (ad g 223)), some (.ref (ad g 224)), some (.ref (ad g 225)), some (.ref (ad g 226)), some (.ref (ad g 227)), some (.int r0), some (.int r1), some (.int r2), some (.int r3), some (.int r4), some (.int r5), some (.int (nI k)), some (.int rv), some (.int (nI (3)))] []) : ∀ j i : Nat, i + j = 3 → J p l e (RM 6) s m args below meth c 14 g 0 0 Q V L 79 [some (.ref (ad g 223)), some (.ref (ad g 224)), some (.ref (ad g 225)), some (.ref (ad g 226)), some (.ref (ad g 227)), some (.int r0), some (.int r1), some (.int r2), some (.int r3), some (.int r4), some (.int r5), some (.int (nI k)), some (.int rv), some (.int (nI i))] [] := by
  intro j
  induction j with
  | zero =>
    intro i hi
    have hi : 3 = i := by omega
    subst hi
    refine j_iload C dL_told_79 rfl ?_
    refine j_iconst (v := (nI 3)) C dL_told_81 (by decide) ?_
    refine j_icmp_ge (tgt := 113) C dL_told_82 (by decide) (fun h82 => ?_) (fun h82 => absurd (nI_le (by omega) (by omega)) h82)
    exact kx
  | succ j ih =>
    intro i hi
    have hI := hT.1.1
    have h8 := hI.1.2
    have h12 := hI.2.1.2
    refine j_iload C dL_told_79 rfl ?_
    refine j_iconst (v := (nI 3)) C dL_told_81 (by decide) ?_
    refine j_icmp_ge (tgt := 113) C dL_told_82 (by decide) (fun h82 => absurd h82 (nI_ge (by omega) (by omega))) (fun h82 => ?_)
    refine j_aload_n C dL_told_85 rfl rfl ?_
    refine j_iload C dL_told_86 rfl ?_
    refine j_iload C dL_told_88 rfl ?_
    refine j_callV2r C (oa_X6 (by first | assumption | rfl)) rfl rfl (c_X6_lease (w := i) hI hk (by omega)) qm_L_26 qi_X6_lease qs_X6_lease qn_X6 qc_X6_lease fit_X6_lease ⟨Nat.le_of_ble_eq_true rfl, Nat.le_of_ble_eq_true rfl, Nat.le_of_ble_eq_true rfl, Nat.le_of_ble_eq_true rfl⟩ (Nat.le_of_ble_eq_true rfl) dL_told_90 ?_
    refine j_aload_n C dL_told_93 rfl rfl ?_
    refine j_iconst (v := (nI 3)) C dL_told_94 (by decide) ?_
    refine j_iload C dL_told_95 rfl ?_
    refine j_imulN C dL_told_97 ?_
    refine j_iload C dL_told_98 rfl ?_
    refine j_iaddN C dL_told_100 ?_
    refine j_ialdN C (by first | assumption | rfl) rfl rfl (by omega) dL_told_101 ?_
    refine j_tope (y := cProp V ns k i) (by rw [hT.2.1.f hk (by omega)]; unfold cProp; rw [if_pos (by omega)]) ?_
    refine j_icmp_eq (tgt := 107) C dL_told_102 (by decide) (fun h102 => ?_) (fun h102 => (by exact absurd rfl h102))
    refine j_incN13 (q := 1) C dL_told_107 (by decide) (Nat.le_of_ble_eq_true rfl) rfl ?_
    refine j_goto (tgt := 79) C dL_told_110 (by decide) ?_
    refine j_mem (V' := V) (L' := L) (by rfl) rfl ?_
    exact j_dr (lv' := [some (.ref (ad g 223)), some (.ref (ad g 224)), some (.ref (ad g 225)), some (.ref (ad g 226)), some (.ref (ad g 227)), some (.int r0), some (.int r1), some (.int r2), some (.int r3), some (.int r4), some (.int r5), some (.int (nI k)), some (.int rv), some (.int (nI (i + 1)))]) (And.intro rfl (And.intro rfl (And.intro rfl (And.intro rfl (And.intro rfl (And.intro rfl (And.intro rfl (And.intro rfl (And.intro rfl (And.intro rfl (And.intro rfl (And.intro rfl (And.intro rfl (And.intro rfl True.intro)))))))))))))) (ih (i + 1) (by omega))
set_option maxHeartbeats 4000000 in
theorem lp_L_toldB {p : Program} {l : Launch} {e : Env} {s : State} {m : MethodId} {args : Array Value} {below : List Frame} {meth : Method} {c : Code} {g : GC} {Q : State → Prop} {V : Mem} {L : LMem} {r0 r1 r2 r3 r4 r5 : Int32} {rv : Int32} {q nl ns : Nat} (C : Cx p s args m meth c cL_told 14 yL_told.cls (some .boolean) g) (hT : TI nl ns V) (hq : q < ns) (kx : J p l e (RM 6) s m args below meth c 14 g 0 0 Q V L 454 [some (.ref (ad g 223)), some (.ref (ad g 224)), some (.ref (ad g 225)), some (.ref (ad g 226)), some (.ref (ad g 227)), some (.int r0), some (.int r1), some (.int r2), some (.int r3), some (.int r4), some (.int r5), some (.int rv), some (.int (nI q)), some (.int (nI (4)))] []) : ∀ j i : Nat, i + j = 4 → J p l e (RM 6) s m args below meth c 14 g 0 0 Q V L 420 [some (.ref (ad g 223)), some (.ref (ad g 224)), some (.ref (ad g 225)), some (.ref (ad g 226)), some (.ref (ad g 227)), some (.int r0), some (.int r1), some (.int r2), some (.int r3), some (.int r4), some (.int r5), some (.int rv), some (.int (nI q)), some (.int (nI i))] [] := by
  intro j
  induction j with
  | zero =>
    intro i hi
    have hi : 4 = i := by omega
    subst hi
    refine j_iload C dL_told_420 rfl ?_
    refine j_iconst (v := (nI 4)) C dL_told_422 (by decide) ?_
    refine j_icmp_ge (tgt := 454) C dL_told_423 (by decide) (fun h423 => ?_) (fun h423 => absurd (nI_le (by omega) (by omega)) h423)
    exact kx
  | succ j ih =>
    intro i hi
    have hI := hT.1.1
    have h8 := hI.1.2
    have h12 := hI.2.1.2
    refine j_iload C dL_told_420 rfl ?_
    refine j_iconst (v := (nI 4)) C dL_told_422 (by decide) ?_
    refine j_icmp_ge (tgt := 454) C dL_told_423 (by decide) (fun h423 => absurd h423 (nI_ge (by omega) (by omega))) (fun h423 => ?_)
    refine j_aload_n C dL_told_426 rfl rfl ?_
    refine j_iload C dL_told_427 rfl ?_
    refine j_iload C dL_told_429 rfl ?_
    refine j_callV2r C (oa_X6 (by first | assumption | rfl)) rfl rfl (c_X6_sublease (w := i) hI hq (by omega)) qm_L_33 qi_X6_sublease qs_X6_sublease qn_X6 qc_X6_sublease fit_X6_sublease ⟨Nat.le_of_ble_eq_true rfl, Nat.le_of_ble_eq_true rfl, Nat.le_of_ble_eq_true rfl, Nat.le_of_ble_eq_true rfl⟩ (Nat.le_of_ble_eq_true rfl) dL_told_431 ?_
    refine j_aload_n C dL_told_434 rfl rfl ?_
    refine j_iconst (v := (nI 4)) C dL_told_435 (by decide) ?_
    refine j_iload C dL_told_436 rfl ?_
    refine j_imulN C dL_told_438 ?_
    refine j_iload C dL_told_439 rfl ?_
    refine j_iaddN C dL_told_441 ?_
    refine j_ialdN C (by first | assumption | rfl) rfl rfl (by omega) dL_told_442 ?_
    refine j_tope (y := V (19 + q) i) (by exact hT.2.1.s hq (by omega)) ?_
    refine j_icmp_eq (tgt := 448) C dL_told_443 (by decide) (fun h443 => ?_) (fun h443 => (by exact absurd rfl h443))
    refine j_incN13 (q := 1) C dL_told_448 (by decide) (Nat.le_of_ble_eq_true rfl) rfl ?_
    refine j_goto (tgt := 420) C dL_told_451 (by decide) ?_
    refine j_mem (V' := V) (L' := L) (by rfl) rfl ?_
    exact j_dr (lv' := [some (.ref (ad g 223)), some (.ref (ad g 224)), some (.ref (ad g 225)), some (.ref (ad g 226)), some (.ref (ad g 227)), some (.int r0), some (.int r1), some (.int r2), some (.int r3), some (.int r4), some (.int r5), some (.int rv), some (.int (nI q)), some (.int (nI (i + 1)))]) (And.intro rfl (And.intro rfl (And.intro rfl (And.intro rfl (And.intro rfl (And.intro rfl (And.intro rfl (And.intro rfl (And.intro rfl (And.intro rfl (And.intro rfl (And.intro rfl (And.intro rfl (And.intro rfl True.intro)))))))))))))) (ih (i + 1) (by omega))
set_option maxHeartbeats 4000000 in
theorem lp_L_toldL {p : Program} {l : Launch} {e : Env} {s : State} {m : MethodId} {args : Array Value} {below : List Frame} {meth : Method} {c : Code} {g : GC} {Q : State → Prop} {V : Mem} {L : LMem} {nl ns : Nat} (C : Cx p s args m meth c cL_told 14 yL_told.cls (some .boolean) g) (hT : TI nl ns V) (kx : J p l e (RM 6) s m args below meth c 14 g 0 0 Q V L 403 [some (.ref (ad g 223)), some (.ref (ad g 224)), some (.ref (ad g 225)), some (.ref (ad g 226)), some (.ref (ad g 227)), some (.int (cRunL V (nl))), some (.int (cSumL V (nl) ns 3)), some (.int (cSumL V (nl) ns 4)), some (.int (cSumL V (nl) ns 5)), some (.int (cAllP V (nl))), some (.int (cEF V (nl)).1), some (.int (nI (nl))), none, none] []) : ∀ j i : Nat, i + j = nl → J p l e (RM 6) s m args below meth c 14 g 0 0 Q V L 56 [some (.ref (ad g 223)), some (.ref (ad g 224)), some (.ref (ad g 225)), some (.ref (ad g 226)), some (.ref (ad g 227)), some (.int (cRunL V i)), some (.int (cSumL V i ns 3)), some (.int (cSumL V i ns 4)), some (.int (cSumL V i ns 5)), some (.int (cAllP V i)), some (.int (cEF V i).1), some (.int (nI i)), none, none] [] := by
  intro j
  induction j with
  | zero =>
    intro i hi
    have hi : nl = i := by omega
    subst hi
    refine j_iload C dL_told_56 rfl ?_
    refine j_aload_n C dL_told_58 rfl rfl ?_
    refine j_iconst (v := (nI 0)) C dL_told_59 (by decide) ?_
    refine j_ialdN C (by first | assumption | rfl) rfl rfl (by omega) dL_told_60 ?_
    refine j_tope (y := nI nl) (by exact hT.2.2.2.1) ?_
    refine j_icmp_ge (tgt := 403) C dL_told_61 (by decide) (fun h61 => ?_) (fun h61 => absurd (nI_le (by omega) (by have := hT.1.1.1.2; omega)) h61)
    exact kx
  | succ j ih =>
    intro i hi
    have hI := hT.1.1
    have h8 := hI.1.2
    have h12 := hI.2.1.2
    have hil : i < nl := by omega
    have hi8 : i ≤ 8 := by omega
    have hpi := hI.2.2.1 i hil
    refine j_iload C dL_told_56 rfl ?_
    refine j_aload_n C dL_told_58 rfl rfl ?_
    refine j_iconst (v := (nI 0)) C dL_told_59 (by decide) ?_
    refine j_ialdN C (by first | assumption | rfl) rfl rfl (by omega) dL_told_60 ?_
    refine j_tope (y := nI nl) (by exact hT.2.2.2.1) ?_
    refine j_icmp_ge (tgt := 403) C dL_told_61 (by decide) (fun h61 => absurd h61 (nI_ge (by omega) (by omega))) (fun h61 => ?_)
    refine j_iload C dL_told_64 rfl ?_
    refine j_iconst (v := (nI 5)) C dL_told_66 (by decide) ?_
    refine j_aload_n C dL_told_67 rfl rfl ?_
    refine j_aload_n C dL_told_68 rfl rfl ?_
    refine j_aload C dL_told_69 rfl ?_
    refine j_callS5r C (c_L_off5 hT.2.2.2.2.1 h12) qm_L_20 qt_L_off qn_L qc_L_off fit_L_off ⟨Nat.le_of_ble_eq_true rfl, Nat.le_of_ble_eq_true rfl, Nat.le_of_ble_eq_true rfl, Nat.le_of_ble_eq_true rfl⟩ (Nat.le_of_ble_eq_true rfl) dL_told_71 ?_
    refine j_tope (y := cProp V ns i 5) (by exact hT.2.1.p5 hT.1.2.2.1) ?_
    refine j_ist12 C dL_told_74 (Nat.le_of_ble_eq_true rfl) rfl ?_
    refine j_iconst (v := (nI 0)) C dL_told_76 (by decide) ?_
    refine j_ist13 C dL_told_77 (Nat.le_of_ble_eq_true rfl) rfl ?_
    refine lp_L_toldA (k := i) C hT hil ?_ 3 0 (by omega)
    refine j_aload_n C dL_told_113 rfl rfl ?_
    refine j_iload C dL_told_114 rfl ?_
    refine j_iconst (v := (nI 3)) C dL_told_116 (by decide) ?_
    refine j_callV2r C (oa_X6 (by first | assumption | rfl)) rfl rfl (c_X6_lease (w := 3) hI hil (by omega)) qm_L_26 qi_X6_lease qs_X6_lease qn_X6 qc_X6_lease fit_X6_lease ⟨Nat.le_of_ble_eq_true rfl, Nat.le_of_ble_eq_true rfl, Nat.le_of_ble_eq_true rfl, Nat.le_of_ble_eq_true rfl⟩ (Nat.le_of_ble_eq_true rfl) dL_told_117 ?_
    refine j_aload_n C dL_told_120 rfl rfl ?_
    refine j_iconst (v := (nI 3)) C dL_told_121 (by decide) ?_
    refine j_iload C dL_told_122 rfl ?_
    refine j_iaddN C dL_told_124 ?_
    refine j_ialdN C (by first | assumption | rfl) rfl rfl (by omega) dL_told_125 ?_
    refine j_tope (y := cProp V ns i 3) (by exact hT.2.1.li hil) ?_
    refine j_icmp_ne (tgt := 222) C dL_told_126 (by decide) (fun h126 => (by exact absurd rfl h126)) (fun h126 => ?_)
    refine j_aload_n C dL_told_129 rfl rfl ?_
    refine j_iload C dL_told_130 rfl ?_
    refine j_iconst (v := (nI 4)) C dL_told_132 (by decide) ?_
    refine j_callV2r C (oa_X6 (by first | assumption | rfl)) rfl rfl (c_X6_lease (w := 4) hI hil (by omega)) qm_L_26 qi_X6_lease qs_X6_lease qn_X6 qc_X6_lease fit_X6_lease ⟨Nat.le_of_ble_eq_true rfl, Nat.le_of_ble_eq_true rfl, Nat.le_of_ble_eq_true rfl, Nat.le_of_ble_eq_true rfl⟩ (Nat.le_of_ble_eq_true rfl) dL_told_133 ?_
    refine j_aload_n C dL_told_136 rfl rfl ?_
    refine j_bipush (v := (nI 11)) C dL_told_137 (by decide) ?_
    refine j_iload C dL_told_139 rfl ?_
    refine j_iaddN C dL_told_141 ?_
    refine j_ialdN C (by first | assumption | rfl) rfl rfl (by omega) dL_told_142 ?_
    refine j_tope (y := cProp V ns i 4) (by exact hT.2.1.as hil) ?_
    refine j_icmp_ne (tgt := 222) C dL_told_143 (by decide) (fun h143 => (by exact absurd rfl h143)) (fun h143 => ?_)
    refine j_aload_n C dL_told_146 rfl rfl ?_
    refine j_iload C dL_told_147 rfl ?_
    refine j_iconst (v := (nI 5)) C dL_told_149 (by decide) ?_
    refine j_callV2r C (oa_X6 (by first | assumption | rfl)) rfl rfl (c_X6_lease (w := 5) hI hil (by omega)) qm_L_26 qi_X6_lease qs_X6_lease qn_X6 qc_X6_lease fit_X6_lease ⟨Nat.le_of_ble_eq_true rfl, Nat.le_of_ble_eq_true rfl, Nat.le_of_ble_eq_true rfl, Nat.le_of_ble_eq_true rfl⟩ (Nat.le_of_ble_eq_true rfl) dL_told_150 ?_
    refine j_iload C dL_told_153 rfl ?_
    refine j_icmp_ne (tgt := 222) C dL_told_155 (by decide) (fun h155 => (by exact absurd rfl h155)) (fun h155 => ?_)
    refine j_aload_n C dL_told_158 rfl rfl ?_
    refine j_iload C dL_told_159 rfl ?_
    refine j_bipush (v := (nI 6)) C dL_told_161 (by decide) ?_
    refine j_callV2r C (oa_X6 (by first | assumption | rfl)) rfl rfl (c_X6_lease (w := 6) hI hil (by omega)) qm_L_26 qi_X6_lease qs_X6_lease qn_X6 qc_X6_lease fit_X6_lease ⟨Nat.le_of_ble_eq_true rfl, Nat.le_of_ble_eq_true rfl, Nat.le_of_ble_eq_true rfl, Nat.le_of_ble_eq_true rfl⟩ (Nat.le_of_ble_eq_true rfl) dL_told_163 ?_
    refine j_aload_n C dL_told_166 rfl rfl ?_
    refine j_iconst (v := (nI 3)) C dL_told_167 (by decide) ?_
    refine j_iload C dL_told_168 rfl ?_
    refine j_iaddN C dL_told_170 ?_
    refine j_ialdN C (by first | assumption | rfl) rfl rfl (by omega) dL_told_171 ?_
    refine j_iload C dL_told_172 rfl ?_
    refine j_isub C dL_told_174 ?_
    refine j_tope (y := cProp V ns i 6) (by exact hT.2.1.p6 hil) ?_
    refine j_icmp_ne (tgt := 222) C dL_told_175 (by decide) (fun h175 => (by exact absurd rfl h175)) (fun h175 => ?_)
    refine j_aload_n C dL_told_178 rfl rfl ?_
    refine j_iload C dL_told_179 rfl ?_
    refine j_bipush (v := (nI 7)) C dL_told_181 (by decide) ?_
    refine j_callV2r C (oa_X6 (by first | assumption | rfl)) rfl rfl (c_X6_lease (w := 7) hI hil (by omega)) qm_L_26 qi_X6_lease qs_X6_lease qn_X6 qc_X6_lease fit_X6_lease ⟨Nat.le_of_ble_eq_true rfl, Nat.le_of_ble_eq_true rfl, Nat.le_of_ble_eq_true rfl, Nat.le_of_ble_eq_true rfl⟩ (Nat.le_of_ble_eq_true rfl) dL_told_183 ?_
    refine j_iload C dL_told_186 rfl ?_
    refine j_bipush (v := (nI 7)) C dL_told_188 (by decide) ?_
    refine j_aload_n C dL_told_190 rfl rfl ?_
    refine j_aload_n C dL_told_191 rfl rfl ?_
    refine j_aload C dL_told_192 rfl ?_
    refine j_callS5r C (c_L_off7 hT.2.2.2.2.1 h12) qm_L_20 qt_L_off qn_L qc_L_off fit_L_off ⟨Nat.le_of_ble_eq_true rfl, Nat.le_of_ble_eq_true rfl, Nat.le_of_ble_eq_true rfl, Nat.le_of_ble_eq_true rfl⟩ (Nat.le_of_ble_eq_true rfl) dL_told_194 ?_
    refine j_tope (y := cProp V ns i 7) (by exact hT.2.1.p7 hT.1.2.2.1) ?_
    refine j_icmp_ne (tgt := 222) C dL_told_197 (by decide) (fun h197 => (by exact absurd rfl h197)) (fun h197 => ?_)
    refine j_aload_n C dL_told_200 rfl rfl ?_
    refine j_iload C dL_told_201 rfl ?_
    refine j_bipush (v := (nI 8)) C dL_told_203 (by decide) ?_
    refine j_callV2r C (oa_X6 (by first | assumption | rfl)) rfl rfl (c_X6_lease (w := 8) hI hil (by omega)) qm_L_26 qi_X6_lease qs_X6_lease qn_X6 qc_X6_lease fit_X6_lease ⟨Nat.le_of_ble_eq_true rfl, Nat.le_of_ble_eq_true rfl, Nat.le_of_ble_eq_true rfl, Nat.le_of_ble_eq_true rfl⟩ (Nat.le_of_ble_eq_true rfl) dL_told_205 ?_
    refine j_iload C dL_told_208 rfl ?_
    refine j_bipush (v := (nI 8)) C dL_told_210 (by decide) ?_
    refine j_aload_n C dL_told_212 rfl rfl ?_
    refine j_aload_n C dL_told_213 rfl rfl ?_
    refine j_aload C dL_told_214 rfl ?_
    refine j_callS5r C (c_L_off8 hT.2.2.2.2.1 h12) qm_L_20 qt_L_off qn_L qc_L_off fit_L_off ⟨Nat.le_of_ble_eq_true rfl, Nat.le_of_ble_eq_true rfl, Nat.le_of_ble_eq_true rfl, Nat.le_of_ble_eq_true rfl⟩ (Nat.le_of_ble_eq_true rfl) dL_told_216 ?_
    refine j_tope (y := cProp V ns i 8) (by exact hT.2.1.p8 hT.1.2.2.1) ?_
    refine j_icmp_eq (tgt := 224) C dL_told_219 (by decide) (fun h219 => ?_) (fun h219 => (by exact absurd rfl h219))
    refine j_aload_n C dL_told_224 rfl rfl ?_
    refine j_iload C dL_told_225 rfl ?_
    refine j_iconst (v := (nI 0)) C dL_told_227 (by decide) ?_
    refine j_callV2r C (oa_X6 (by first | assumption | rfl)) rfl rfl (c_X6_profit hI hil (inN (by omega) (by omega) (by omega))) qm_L_30 qi_X6_profit qs_X6_profit qn_X6 qc_X6_profit fit_X6_profit ⟨Nat.le_of_ble_eq_true rfl, Nat.le_of_ble_eq_true rfl, Nat.le_of_ble_eq_true rfl, Nat.le_of_ble_eq_true rfl⟩ (Nat.le_of_ble_eq_true rfl) dL_told_228 ?_
    refine j_tope (y := cProf0 (3 + i) V) (by rw [if_pos (by decide)]) ?_
    refine j_aload_n C dL_told_231 rfl rfl ?_
    refine j_bipush (v := (nI 27)) C dL_told_232 (by decide) ?_
    refine j_iload C dL_told_234 rfl ?_
    refine j_iaddN C dL_told_236 ?_
    refine j_ialdN C (by first | assumption | rfl) rfl rfl (by omega) dL_told_237 ?_
    refine j_tope (y := cProf0 (3 + i) V) (by exact hT.2.1.pr hil) ?_
    refine j_icmp_ne (tgt := 293) C dL_told_238 (by decide) (fun h238 => (by exact absurd rfl h238)) (fun h238 => ?_)
    refine j_aload_n C dL_told_241 rfl rfl ?_
    refine j_iload C dL_told_242 rfl ?_
    refine j_iconst (v := (nI 1)) C dL_told_244 (by decide) ?_
    refine j_callV2r C (oa_X6 (by first | assumption | rfl)) rfl rfl (c_X6_profit hI hil (inN (by omega) (by omega) (by omega))) qm_L_30 qi_X6_profit qs_X6_profit qn_X6 qc_X6_profit fit_X6_profit ⟨Nat.le_of_ble_eq_true rfl, Nat.le_of_ble_eq_true rfl, Nat.le_of_ble_eq_true rfl, Nat.le_of_ble_eq_true rfl⟩ (Nat.le_of_ble_eq_true rfl) dL_told_245 ?_
    refine j_tope (y := cProf1 (3 + i) (cSub V ns i 5) V) (by rw [if_neg (by decide)]) ?_
    refine j_aload_n C dL_told_248 rfl rfl ?_
    refine j_bipush (v := (nI 11)) C dL_told_249 (by decide) ?_
    refine j_iload C dL_told_251 rfl ?_
    refine j_iaddN C dL_told_253 ?_
    refine j_ialdN C (by first | assumption | rfl) rfl rfl (by omega) dL_told_254 ?_
    refine j_iload C dL_told_255 rfl ?_
    refine j_iadd C dL_told_257 ?_
    refine j_aload_n C dL_told_258 rfl rfl ?_
    refine j_iconst (v := (nI 3)) C dL_told_259 (by decide) ?_
    refine j_iload C dL_told_260 rfl ?_
    refine j_iaddN C dL_told_262 ?_
    refine j_ialdN C (by first | assumption | rfl) rfl rfl (by omega) dL_told_263 ?_
    refine j_isub C dL_told_264 ?_
    refine j_aload_n C dL_told_265 rfl rfl ?_
    refine j_bipush (v := (nI 19)) C dL_told_266 (by decide) ?_
    refine j_iload C dL_told_268 rfl ?_
    refine j_iaddN C dL_told_270 ?_
    refine j_ialdN C (by first | assumption | rfl) rfl rfl (by omega) dL_told_271 ?_
    refine j_iadd C dL_told_272 ?_
    refine j_tope (y := cProf1 (3 + i) (cSub V ns i 5) V) (by exact hT.2.1.p1 hil) ?_
    refine j_icmp_ne (tgt := 293) C dL_told_273 (by decide) (fun h273 => (by exact absurd rfl h273)) (fun h273 => ?_)
    refine j_aload_n C dL_told_276 rfl rfl ?_
    refine j_iload C dL_told_277 rfl ?_
    refine j_iconst (v := (nI 0)) C dL_told_279 (by decide) ?_
    refine j_callV2r C (oa_X6 (by first | assumption | rfl)) rfl rfl (c_X6_profit hI hil (inN (by omega) (by omega) (by omega))) qm_L_30 qi_X6_profit qs_X6_profit qn_X6 qc_X6_profit fit_X6_profit ⟨Nat.le_of_ble_eq_true rfl, Nat.le_of_ble_eq_true rfl, Nat.le_of_ble_eq_true rfl, Nat.le_of_ble_eq_true rfl⟩ (Nat.le_of_ble_eq_true rfl) dL_told_280 ?_
    refine j_tope (y := cProf0 (3 + i) V) (by rw [if_pos (by decide)]) ?_
    refine j_aload_n C dL_told_283 rfl rfl ?_
    refine j_iload C dL_told_284 rfl ?_
    refine j_iconst (v := (nI 1)) C dL_told_286 (by decide) ?_
    refine j_callV2r C (oa_X6 (by first | assumption | rfl)) rfl rfl (c_X6_profit hI hil (inN (by omega) (by omega) (by omega))) qm_L_30 qi_X6_profit qs_X6_profit qn_X6 qc_X6_profit fit_X6_profit ⟨Nat.le_of_ble_eq_true rfl, Nat.le_of_ble_eq_true rfl, Nat.le_of_ble_eq_true rfl, Nat.le_of_ble_eq_true rfl⟩ (Nat.le_of_ble_eq_true rfl) dL_told_287 ?_
    refine j_tope (y := cProf0 (3 + i) V) (by rw [if_neg (by decide)]; exact hT.pp hil) ?_
    refine j_icmp_eq (tgt := 295) C dL_told_290 (by decide) (fun h290 => ?_) (fun h290 => (by exact absurd rfl h290))
    refine j_iload C dL_told_295 rfl ?_
    refine j_aload_n C dL_told_297 rfl rfl ?_
    refine j_iconst (v := (nI 3)) C dL_told_298 (by decide) ?_
    refine j_iload C dL_told_299 rfl ?_
    refine j_imulN C dL_told_301 ?_
    refine j_iconst (v := (nI 1)) C dL_told_302 (by decide) ?_
    refine j_iaddN C dL_told_303 ?_
    refine j_ialdN C (by first | assumption | rfl) rfl rfl (by omega) dL_told_304 ?_
    refine j_tope (y := V (3 + i) 1) (by exact hT.2.1.f hil (by omega)) ?_
    refine j_if_le (tgt := 312) C dL_told_305 (by decide) (fun h305 => ?_) (fun h305 => ?_)
    · refine j_iconst (v := (nI 0)) C dL_told_312 (by decide) ?_
      refine j_iadd C dL_told_313 ?_
      refine j_ist5 C dL_told_314 (Nat.le_of_ble_eq_true rfl) rfl ?_
      refine j_iload C dL_told_316 rfl ?_
      refine j_aload_n C dL_told_318 rfl rfl ?_
      refine j_iconst (v := (nI 3)) C dL_told_319 (by decide) ?_
      refine j_iload C dL_told_320 rfl ?_
      refine j_iaddN C dL_told_322 ?_
      refine j_ialdN C (by first | assumption | rfl) rfl rfl (by omega) dL_told_323 ?_
      refine j_tope (y := cProp V ns i 3) (by exact hT.2.1.li hil) ?_
      refine j_iadd C dL_told_324 ?_
      refine j_ist6 C dL_told_325 (Nat.le_of_ble_eq_true rfl) rfl ?_
      refine j_iload C dL_told_327 rfl ?_
      refine j_aload_n C dL_told_329 rfl rfl ?_
      refine j_bipush (v := (nI 11)) C dL_told_330 (by decide) ?_
      refine j_iload C dL_told_332 rfl ?_
      refine j_iaddN C dL_told_334 ?_
      refine j_ialdN C (by first | assumption | rfl) rfl rfl (by omega) dL_told_335 ?_
      refine j_tope (y := cProp V ns i 4) (by exact hT.2.1.as hil) ?_
      refine j_iadd C dL_told_336 ?_
      refine j_ist7 C dL_told_337 (Nat.le_of_ble_eq_true rfl) rfl ?_
      refine j_iload C dL_told_339 rfl ?_
      refine j_iload C dL_told_341 rfl ?_
      refine j_iadd C dL_told_343 ?_
      refine j_ist8 C dL_told_344 (Nat.le_of_ble_eq_true rfl) rfl ?_
      refine j_iload C dL_told_346 rfl ?_
      refine j_aload_n C dL_told_348 rfl rfl ?_
      refine j_bipush (v := (nI 27)) C dL_told_349 (by decide) ?_
      refine j_iload C dL_told_351 rfl ?_
      refine j_iaddN C dL_told_353 ?_
      refine j_ialdN C (by first | assumption | rfl) rfl rfl (by omega) dL_told_354 ?_
      refine j_tope (y := cProf0 (3 + i) V) (by exact hT.2.1.pr hil) ?_
      refine j_iadd C dL_told_355 ?_
      refine j_ist9 C dL_told_356 (Nat.le_of_ble_eq_true rfl) rfl ?_
      refine j_aload_n C dL_told_358 rfl rfl ?_
      refine j_iconst (v := (nI 3)) C dL_told_359 (by decide) ?_
      refine j_iload C dL_told_360 rfl ?_
      refine j_imulN C dL_told_362 ?_
      refine j_iconst (v := (nI 1)) C dL_told_363 (by decide) ?_
      refine j_iaddN C dL_told_364 ?_
      refine j_ialdN C (by first | assumption | rfl) rfl rfl (by omega) dL_told_365 ?_
      refine j_tope (y := V (3 + i) 1) (by exact hT.2.1.f hil (by omega)) ?_
      refine j_if_le (tgt := 397) C dL_told_366 (by decide) (fun h366 => ?_) (fun h366 => ?_)
      · refine j_incN11 (q := 1) C dL_told_397 (by decide) (Nat.le_of_ble_eq_true rfl) rfl ?_
        refine j_goto (tgt := 56) C dL_told_400 (by decide) ?_
        refine j_mem (V' := V) (L' := L) (by rfl) rfl ?_
        exact j_dr (lv' := [some (.ref (ad g 223)), some (.ref (ad g 224)), some (.ref (ad g 225)), some (.ref (ad g 226)), some (.ref (ad g 227)), some (.int (cRunL V (i + 1))), some (.int (cSumL V (i + 1) ns 3)), some (.int (cSumL V (i + 1) ns 4)), some (.int (cSumL V (i + 1) ns 5)), some (.int (cAllP V (i + 1))), some (.int (cEF V (i + 1)).1), some (.int (nI (i + 1))), none, none]) (And.intro rfl (And.intro rfl (And.intro rfl (And.intro rfl (And.intro rfl (And.intro (by first | exact cgI (sF_t2 (decide_eq_true (Int32.not_le.mp h305)) rfl) | exact cgI (Eq.trans i_add0 (sF_f (mt of_decide_eq_true (Int32.not_lt.mpr h305))))) (And.intro (by exact cgI (sF_t rfl)) (And.intro (by exact cgI (sF_t rfl)) (And.intro (by exact cgI (sF_t rfl)) (And.intro (by exact cgI (sF_t rfl)) (And.intro (by first | exact cgI (cEF_a h366) | exact cgI (cEF_b hi8 hpi h366 h371) | exact cgI (cEF_c h366 e2 h390) | exact cgI (cEF_d e2 h390)) (And.intro rfl True.intro)))))))))))) (ih (i + 1) (by omega))
      · refine j_iload C dL_told_369 rfl ?_
        refine j_if_lt (tgt := 393) C dL_told_371 (by decide) (fun h371 => ?_) (fun h371 => ?_)
        · refine j_iload C dL_told_393 rfl ?_
          refine j_ist10 C dL_told_395 (Nat.le_of_ble_eq_true rfl) rfl ?_
          refine j_incN11 (q := 1) C dL_told_397 (by decide) (Nat.le_of_ble_eq_true rfl) rfl ?_
          refine j_goto (tgt := 56) C dL_told_400 (by decide) ?_
          refine j_mem (V' := V) (L' := L) (by rfl) rfl ?_
          exact j_dr (lv' := [some (.ref (ad g 223)), some (.ref (ad g 224)), some (.ref (ad g 225)), some (.ref (ad g 226)), some (.ref (ad g 227)), some (.int (cRunL V (i + 1))), some (.int (cSumL V (i + 1) ns 3)), some (.int (cSumL V (i + 1) ns 4)), some (.int (cSumL V (i + 1) ns 5)), some (.int (cAllP V (i + 1))), some (.int (cEF V (i + 1)).1), some (.int (nI (i + 1))), none, none]) (And.intro rfl (And.intro rfl (And.intro rfl (And.intro rfl (And.intro rfl (And.intro (by first | exact cgI (sF_t2 (decide_eq_true (Int32.not_le.mp h305)) rfl) | exact cgI (Eq.trans i_add0 (sF_f (mt of_decide_eq_true (Int32.not_lt.mpr h305))))) (And.intro (by exact cgI (sF_t rfl)) (And.intro (by exact cgI (sF_t rfl)) (And.intro (by exact cgI (sF_t rfl)) (And.intro (by exact cgI (sF_t rfl)) (And.intro (by first | exact cgI (cEF_a h366) | exact cgI (cEF_b hi8 hpi h366 h371) | exact cgI (cEF_c h366 e2 h390) | exact cgI (cEF_d e2 h390)) (And.intro rfl True.intro)))))))))))) (ih (i + 1) (by omega))
        · obtain ⟨b, hb, e1, e2⟩ := cEF_nn h371
          refine j_aload_n C dL_told_374 rfl rfl ?_
          refine j_iconst (v := (nI 3)) C dL_told_375 (by decide) ?_
          refine j_iload C dL_told_376 rfl ?_
          refine j_imulN C dL_told_378 ?_
          refine j_iconst (v := (nI 1)) C dL_told_379 (by decide) ?_
          refine j_iaddN C dL_told_380 ?_
          refine j_ialdN C (by first | assumption | rfl) rfl rfl (by omega) dL_told_381 ?_
          refine j_tope (y := V (3 + i) 1) (by exact hT.2.1.f hil (by omega)) ?_
          refine j_aload_n C dL_told_382 rfl rfl ?_
          refine j_iconst (v := (nI 3)) C dL_told_383 (by decide) ?_
          refine j_iload C dL_told_384 rfl ?_
          refine j_tope (y := nI b) (by exact e1) ?_
          refine j_imulN C dL_told_386 ?_
          refine j_iconst (v := (nI 1)) C dL_told_387 (by decide) ?_
          refine j_iaddN C dL_told_388 ?_
          refine j_ialdN C (by first | assumption | rfl) rfl rfl (by omega) dL_told_389 ?_
          refine j_tope (y := V (3 + b) 1) (by exact hT.2.1.f (by omega) (by omega)) ?_
          refine j_icmp_ge (tgt := 397) C dL_told_390 (by decide) (fun h390 => ?_) (fun h390 => ?_)
          · refine j_incN11 (q := 1) C dL_told_397 (by decide) (Nat.le_of_ble_eq_true rfl) rfl ?_
            refine j_goto (tgt := 56) C dL_told_400 (by decide) ?_
            refine j_mem (V' := V) (L' := L) (by rfl) rfl ?_
            exact j_dr (lv' := [some (.ref (ad g 223)), some (.ref (ad g 224)), some (.ref (ad g 225)), some (.ref (ad g 226)), some (.ref (ad g 227)), some (.int (cRunL V (i + 1))), some (.int (cSumL V (i + 1) ns 3)), some (.int (cSumL V (i + 1) ns 4)), some (.int (cSumL V (i + 1) ns 5)), some (.int (cAllP V (i + 1))), some (.int (cEF V (i + 1)).1), some (.int (nI (i + 1))), none, none]) (And.intro rfl (And.intro rfl (And.intro rfl (And.intro rfl (And.intro rfl (And.intro (by first | exact cgI (sF_t2 (decide_eq_true (Int32.not_le.mp h305)) rfl) | exact cgI (Eq.trans i_add0 (sF_f (mt of_decide_eq_true (Int32.not_lt.mpr h305))))) (And.intro (by exact cgI (sF_t rfl)) (And.intro (by exact cgI (sF_t rfl)) (And.intro (by exact cgI (sF_t rfl)) (And.intro (by exact cgI (sF_t rfl)) (And.intro (by first | exact cgI (cEF_a h366) | exact cgI (cEF_b hi8 hpi h366 h371) | exact cgI (cEF_c h366 e2 h390) | exact cgI (cEF_d e2 h390)) (And.intro rfl True.intro)))))))))))) (ih (i + 1) (by omega))
          · refine j_iload C dL_told_393 rfl ?_
            refine j_ist10 C dL_told_395 (Nat.le_of_ble_eq_true rfl) rfl ?_
            refine j_incN11 (q := 1) C dL_told_397 (by decide) (Nat.le_of_ble_eq_true rfl) rfl ?_
            refine j_goto (tgt := 56) C dL_told_400 (by decide) ?_
            refine j_mem (V' := V) (L' := L) (by rfl) rfl ?_
            exact j_dr (lv' := [some (.ref (ad g 223)), some (.ref (ad g 224)), some (.ref (ad g 225)), some (.ref (ad g 226)), some (.ref (ad g 227)), some (.int (cRunL V (i + 1))), some (.int (cSumL V (i + 1) ns 3)), some (.int (cSumL V (i + 1) ns 4)), some (.int (cSumL V (i + 1) ns 5)), some (.int (cAllP V (i + 1))), some (.int (cEF V (i + 1)).1), some (.int (nI (i + 1))), none, none]) (And.intro rfl (And.intro rfl (And.intro rfl (And.intro rfl (And.intro rfl (And.intro (by first | exact cgI (sF_t2 (decide_eq_true (Int32.not_le.mp h305)) rfl) | exact cgI (Eq.trans i_add0 (sF_f (mt of_decide_eq_true (Int32.not_lt.mpr h305))))) (And.intro (by exact cgI (sF_t rfl)) (And.intro (by exact cgI (sF_t rfl)) (And.intro (by exact cgI (sF_t rfl)) (And.intro (by exact cgI (sF_t rfl)) (And.intro (by first | exact cgI (cEF_a h366) | exact cgI (cEF_b hi8 hpi h366 h371) | exact cgI (cEF_c h366 e2 h390) | exact cgI (cEF_d e2 h390)) (And.intro rfl True.intro)))))))))))) (ih (i + 1) (by omega))
    · refine j_iconst (v := (nI 1)) C dL_told_308 (by decide) ?_
      refine j_goto (tgt := 313) C dL_told_309 (by decide) ?_
      refine j_iadd C dL_told_313 ?_
      refine j_ist5 C dL_told_314 (Nat.le_of_ble_eq_true rfl) rfl ?_
      refine j_iload C dL_told_316 rfl ?_
      refine j_aload_n C dL_told_318 rfl rfl ?_
      refine j_iconst (v := (nI 3)) C dL_told_319 (by decide) ?_
      refine j_iload C dL_told_320 rfl ?_
      refine j_iaddN C dL_told_322 ?_
      refine j_ialdN C (by first | assumption | rfl) rfl rfl (by omega) dL_told_323 ?_
      refine j_tope (y := cProp V ns i 3) (by exact hT.2.1.li hil) ?_
      refine j_iadd C dL_told_324 ?_
      refine j_ist6 C dL_told_325 (Nat.le_of_ble_eq_true rfl) rfl ?_
      refine j_iload C dL_told_327 rfl ?_
      refine j_aload_n C dL_told_329 rfl rfl ?_
      refine j_bipush (v := (nI 11)) C dL_told_330 (by decide) ?_
      refine j_iload C dL_told_332 rfl ?_
      refine j_iaddN C dL_told_334 ?_
      refine j_ialdN C (by first | assumption | rfl) rfl rfl (by omega) dL_told_335 ?_
      refine j_tope (y := cProp V ns i 4) (by exact hT.2.1.as hil) ?_
      refine j_iadd C dL_told_336 ?_
      refine j_ist7 C dL_told_337 (Nat.le_of_ble_eq_true rfl) rfl ?_
      refine j_iload C dL_told_339 rfl ?_
      refine j_iload C dL_told_341 rfl ?_
      refine j_iadd C dL_told_343 ?_
      refine j_ist8 C dL_told_344 (Nat.le_of_ble_eq_true rfl) rfl ?_
      refine j_iload C dL_told_346 rfl ?_
      refine j_aload_n C dL_told_348 rfl rfl ?_
      refine j_bipush (v := (nI 27)) C dL_told_349 (by decide) ?_
      refine j_iload C dL_told_351 rfl ?_
      refine j_iaddN C dL_told_353 ?_
      refine j_ialdN C (by first | assumption | rfl) rfl rfl (by omega) dL_told_354 ?_
      refine j_tope (y := cProf0 (3 + i) V) (by exact hT.2.1.pr hil) ?_
      refine j_iadd C dL_told_355 ?_
      refine j_ist9 C dL_told_356 (Nat.le_of_ble_eq_true rfl) rfl ?_
      refine j_aload_n C dL_told_358 rfl rfl ?_
      refine j_iconst (v := (nI 3)) C dL_told_359 (by decide) ?_
      refine j_iload C dL_told_360 rfl ?_
      refine j_imulN C dL_told_362 ?_
      refine j_iconst (v := (nI 1)) C dL_told_363 (by decide) ?_
      refine j_iaddN C dL_told_364 ?_
      refine j_ialdN C (by first | assumption | rfl) rfl rfl (by omega) dL_told_365 ?_
      refine j_tope (y := V (3 + i) 1) (by exact hT.2.1.f hil (by omega)) ?_
      refine j_if_le (tgt := 397) C dL_told_366 (by decide) (fun h366 => ?_) (fun h366 => ?_)
      · refine j_incN11 (q := 1) C dL_told_397 (by decide) (Nat.le_of_ble_eq_true rfl) rfl ?_
        refine j_goto (tgt := 56) C dL_told_400 (by decide) ?_
        refine j_mem (V' := V) (L' := L) (by rfl) rfl ?_
        exact j_dr (lv' := [some (.ref (ad g 223)), some (.ref (ad g 224)), some (.ref (ad g 225)), some (.ref (ad g 226)), some (.ref (ad g 227)), some (.int (cRunL V (i + 1))), some (.int (cSumL V (i + 1) ns 3)), some (.int (cSumL V (i + 1) ns 4)), some (.int (cSumL V (i + 1) ns 5)), some (.int (cAllP V (i + 1))), some (.int (cEF V (i + 1)).1), some (.int (nI (i + 1))), none, none]) (And.intro rfl (And.intro rfl (And.intro rfl (And.intro rfl (And.intro rfl (And.intro (by first | exact cgI (sF_t2 (decide_eq_true (Int32.not_le.mp h305)) rfl) | exact cgI (Eq.trans i_add0 (sF_f (mt of_decide_eq_true (Int32.not_lt.mpr h305))))) (And.intro (by exact cgI (sF_t rfl)) (And.intro (by exact cgI (sF_t rfl)) (And.intro (by exact cgI (sF_t rfl)) (And.intro (by exact cgI (sF_t rfl)) (And.intro (by first | exact cgI (cEF_a h366) | exact cgI (cEF_b hi8 hpi h366 h371) | exact cgI (cEF_c h366 e2 h390) | exact cgI (cEF_d e2 h390)) (And.intro rfl True.intro)))))))))))) (ih (i + 1) (by omega))
      · refine j_iload C dL_told_369 rfl ?_
        refine j_if_lt (tgt := 393) C dL_told_371 (by decide) (fun h371 => ?_) (fun h371 => ?_)
        · refine j_iload C dL_told_393 rfl ?_
          refine j_ist10 C dL_told_395 (Nat.le_of_ble_eq_true rfl) rfl ?_
          refine j_incN11 (q := 1) C dL_told_397 (by decide) (Nat.le_of_ble_eq_true rfl) rfl ?_
          refine j_goto (tgt := 56) C dL_told_400 (by decide) ?_
          refine j_mem (V' := V) (L' := L) (by rfl) rfl ?_
          exact j_dr (lv' := [some (.ref (ad g 223)), some (.ref (ad g 224)), some (.ref (ad g 225)), some (.ref (ad g 226)), some (.ref (ad g 227)), some (.int (cRunL V (i + 1))), some (.int (cSumL V (i + 1) ns 3)), some (.int (cSumL V (i + 1) ns 4)), some (.int (cSumL V (i + 1) ns 5)), some (.int (cAllP V (i + 1))), some (.int (cEF V (i + 1)).1), some (.int (nI (i + 1))), none, none]) (And.intro rfl (And.intro rfl (And.intro rfl (And.intro rfl (And.intro rfl (And.intro (by first | exact cgI (sF_t2 (decide_eq_true (Int32.not_le.mp h305)) rfl) | exact cgI (Eq.trans i_add0 (sF_f (mt of_decide_eq_true (Int32.not_lt.mpr h305))))) (And.intro (by exact cgI (sF_t rfl)) (And.intro (by exact cgI (sF_t rfl)) (And.intro (by exact cgI (sF_t rfl)) (And.intro (by exact cgI (sF_t rfl)) (And.intro (by first | exact cgI (cEF_a h366) | exact cgI (cEF_b hi8 hpi h366 h371) | exact cgI (cEF_c h366 e2 h390) | exact cgI (cEF_d e2 h390)) (And.intro rfl True.intro)))))))))))) (ih (i + 1) (by omega))
        · obtain ⟨b, hb, e1, e2⟩ := cEF_nn h371
          refine j_aload_n C dL_told_374 rfl rfl ?_
          refine j_iconst (v := (nI 3)) C dL_told_375 (by decide) ?_
          refine j_iload C dL_told_376 rfl ?_
          refine j_imulN C dL_told_378 ?_
          refine j_iconst (v := (nI 1)) C dL_told_379 (by decide) ?_
          refine j_iaddN C dL_told_380 ?_
          refine j_ialdN C (by first | assumption | rfl) rfl rfl (by omega) dL_told_381 ?_
          refine j_tope (y := V (3 + i) 1) (by exact hT.2.1.f hil (by omega)) ?_
          refine j_aload_n C dL_told_382 rfl rfl ?_
          refine j_iconst (v := (nI 3)) C dL_told_383 (by decide) ?_
          refine j_iload C dL_told_384 rfl ?_
          refine j_tope (y := nI b) (by exact e1) ?_
          refine j_imulN C dL_told_386 ?_
          refine j_iconst (v := (nI 1)) C dL_told_387 (by decide) ?_
          refine j_iaddN C dL_told_388 ?_
          refine j_ialdN C (by first | assumption | rfl) rfl rfl (by omega) dL_told_389 ?_
          refine j_tope (y := V (3 + b) 1) (by exact hT.2.1.f (by omega) (by omega)) ?_
          refine j_icmp_ge (tgt := 397) C dL_told_390 (by decide) (fun h390 => ?_) (fun h390 => ?_)
          · refine j_incN11 (q := 1) C dL_told_397 (by decide) (Nat.le_of_ble_eq_true rfl) rfl ?_
            refine j_goto (tgt := 56) C dL_told_400 (by decide) ?_
            refine j_mem (V' := V) (L' := L) (by rfl) rfl ?_
            exact j_dr (lv' := [some (.ref (ad g 223)), some (.ref (ad g 224)), some (.ref (ad g 225)), some (.ref (ad g 226)), some (.ref (ad g 227)), some (.int (cRunL V (i + 1))), some (.int (cSumL V (i + 1) ns 3)), some (.int (cSumL V (i + 1) ns 4)), some (.int (cSumL V (i + 1) ns 5)), some (.int (cAllP V (i + 1))), some (.int (cEF V (i + 1)).1), some (.int (nI (i + 1))), none, none]) (And.intro rfl (And.intro rfl (And.intro rfl (And.intro rfl (And.intro rfl (And.intro (by first | exact cgI (sF_t2 (decide_eq_true (Int32.not_le.mp h305)) rfl) | exact cgI (Eq.trans i_add0 (sF_f (mt of_decide_eq_true (Int32.not_lt.mpr h305))))) (And.intro (by exact cgI (sF_t rfl)) (And.intro (by exact cgI (sF_t rfl)) (And.intro (by exact cgI (sF_t rfl)) (And.intro (by exact cgI (sF_t rfl)) (And.intro (by first | exact cgI (cEF_a h366) | exact cgI (cEF_b hi8 hpi h366 h371) | exact cgI (cEF_c h366 e2 h390) | exact cgI (cEF_d e2 h390)) (And.intro rfl True.intro)))))))))))) (ih (i + 1) (by omega))
          · refine j_iload C dL_told_393 rfl ?_
            refine j_ist10 C dL_told_395 (Nat.le_of_ble_eq_true rfl) rfl ?_
            refine j_incN11 (q := 1) C dL_told_397 (by decide) (Nat.le_of_ble_eq_true rfl) rfl ?_
            refine j_goto (tgt := 56) C dL_told_400 (by decide) ?_
            refine j_mem (V' := V) (L' := L) (by rfl) rfl ?_
            exact j_dr (lv' := [some (.ref (ad g 223)), some (.ref (ad g 224)), some (.ref (ad g 225)), some (.ref (ad g 226)), some (.ref (ad g 227)), some (.int (cRunL V (i + 1))), some (.int (cSumL V (i + 1) ns 3)), some (.int (cSumL V (i + 1) ns 4)), some (.int (cSumL V (i + 1) ns 5)), some (.int (cAllP V (i + 1))), some (.int (cEF V (i + 1)).1), some (.int (nI (i + 1))), none, none]) (And.intro rfl (And.intro rfl (And.intro rfl (And.intro rfl (And.intro rfl (And.intro (by first | exact cgI (sF_t2 (decide_eq_true (Int32.not_le.mp h305)) rfl) | exact cgI (Eq.trans i_add0 (sF_f (mt of_decide_eq_true (Int32.not_lt.mpr h305))))) (And.intro (by exact cgI (sF_t rfl)) (And.intro (by exact cgI (sF_t rfl)) (And.intro (by exact cgI (sF_t rfl)) (And.intro (by exact cgI (sF_t rfl)) (And.intro (by first | exact cgI (cEF_a h366) | exact cgI (cEF_b hi8 hpi h366 h371) | exact cgI (cEF_c h366 e2 h390) | exact cgI (cEF_d e2 h390)) (And.intro rfl True.intro)))))))))))) (ih (i + 1) (by omega))
set_option maxHeartbeats 4000000 in
theorem lp_L_toldS {p : Program} {l : Launch} {e : Env} {s : State} {m : MethodId} {args : Array Value} {below : List Frame} {meth : Method} {c : Code} {g : GC} {Q : State → Prop} {V : Mem} {L : LMem} {r0 r1 r2 r3 r4 r5 : Int32} {nl ns : Nat} (C : Cx p s args m meth c cL_told 14 yL_told.cls (some .boolean) g) (hT : TI nl ns V) (kx : J p l e (RM 6) s m args below meth c 14 g 0 0 Q V L 516 [some (.ref (ad g 223)), some (.ref (ad g 224)), some (.ref (ad g 225)), some (.ref (ad g 226)), some (.ref (ad g 227)), some (.int r0), some (.int r1), some (.int r2), some (.int r3), some (.int r4), some (.int r5), some (.int (cRS V (ns))), some (.int (nI (ns))), none] []) : ∀ j i : Nat, i + j = ns → J p l e (RM 6) s m args below meth c 14 g 0 0 Q V L 409 [some (.ref (ad g 223)), some (.ref (ad g 224)), some (.ref (ad g 225)), some (.ref (ad g 226)), some (.ref (ad g 227)), some (.int r0), some (.int r1), some (.int r2), some (.int r3), some (.int r4), some (.int r5), some (.int (cRS V i)), some (.int (nI i)), none] [] := by
  intro j
  induction j with
  | zero =>
    intro i hi
    have hi : ns = i := by omega
    subst hi
    refine j_iload C dL_told_409 rfl ?_
    refine j_aload_n C dL_told_411 rfl rfl ?_
    refine j_iconst (v := (nI 1)) C dL_told_412 (by decide) ?_
    refine j_ialdN C (by first | assumption | rfl) rfl rfl (by omega) dL_told_413 ?_
    refine j_tope (y := nI ns) (by exact hT.2.2.2.2.1) ?_
    refine j_icmp_ge (tgt := 516) C dL_told_414 (by decide) (fun h414 => ?_) (fun h414 => absurd (nI_le (by omega) (by have := hT.1.1.2.1.2; omega)) h414)
    exact kx
  | succ j ih =>
    intro i hi
    have hI := hT.1.1
    have h8 := hI.1.2
    have h12 := hI.2.1.2
    have hil : i < ns := by omega
    refine j_iload C dL_told_409 rfl ?_
    refine j_aload_n C dL_told_411 rfl rfl ?_
    refine j_iconst (v := (nI 1)) C dL_told_412 (by decide) ?_
    refine j_ialdN C (by first | assumption | rfl) rfl rfl (by omega) dL_told_413 ?_
    refine j_tope (y := nI ns) (by exact hT.2.2.2.2.1) ?_
    refine j_icmp_ge (tgt := 516) C dL_told_414 (by decide) (fun h414 => absurd h414 (nI_ge (by omega) (by omega))) (fun h414 => ?_)
    refine j_iconst (v := (nI 0)) C dL_told_417 (by decide) ?_
    refine j_ist13 C dL_told_418 (Nat.le_of_ble_eq_true rfl) rfl ?_
    refine lp_L_toldB (q := i) C hT hil ?_ 4 0 (by omega)
    refine j_aload_n C dL_told_454 rfl rfl ?_
    refine j_iload C dL_told_455 rfl ?_
    refine j_iconst (v := (nI 4)) C dL_told_457 (by decide) ?_
    refine j_callV2r C (oa_X6 (by first | assumption | rfl)) rfl rfl (c_X6_sublease (w := 4) hI hil (by omega)) qm_L_33 qi_X6_sublease qs_X6_sublease qn_X6 qc_X6_sublease fit_X6_sublease ⟨Nat.le_of_ble_eq_true rfl, Nat.le_of_ble_eq_true rfl, Nat.le_of_ble_eq_true rfl, Nat.le_of_ble_eq_true rfl⟩ (Nat.le_of_ble_eq_true rfl) dL_told_458 ?_
    refine j_aload C dL_told_461 rfl ?_
    refine j_iload C dL_told_463 rfl ?_
    refine j_ialdN C (by first | assumption | rfl) rfl rfl (by omega) dL_told_465 ?_
    refine j_tope (y := V (19 + i) 4) (by exact hT.2.1.rt hil) ?_
    refine j_icmp_ne (tgt := 487) C dL_told_466 (by decide) (fun h466 => (by exact absurd rfl h466)) (fun h466 => ?_)
    refine j_aload_n C dL_told_469 rfl rfl ?_
    refine j_iload C dL_told_470 rfl ?_
    refine j_iconst (v := (nI 5)) C dL_told_472 (by decide) ?_
    refine j_callV2r C (oa_X6 (by first | assumption | rfl)) rfl rfl (c_X6_sublease (w := 5) hI hil (by omega)) qm_L_33 qi_X6_sublease qs_X6_sublease qn_X6 qc_X6_sublease fit_X6_sublease ⟨Nat.le_of_ble_eq_true rfl, Nat.le_of_ble_eq_true rfl, Nat.le_of_ble_eq_true rfl, Nat.le_of_ble_eq_true rfl⟩ (Nat.le_of_ble_eq_true rfl) dL_told_473 ?_
    refine j_aload C dL_told_476 rfl ?_
    refine j_bipush (v := (nI 12)) C dL_told_478 (by decide) ?_
    refine j_iload C dL_told_480 rfl ?_
    refine j_iaddN C dL_told_482 ?_
    refine j_ialdN C (by first | assumption | rfl) rfl rfl (by omega) dL_told_483 ?_
    refine j_tope (y := V (19 + i) 5) (by exact hT.2.1.rc hil) ?_
    refine j_icmp_eq (tgt := 489) C dL_told_484 (by decide) (fun h484 => ?_) (fun h484 => (by exact absurd rfl h484))
    refine j_iload C dL_told_489 rfl ?_
    refine j_aload_n C dL_told_491 rfl rfl ?_
    refine j_iconst (v := (nI 4)) C dL_told_492 (by decide) ?_
    refine j_iload C dL_told_493 rfl ?_
    refine j_imulN C dL_told_495 ?_
    refine j_iconst (v := (nI 3)) C dL_told_496 (by decide) ?_
    refine j_iaddN C dL_told_497 ?_
    refine j_ialdN C (by first | assumption | rfl) rfl rfl (by omega) dL_told_498 ?_
    refine j_tope (y := V (19 + i) 3) (by exact hT.2.1.s hil (by omega)) ?_
    refine j_if_le (tgt := 506) C dL_told_499 (by decide) (fun h499 => ?_) (fun h499 => ?_)
    · refine j_iconst (v := (nI 0)) C dL_told_506 (by decide) ?_
      refine j_iadd C dL_told_507 ?_
      refine j_ist11 C dL_told_508 (Nat.le_of_ble_eq_true rfl) rfl ?_
      refine j_incN12 (q := 1) C dL_told_510 (by decide) (Nat.le_of_ble_eq_true rfl) rfl ?_
      refine j_goto (tgt := 409) C dL_told_513 (by decide) ?_
      refine j_mem (V' := V) (L' := L) (by rfl) rfl ?_
      exact j_dr (lv' := [some (.ref (ad g 223)), some (.ref (ad g 224)), some (.ref (ad g 225)), some (.ref (ad g 226)), some (.ref (ad g 227)), some (.int r0), some (.int r1), some (.int r2), some (.int r3), some (.int r4), some (.int r5), some (.int (cRS V (i + 1))), some (.int (nI (i + 1))), none]) (And.intro rfl (And.intro rfl (And.intro rfl (And.intro rfl (And.intro rfl (And.intro rfl (And.intro rfl (And.intro rfl (And.intro rfl (And.intro rfl (And.intro rfl (And.intro (by first | exact cgI (sF_t2 (decide_eq_true (Int32.not_le.mp h499)) rfl) | exact cgI (Eq.trans i_add0 (sF_f (mt of_decide_eq_true (Int32.not_lt.mpr h499))))) (And.intro rfl True.intro))))))))))))) (ih (i + 1) (by omega))
    · refine j_iconst (v := (nI 1)) C dL_told_502 (by decide) ?_
      refine j_goto (tgt := 507) C dL_told_503 (by decide) ?_
      refine j_iadd C dL_told_507 ?_
      refine j_ist11 C dL_told_508 (Nat.le_of_ble_eq_true rfl) rfl ?_
      refine j_incN12 (q := 1) C dL_told_510 (by decide) (Nat.le_of_ble_eq_true rfl) rfl ?_
      refine j_goto (tgt := 409) C dL_told_513 (by decide) ?_
      refine j_mem (V' := V) (L' := L) (by rfl) rfl ?_
      exact j_dr (lv' := [some (.ref (ad g 223)), some (.ref (ad g 224)), some (.ref (ad g 225)), some (.ref (ad g 226)), some (.ref (ad g 227)), some (.int r0), some (.int r1), some (.int r2), some (.int r3), some (.int r4), some (.int r5), some (.int (cRS V (i + 1))), some (.int (nI (i + 1))), none]) (And.intro rfl (And.intro rfl (And.intro rfl (And.intro rfl (And.intro rfl (And.intro rfl (And.intro rfl (And.intro rfl (And.intro rfl (And.intro rfl (And.intro rfl (And.intro (by first | exact cgI (sF_t2 (decide_eq_true (Int32.not_le.mp h499)) rfl) | exact cgI (Eq.trans i_add0 (sF_f (mt of_decide_eq_true (Int32.not_lt.mpr h499))))) (And.intro rfl True.intro))))))))))))) (ih (i + 1) (by omega))
set_option maxHeartbeats 4000000 in
theorem c_L_told {l : Launch} {g : GC} {V : Mem} {L : LMem} {nl ns : Nat} (hT : TI nl ns V) : MC l yL_told cL_told 14 (some .boolean) 6 g V L [.ref (ad g 223), .ref (ad g 224), .ref (ad g 225), .ref (ad g 226), .ref (ad g 227)] (some (.int (nI 1))) V L := by
  refine MC.of [some (.ref (ad g 223)), some (.ref (ad g 224)), some (.ref (ad g 225)), some (.ref (ad g 226)), some (.ref (ad g 227)), none, none, none, none, none, none, none, none, none] (by decide +kernel) rfl (Nat.le_of_ble_eq_true rfl) (fun p e s m args below meth c C => ?_)
  have hI := hT.1.1
  have h8 := hI.1.2
  have h12 := hI.2.1.2
  refine j_aload_n C dL_told_0 rfl rfl ?_
  refine j_iconst (v := (nI 0)) C dL_told_1 (by decide) ?_
  refine j_callV1r C (oa_X6 (by first | assumption | rfl)) rfl rfl (c_X6_count (w := 0) hI (by omega)) qm_L_14 qi_X6_count qs_X6_count qn_X6 qc_X6_count fit_X6_count ⟨Nat.le_of_ble_eq_true rfl, Nat.le_of_ble_eq_true rfl, Nat.le_of_ble_eq_true rfl, Nat.le_of_ble_eq_true rfl⟩ (Nat.le_of_ble_eq_true rfl) dL_told_2 ?_
  refine j_tope (y := nI nl) (by exact hI.1.1) ?_
  refine j_aload_n C dL_told_5 rfl rfl ?_
  refine j_iconst (v := (nI 0)) C dL_told_6 (by decide) ?_
  refine j_ialdN C (by first | assumption | rfl) rfl rfl (by omega) dL_told_7 ?_
  refine j_tope (y := nI nl) (by exact hT.2.2.2.1) ?_
  refine j_icmp_ne (tgt := 33) C dL_told_8 (by decide) (fun h8 => (by exact absurd rfl h8)) (fun h8 => ?_)
  refine j_aload_n C dL_told_11 rfl rfl ?_
  refine j_iconst (v := (nI 1)) C dL_told_12 (by decide) ?_
  refine j_callV1r C (oa_X6 (by first | assumption | rfl)) rfl rfl (c_X6_count (w := 1) hI (by omega)) qm_L_14 qi_X6_count qs_X6_count qn_X6 qc_X6_count fit_X6_count ⟨Nat.le_of_ble_eq_true rfl, Nat.le_of_ble_eq_true rfl, Nat.le_of_ble_eq_true rfl, Nat.le_of_ble_eq_true rfl⟩ (Nat.le_of_ble_eq_true rfl) dL_told_13 ?_
  refine j_tope (y := nI ns) (by exact hI.2.1.1) ?_
  refine j_aload_n C dL_told_16 rfl rfl ?_
  refine j_iconst (v := (nI 1)) C dL_told_17 (by decide) ?_
  refine j_ialdN C (by first | assumption | rfl) rfl rfl (by omega) dL_told_18 ?_
  refine j_tope (y := nI ns) (by exact hT.2.2.2.2.1) ?_
  refine j_icmp_ne (tgt := 33) C dL_told_19 (by decide) (fun h19 => (by exact absurd rfl h19)) (fun h19 => ?_)
  refine j_aload_n C dL_told_22 rfl rfl ?_
  refine j_iconst (v := (nI 2)) C dL_told_23 (by decide) ?_
  refine j_callV1r C (oa_X6 (by first | assumption | rfl)) rfl rfl (c_X6_count (w := 2) hI (by omega)) qm_L_14 qi_X6_count qs_X6_count qn_X6 qc_X6_count fit_X6_count ⟨Nat.le_of_ble_eq_true rfl, Nat.le_of_ble_eq_true rfl, Nat.le_of_ble_eq_true rfl, Nat.le_of_ble_eq_true rfl⟩ (Nat.le_of_ble_eq_true rfl) dL_told_24 ?_
  refine j_tope (y := V 0 4) (by rfl) ?_
  refine j_aload_n C dL_told_27 rfl rfl ?_
  refine j_iconst (v := (nI 2)) C dL_told_28 (by decide) ?_
  refine j_ialdN C (by first | assumption | rfl) rfl rfl (by omega) dL_told_29 ?_
  refine j_tope (y := V 0 4) (by exact hT.2.2.2.2.2) ?_
  refine j_icmp_eq (tgt := 35) C dL_told_30 (by decide) (fun h30 => ?_) (fun h30 => (by exact absurd rfl h30))
  refine j_iconst (v := (nI 0)) C dL_told_35 (by decide) ?_
  refine j_ist5 C dL_told_36 (Nat.le_of_ble_eq_true rfl) rfl ?_
  refine j_iconst (v := (nI 0)) C dL_told_38 (by decide) ?_
  refine j_ist6 C dL_told_39 (Nat.le_of_ble_eq_true rfl) rfl ?_
  refine j_iconst (v := (nI 0)) C dL_told_41 (by decide) ?_
  refine j_ist7 C dL_told_42 (Nat.le_of_ble_eq_true rfl) rfl ?_
  refine j_iconst (v := (nI 0)) C dL_told_44 (by decide) ?_
  refine j_ist8 C dL_told_45 (Nat.le_of_ble_eq_true rfl) rfl ?_
  refine j_iconst (v := (nI 0)) C dL_told_47 (by decide) ?_
  refine j_ist9 C dL_told_48 (Nat.le_of_ble_eq_true rfl) rfl ?_
  refine j_iconst (v := (-1)) C dL_told_50 (by decide) ?_
  refine j_ist10 C dL_told_51 (Nat.le_of_ble_eq_true rfl) rfl ?_
  refine j_iconst (v := (nI 0)) C dL_told_53 (by decide) ?_
  refine j_ist11 C dL_told_54 (Nat.le_of_ble_eq_true rfl) rfl ?_
  refine lp_L_toldL C hT ?_ nl 0 (by omega)
  refine j_iconst (v := (nI 0)) C dL_told_403 (by decide) ?_
  refine j_ist11 C dL_told_404 (Nat.le_of_ble_eq_true rfl) rfl ?_
  refine j_iconst (v := (nI 0)) C dL_told_406 (by decide) ?_
  refine j_ist12 C dL_told_407 (Nat.le_of_ble_eq_true rfl) rfl ?_
  refine lp_L_toldS C hT ?_ ns 0 (by omega)
  refine j_aload_n C dL_told_516 rfl rfl ?_
  refine j_iconst (v := (nI 3)) C dL_told_517 (by decide) ?_
  refine j_callV1r C (oa_X6 (by first | assumption | rfl)) rfl rfl (c_X6_count (w := 3) hI (by omega)) qm_L_14 qi_X6_count qs_X6_count qn_X6 qc_X6_count fit_X6_count ⟨Nat.le_of_ble_eq_true rfl, Nat.le_of_ble_eq_true rfl, Nat.le_of_ble_eq_true rfl, Nat.le_of_ble_eq_true rfl⟩ (Nat.le_of_ble_eq_true rfl) dL_told_518 ?_
  refine j_iload C dL_told_521 rfl ?_
  refine j_icmp_ne (tgt := 590) C dL_told_523 (by decide) (fun h523 => (by exact absurd rfl h523)) (fun h523 => ?_)
  refine j_aload_n C dL_told_526 rfl rfl ?_
  refine j_iconst (v := (nI 4)) C dL_told_527 (by decide) ?_
  refine j_callV1r C (oa_X6 (by first | assumption | rfl)) rfl rfl (c_X6_count (w := 4) hI (by omega)) qm_L_14 qi_X6_count qs_X6_count qn_X6 qc_X6_count fit_X6_count ⟨Nat.le_of_ble_eq_true rfl, Nat.le_of_ble_eq_true rfl, Nat.le_of_ble_eq_true rfl, Nat.le_of_ble_eq_true rfl⟩ (Nat.le_of_ble_eq_true rfl) dL_told_528 ?_
  refine j_tope (y := cRS V ns) (by exact cRS_eq hI) ?_
  refine j_iload C dL_told_531 rfl ?_
  refine j_icmp_ne (tgt := 590) C dL_told_533 (by decide) (fun h533 => (by exact absurd rfl h533)) (fun h533 => ?_)
  refine j_aload_n C dL_told_536 rfl rfl ?_
  refine j_iconst (v := (nI 5)) C dL_told_537 (by decide) ?_
  refine j_callV1r C (oa_X6 (by first | assumption | rfl)) rfl rfl (c_X6_count (w := 5) hI (by omega)) qm_L_14 qi_X6_count qs_X6_count qn_X6 qc_X6_count fit_X6_count ⟨Nat.le_of_ble_eq_true rfl, Nat.le_of_ble_eq_true rfl, Nat.le_of_ble_eq_true rfl, Nat.le_of_ble_eq_true rfl⟩ (Nat.le_of_ble_eq_true rfl) dL_told_538 ?_
  refine j_iload C dL_told_541 rfl ?_
  refine j_icmp_ne (tgt := 590) C dL_told_543 (by decide) (fun h543 => (by exact absurd rfl h543)) (fun h543 => ?_)
  refine j_aload_n C dL_told_546 rfl rfl ?_
  refine j_bipush (v := (nI 6)) C dL_told_547 (by decide) ?_
  refine j_callV1r C (oa_X6 (by first | assumption | rfl)) rfl rfl (c_X6_count (w := 6) hI (by omega)) qm_L_14 qi_X6_count qs_X6_count qn_X6 qc_X6_count fit_X6_count ⟨Nat.le_of_ble_eq_true rfl, Nat.le_of_ble_eq_true rfl, Nat.le_of_ble_eq_true rfl, Nat.le_of_ble_eq_true rfl⟩ (Nat.le_of_ble_eq_true rfl) dL_told_549 ?_
  refine j_iload C dL_told_552 rfl ?_
  refine j_icmp_ne (tgt := 590) C dL_told_554 (by decide) (fun h554 => (by exact absurd rfl h554)) (fun h554 => ?_)
  refine j_aload_n C dL_told_557 rfl rfl ?_
  refine j_bipush (v := (nI 7)) C dL_told_558 (by decide) ?_
  refine j_callV1r C (oa_X6 (by first | assumption | rfl)) rfl rfl (c_X6_count (w := 7) hI (by omega)) qm_L_14 qi_X6_count qs_X6_count qn_X6 qc_X6_count fit_X6_count ⟨Nat.le_of_ble_eq_true rfl, Nat.le_of_ble_eq_true rfl, Nat.le_of_ble_eq_true rfl, Nat.le_of_ble_eq_true rfl⟩ (Nat.le_of_ble_eq_true rfl) dL_told_560 ?_
  refine j_iload C dL_told_563 rfl ?_
  refine j_icmp_ne (tgt := 590) C dL_told_565 (by decide) (fun h565 => (by exact absurd rfl h565)) (fun h565 => ?_)
  refine j_aload_n C dL_told_568 rfl rfl ?_
  refine j_bipush (v := (nI 8)) C dL_told_569 (by decide) ?_
  refine j_callV1r C (oa_X6 (by first | assumption | rfl)) rfl rfl (c_X6_count (w := 8) hI (by omega)) qm_L_14 qi_X6_count qs_X6_count qn_X6 qc_X6_count fit_X6_count ⟨Nat.le_of_ble_eq_true rfl, Nat.le_of_ble_eq_true rfl, Nat.le_of_ble_eq_true rfl, Nat.le_of_ble_eq_true rfl⟩ (Nat.le_of_ble_eq_true rfl) dL_told_571 ?_
  refine j_iload C dL_told_574 rfl ?_
  refine j_icmp_ne (tgt := 590) C dL_told_576 (by decide) (fun h576 => (by exact absurd rfl h576)) (fun h576 => ?_)
  refine j_aload_n C dL_told_579 rfl rfl ?_
  refine j_bipush (v := (nI 9)) C dL_told_580 (by decide) ?_
  refine j_callV1r C (oa_X6 (by first | assumption | rfl)) rfl rfl (c_X6_count (w := 9) hI (by omega)) qm_L_14 qi_X6_count qs_X6_count qn_X6 qc_X6_count fit_X6_count ⟨Nat.le_of_ble_eq_true rfl, Nat.le_of_ble_eq_true rfl, Nat.le_of_ble_eq_true rfl, Nat.le_of_ble_eq_true rfl⟩ (Nat.le_of_ble_eq_true rfl) dL_told_582 ?_
  refine j_iload C dL_told_585 rfl ?_
  refine j_icmp_eq (tgt := 592) C dL_told_587 (by decide) (fun h587 => ?_) (fun h587 => (by exact absurd rfl h587))
  refine j_aload_n C dL_told_592 rfl rfl ?_
  refine j_callV0r C (oa_X6 (by first | assumption | rfl)) rfl rfl (c_X6_offShare hI) qm_L_36 qi_X6_offShare qs_X6_offShare qn_X6 qc_X6_offShare fit_X6_offShare ⟨Nat.le_of_ble_eq_true rfl, Nat.le_of_ble_eq_true rfl, Nat.le_of_ble_eq_true rfl, Nat.le_of_ble_eq_true rfl⟩ (Nat.le_of_ble_eq_true rfl) dL_told_593 ?_
  refine j_iload C dL_told_596 rfl ?_
  refine j_if_ne (tgt := 605) C dL_told_598 (by decide) (fun h598 => ?_) (fun h598 => ?_)
  · refine j_iload C dL_told_605 rfl ?_
    refine j_i2d C dL_told_607 ?_
    refine j_dconst1 C dL_told_608 ?_
    refine j_dmul C dL_told_609 i2d_one i2d_n64 ?_
    refine j_iload C dL_told_610 rfl ?_
    refine j_i2d C dL_told_612 ?_
    refine j_ddiv C dL_told_613 rfl (off_n64 h598) ?_
    refine j_dcmp C dL_told_614 ?_
    refine j_tope (y := nI 0) (by first | (rw [hT.1.off0 h598]; exact dcmp_same d0_n64) | (rw [hT.1.off1 h598]; exact dcmp_same (off_n64 h598))) ?_
    refine j_if_ne (tgt := 622) C dL_told_615 (by decide) (fun h615 => (by exact absurd rfl h615)) (fun h615 => ?_)
    refine j_iconst (v := (nI 1)) C dL_told_618 (by decide) ?_
    refine j_goto (tgt := 623) C dL_told_619 (by decide) ?_
    exact j_zret C dL_told_623 (by first | rfl | exact nar_b2i) (by rfl) (by rfl) (by rfl)
  · refine j_dconst0 C dL_told_601 ?_
    refine j_goto (tgt := 614) C dL_told_602 (by decide) ?_
    refine j_dcmp C dL_told_614 ?_
    refine j_tope (y := nI 0) (by first | (rw [hT.1.off0 h598]; exact dcmp_same d0_n64) | (rw [hT.1.off1 h598]; exact dcmp_same (off_n64 h598))) ?_
    refine j_if_ne (tgt := 622) C dL_told_615 (by decide) (fun h615 => (by exact absurd rfl h615)) (fun h615 => ?_)
    refine j_iconst (v := (nI 1)) C dL_told_618 (by decide) ?_
    refine j_goto (tgt := 623) C dL_told_619 (by decide) ?_
    exact j_zret C dL_told_623 (by first | rfl | exact nar_b2i) (by rfl) (by rfl) (by rfl)
