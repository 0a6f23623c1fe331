/-! THE CLASS: count, plan, ifMeasured, firstError (laid by wip/whole/p29.py) -/
def cCount (V : Mem) (nl ns w : Nat) : Int32 := if w < 3 then V 0 (w + 2) else if w = 3 then cRunL V nl else if w = 4 then cSumL V nl ns 8 else if w = 5 then cSumL V nl ns 3 else if w = 6 then cSumL V nl ns 4 else if w = 7 then cSumL V nl ns 5 else if w = 8 then cAllP V nl else if w = 9 then (cEF V nl).1 else V 217 2
def cPlan (V : Mem) (k ns n w : Nat) : Int32 := if w = 0 then wor (V (3 + k) 0) (V (3 + k) 1 - nI n) (V (3 + k) 2) else if w = 1 then aB (V (3 + k) 4) (V (3 + k) 1).toNatClampNeg (min n (V (3 + k) 1).toNatClampNeg) else if w = 2 then cRecB V ns k (nI n) else (if nI 1 ≤ nI n ∧ nI n ≤ V (3 + k) 1 then wor (V (3 + k) 0) (V (3 + k) 1 - nI n) (V (3 + k) 2) - wor (V (3 + k) 0) (V (3 + k) 1 - (nI n - nI 1)) (V (3 + k) 2) + V (3 + k) 0 else nI 0)
def cIfM (V : Mem) (k ns : Nat) (p n r : Int32) (w : Nat) : Int32 :=
  let lt := wor p n r
  let as' := mx (nI 0) (V (3 + k) 4 + lt - V (3 + k) 3)
  if w = 0 then lt else if w = 1 then as' else V (3 + k) 3 - lt + as' - V (3 + k) 4 - cLoss V ns k n
set_option maxHeartbeats 4000000 in
theorem c_X6_count {l : Launch} {g : GC} {V : Mem} {L : LMem} {nl ns w : Nat} (hI : CI nl ns V) (hw : w < 11) : MC l yX6_count cX6_count 2 (some .int) 5 g V L [.ref (ad g 223), .int (nI w)] (some (.int (cCount V nl ns w))) V L := by
  refine MC.of [some (.ref (ad g 223)), some (.int (nI w))] (by decide +kernel) rfl (Nat.le_of_ble_eq_true rfl) (fun p e s m args below meth c C => ?_)
  have hwr : nI 0 ≤ nI w ∧ nI w ≤ nI 10 := inN (by omega) (by omega) (by omega)
  refine j_iload_n C dX6_count_0 rfl rfl ?_
  refine j_iconst (v := (nI 0)) C dX6_count_1 (by decide) ?_
  refine j_bipush (v := (nI 10)) C dX6_count_2 (by decide) ?_
  refine j_callS3r C (c_X6_isWithin) qm_X6_108 qt_X6_isWithin qn_X6 qc_X6_isWithin fit_X6_isWithin ⟨Nat.le_of_ble_eq_true rfl, Nat.le_of_ble_eq_true rfl, Nat.le_of_ble_eq_true rfl, Nat.le_of_ble_eq_true rfl⟩ (Nat.le_of_ble_eq_true rfl) dX6_count_4 ?_
  refine j_callS1v C (c_X6_demandArguments (by first | decide | exact b2i_nz (by assumption))) qm_X6_47 qt_X6_demandArguments qn_X6 qc_X6_demandArguments fit_X6_demandArguments ⟨Nat.le_of_ble_eq_true rfl, Nat.le_of_ble_eq_true rfl, Nat.le_of_ble_eq_true rfl, Nat.le_of_ble_eq_true rfl⟩ (Nat.le_of_ble_eq_true rfl) dX6_count_7 ?_
  refine j_iload_n C dX6_count_10 rfl rfl ?_
  rcases (show w = 0 ∨ w = 1 ∨ w = 2 ∨ w = 3 ∨ w = 4 ∨ w = 5 ∨ w = 6 ∨ w = 7 ∨ w = 8 ∨ w = 9 ∨ w = 10 by omega) with rfl | rfl | rfl | rfl | rfl | rfl | rfl | rfl | rfl | rfl | rfl
  · refine j_tabIn (tgt := 64) (off := 53) C dX6_count_11 (by decide) (by decide) (by decide) (by decide) ?_
    refine j_aload_n C dX6_count_64 rfl rfl ?_
    refine jg_LeaseBook_now C (by first | assumption | exact kd_sums (by assumption) | exact kd_st1 (by assumption) | exact kd_st2 (by assumption) | exact kd_ls (by first | assumption | exact kdL (by omega) | exact kdQ (by omega) | rfl) (by assumption) | exact kd_sb (by first | assumption | exact kdL (by omega) | exact kdQ (by omega) | rfl) (by assumption) | exact kd_sv (by assumption) | exact kdL (by omega) | exact kdQ (by omega) | rfl) qf_X6_12 dX6_count_65 ?_
    refine jg_State_leaseCount C (by first | assumption | exact kd_sums (by assumption) | exact kd_st1 (by assumption) | exact kd_st2 (by assumption) | exact kd_ls (by first | assumption | exact kdL (by omega) | exact kdQ (by omega) | rfl) (by assumption) | exact kd_sb (by first | assumption | exact kdL (by omega) | exact kdQ (by omega) | rfl) (by assumption) | exact kd_sv (by assumption) | exact kdL (by omega) | exact kdQ (by omega) | rfl) qf_X6_51 dX6_count_68 ?_
    exact j_iret C dX6_count_71 (by rfl) (by rfl) (by rfl)
  · refine j_tabIn (tgt := 72) (off := 61) C dX6_count_11 (by decide) (by decide) (by decide) (by decide) ?_
    refine j_aload_n C dX6_count_72 rfl rfl ?_
    refine jg_LeaseBook_now C (by first | assumption | exact kd_sums (by assumption) | exact kd_st1 (by assumption) | exact kd_st2 (by assumption) | exact kd_ls (by first | assumption | exact kdL (by omega) | exact kdQ (by omega) | rfl) (by assumption) | exact kd_sb (by first | assumption | exact kdL (by omega) | exact kdQ (by omega) | rfl) (by assumption) | exact kd_sv (by assumption) | exact kdL (by omega) | exact kdQ (by omega) | rfl) qf_X6_12 dX6_count_73 ?_
    refine jg_State_subleaseCount C (by first | assumption | exact kd_sums (by assumption) | exact kd_st1 (by assumption) | exact kd_st2 (by assumption) | exact kd_ls (by first | assumption | exact kdL (by omega) | exact kdQ (by omega) | rfl) (by assumption) | exact kd_sb (by first | assumption | exact kdL (by omega) | exact kdQ (by omega) | rfl) (by assumption) | exact kd_sv (by assumption) | exact kdL (by omega) | exact kdQ (by omega) | rfl) qf_X6_160 dX6_count_76 ?_
    exact j_iret C dX6_count_79 (by rfl) (by rfl) (by rfl)
  · refine j_tabIn (tgt := 80) (off := 69) C dX6_count_11 (by decide) (by decide) (by decide) (by decide) ?_
    refine j_aload_n C dX6_count_80 rfl rfl ?_
    refine jg_LeaseBook_now C (by first | assumption | exact kd_sums (by assumption) | exact kd_st1 (by assumption) | exact kd_st2 (by assumption) | exact kd_ls (by first | assumption | exact kdL (by omega) | exact kdQ (by omega) | rfl) (by assumption) | exact kd_sb (by first | assumption | exact kdL (by omega) | exact kdQ (by omega) | rfl) (by assumption) | exact kd_sv (by assumption) | exact kdL (by omega) | exact kdQ (by omega) | rfl) qf_X6_12 dX6_count_81 ?_
    refine jg_State_period C (by first | assumption | exact kd_sums (by assumption) | exact kd_st1 (by assumption) | exact kd_st2 (by assumption) | exact kd_ls (by first | assumption | exact kdL (by omega) | exact kdQ (by omega) | rfl) (by assumption) | exact kd_sb (by first | assumption | exact kdL (by omega) | exact kdQ (by omega) | rfl) (by assumption) | exact kd_sv (by assumption) | exact kdL (by omega) | exact kdQ (by omega) | rfl) qf_X6_126 dX6_count_84 ?_
    exact j_iret C dX6_count_87 (by rfl) (by rfl) (by rfl)
  · refine j_tabIn (tgt := 88) (off := 77) C dX6_count_11 (by decide) (by decide) (by decide) (by decide) ?_
    refine j_aload_n C dX6_count_88 rfl rfl ?_
    refine jg_LeaseBook_now C (by first | assumption | exact kd_sums (by assumption) | exact kd_st1 (by assumption) | exact kd_st2 (by assumption) | exact kd_ls (by first | assumption | exact kdL (by omega) | exact kdQ (by omega) | rfl) (by assumption) | exact kd_sb (by first | assumption | exact kdL (by omega) | exact kdQ (by omega) | rfl) (by assumption) | exact kd_sv (by assumption) | exact kdL (by omega) | exact kdQ (by omega) | rfl) qf_X6_12 dX6_count_89 ?_
    refine j_callV0r C (oa_X4 (by first | assumption | exact kd_sums (by assumption) | exact kd_st1 (by assumption) | exact kd_st2 (by assumption) | exact kd_ls (by first | assumption | exact kdL (by omega) | exact kdQ (by omega) | rfl) (by assumption) | exact kd_sb (by first | assumption | exact kdL (by omega) | exact kdQ (by omega) | rfl) (by assumption) | exact kd_sv (by assumption) | exact kdL (by omega) | exact kdQ (by omega) | rfl)) rfl rfl (c_X4_runningLeases hI.1) qm_X6_182 qi_X4_runningLeases qs_X4_runningLeases qn_X4 qc_X4_runningLeases fit_X4_runningLeases ⟨Nat.le_of_ble_eq_true rfl, Nat.le_of_ble_eq_true rfl, Nat.le_of_ble_eq_true rfl, Nat.le_of_ble_eq_true rfl⟩ (Nat.le_of_ble_eq_true rfl) dX6_count_92 ?_
    exact j_iret C dX6_count_95 (by rfl) (by rfl) (by rfl)
  · refine j_tabIn (tgt := 96) (off := 85) C dX6_count_11 (by decide) (by decide) (by decide) (by decide) ?_
    refine j_aload_n C dX6_count_96 rfl rfl ?_
    refine jg_LeaseBook_now C (by first | assumption | exact kd_sums (by assumption) | exact kd_st1 (by assumption) | exact kd_st2 (by assumption) | exact kd_ls (by first | assumption | exact kdL (by omega) | exact kdQ (by omega) | rfl) (by assumption) | exact kd_sb (by first | assumption | exact kdL (by omega) | exact kdQ (by omega) | rfl) (by assumption) | exact kd_sv (by assumption) | exact kdL (by omega) | exact kdQ (by omega) | rfl) qf_X6_12 dX6_count_97 ?_
    refine j_bipush (v := (nI 8)) C dX6_count_100 (by decide) ?_
    refine j_callV1r C (oa_X4 (by first | assumption | exact kd_sums (by assumption) | exact kd_st1 (by assumption) | exact kd_st2 (by assumption) | exact kd_ls (by first | assumption | exact kdL (by omega) | exact kdQ (by omega) | rfl) (by assumption) | exact kd_sb (by first | assumption | exact kdL (by omega) | exact kdQ (by omega) | rfl) (by assumption) | exact kd_sv (by assumption) | exact kdL (by omega) | exact kdQ (by omega) | rfl)) rfl rfl (c_X4_sumOfLeases hI.1 hI.2.1 (by omega)) qm_X6_185 qi_X4_sumOfLeases qs_X4_sumOfLeases qn_X4 qc_X4_sumOfLeases fit_X4_sumOfLeases ⟨Nat.le_of_ble_eq_true rfl, Nat.le_of_ble_eq_true rfl, Nat.le_of_ble_eq_true rfl, Nat.le_of_ble_eq_true rfl⟩ (Nat.le_of_ble_eq_true rfl) dX6_count_102 ?_
    exact j_iret C dX6_count_105 (by rfl) (by rfl) (by rfl)
  · refine j_tabIn (tgt := 106) (off := 95) C dX6_count_11 (by decide) (by decide) (by decide) (by decide) ?_
    refine j_aload_n C dX6_count_106 rfl rfl ?_
    refine jg_LeaseBook_now C (by first | assumption | exact kd_sums (by assumption) | exact kd_st1 (by assumption) | exact kd_st2 (by assumption) | exact kd_ls (by first | assumption | exact kdL (by omega) | exact kdQ (by omega) | rfl) (by assumption) | exact kd_sb (by first | assumption | exact kdL (by omega) | exact kdQ (by omega) | rfl) (by assumption) | exact kd_sv (by assumption) | exact kdL (by omega) | exact kdQ (by omega) | rfl) qf_X6_12 dX6_count_107 ?_
    refine j_iconst (v := (nI 3)) C dX6_count_110 (by decide) ?_
    refine j_callV1r C (oa_X4 (by first | assumption | exact kd_sums (by assumption) | exact kd_st1 (by assumption) | exact kd_st2 (by assumption) | exact kd_ls (by first | assumption | exact kdL (by omega) | exact kdQ (by omega) | rfl) (by assumption) | exact kd_sb (by first | assumption | exact kdL (by omega) | exact kdQ (by omega) | rfl) (by assumption) | exact kd_sv (by assumption) | exact kdL (by omega) | exact kdQ (by omega) | rfl)) rfl rfl (c_X4_sumOfLeases hI.1 hI.2.1 (by omega)) qm_X6_185 qi_X4_sumOfLeases qs_X4_sumOfLeases qn_X4 qc_X4_sumOfLeases fit_X4_sumOfLeases ⟨Nat.le_of_ble_eq_true rfl, Nat.le_of_ble_eq_true rfl, Nat.le_of_ble_eq_true rfl, Nat.le_of_ble_eq_true rfl⟩ (Nat.le_of_ble_eq_true rfl) dX6_count_111 ?_
    exact j_iret C dX6_count_114 (by rfl) (by rfl) (by rfl)
  · refine j_tabIn (tgt := 115) (off := 104) C dX6_count_11 (by decide) (by decide) (by decide) (by decide) ?_
    refine j_aload_n C dX6_count_115 rfl rfl ?_
    refine jg_LeaseBook_now C (by first | assumption | exact kd_sums (by assumption) | exact kd_st1 (by assumption) | exact kd_st2 (by assumption) | exact kd_ls (by first | assumption | exact kdL (by omega) | exact kdQ (by omega) | rfl) (by assumption) | exact kd_sb (by first | assumption | exact kdL (by omega) | exact kdQ (by omega) | rfl) (by assumption) | exact kd_sv (by assumption) | exact kdL (by omega) | exact kdQ (by omega) | rfl) qf_X6_12 dX6_count_116 ?_
    refine j_iconst (v := (nI 4)) C dX6_count_119 (by decide) ?_
    refine j_callV1r C (oa_X4 (by first | assumption | exact kd_sums (by assumption) | exact kd_st1 (by assumption) | exact kd_st2 (by assumption) | exact kd_ls (by first | assumption | exact kdL (by omega) | exact kdQ (by omega) | rfl) (by assumption) | exact kd_sb (by first | assumption | exact kdL (by omega) | exact kdQ (by omega) | rfl) (by assumption) | exact kd_sv (by assumption) | exact kdL (by omega) | exact kdQ (by omega) | rfl)) rfl rfl (c_X4_sumOfLeases hI.1 hI.2.1 (by omega)) qm_X6_185 qi_X4_sumOfLeases qs_X4_sumOfLeases qn_X4 qc_X4_sumOfLeases fit_X4_sumOfLeases ⟨Nat.le_of_ble_eq_true rfl, Nat.le_of_ble_eq_true rfl, Nat.le_of_ble_eq_true rfl, Nat.le_of_ble_eq_true rfl⟩ (Nat.le_of_ble_eq_true rfl) dX6_count_120 ?_
    exact j_iret C dX6_count_123 (by rfl) (by rfl) (by rfl)
  · refine j_tabIn (tgt := 124) (off := 113) C dX6_count_11 (by decide) (by decide) (by decide) (by decide) ?_
    refine j_aload_n C dX6_count_124 rfl rfl ?_
    refine jg_LeaseBook_now C (by first | assumption | exact kd_sums (by assumption) | exact kd_st1 (by assumption) | exact kd_st2 (by assumption) | exact kd_ls (by first | assumption | exact kdL (by omega) | exact kdQ (by omega) | rfl) (by assumption) | exact kd_sb (by first | assumption | exact kdL (by omega) | exact kdQ (by omega) | rfl) (by assumption) | exact kd_sv (by assumption) | exact kdL (by omega) | exact kdQ (by omega) | rfl) qf_X6_12 dX6_count_125 ?_
    refine j_iconst (v := (nI 5)) C dX6_count_128 (by decide) ?_
    refine j_callV1r C (oa_X4 (by first | assumption | exact kd_sums (by assumption) | exact kd_st1 (by assumption) | exact kd_st2 (by assumption) | exact kd_ls (by first | assumption | exact kdL (by omega) | exact kdQ (by omega) | rfl) (by assumption) | exact kd_sb (by first | assumption | exact kdL (by omega) | exact kdQ (by omega) | rfl) (by assumption) | exact kd_sv (by assumption) | exact kdL (by omega) | exact kdQ (by omega) | rfl)) rfl rfl (c_X4_sumOfLeases hI.1 hI.2.1 (by omega)) qm_X6_185 qi_X4_sumOfLeases qs_X4_sumOfLeases qn_X4 qc_X4_sumOfLeases fit_X4_sumOfLeases ⟨Nat.le_of_ble_eq_true rfl, Nat.le_of_ble_eq_true rfl, Nat.le_of_ble_eq_true rfl, Nat.le_of_ble_eq_true rfl⟩ (Nat.le_of_ble_eq_true rfl) dX6_count_129 ?_
    exact j_iret C dX6_count_132 (by rfl) (by rfl) (by rfl)
  · refine j_tabIn (tgt := 133) (off := 122) C dX6_count_11 (by decide) (by decide) (by decide) (by decide) ?_
    refine j_aload_n C dX6_count_133 rfl rfl ?_
    refine jg_LeaseBook_now C (by first | assumption | exact kd_sums (by assumption) | exact kd_st1 (by assumption) | exact kd_st2 (by assumption) | exact kd_ls (by first | assumption | exact kdL (by omega) | exact kdQ (by omega) | rfl) (by assumption) | exact kd_sb (by first | assumption | exact kdL (by omega) | exact kdQ (by omega) | rfl) (by assumption) | exact kd_sv (by assumption) | exact kdL (by omega) | exact kdQ (by omega) | rfl) qf_X6_12 dX6_count_134 ?_
    refine j_callV0r C (oa_X4 (by first | assumption | exact kd_sums (by assumption) | exact kd_st1 (by assumption) | exact kd_st2 (by assumption) | exact kd_ls (by first | assumption | exact kdL (by omega) | exact kdQ (by omega) | rfl) (by assumption) | exact kd_sb (by first | assumption | exact kdL (by omega) | exact kdQ (by omega) | rfl) (by assumption) | exact kd_sv (by assumption) | exact kdL (by omega) | exact kdQ (by omega) | rfl)) rfl rfl (c_X4_allProfits hI.1) qm_X6_188 qi_X4_allProfits qs_X4_allProfits qn_X4 qc_X4_allProfits fit_X4_allProfits ⟨Nat.le_of_ble_eq_true rfl, Nat.le_of_ble_eq_true rfl, Nat.le_of_ble_eq_true rfl, Nat.le_of_ble_eq_true rfl⟩ (Nat.le_of_ble_eq_true rfl) dX6_count_137 ?_
    exact j_iret C dX6_count_140 (by rfl) (by rfl) (by rfl)
  · refine j_tabIn (tgt := 141) (off := 130) C dX6_count_11 (by decide) (by decide) (by decide) (by decide) ?_
    refine j_aload_n C dX6_count_141 rfl rfl ?_
    refine jg_LeaseBook_now C (by first | assumption | exact kd_sums (by assumption) | exact kd_st1 (by assumption) | exact kd_st2 (by assumption) | exact kd_ls (by first | assumption | exact kdL (by omega) | exact kdQ (by omega) | rfl) (by assumption) | exact kd_sb (by first | assumption | exact kdL (by omega) | exact kdQ (by omega) | rfl) (by assumption) | exact kd_sv (by assumption) | exact kdL (by omega) | exact kdQ (by omega) | rfl) qf_X6_12 dX6_count_142 ?_
    refine j_callV0r C (oa_X4 (by first | assumption | exact kd_sums (by assumption) | exact kd_st1 (by assumption) | exact kd_st2 (by assumption) | exact kd_ls (by first | assumption | exact kdL (by omega) | exact kdQ (by omega) | rfl) (by assumption) | exact kd_sb (by first | assumption | exact kdL (by omega) | exact kdQ (by omega) | rfl) (by assumption) | exact kd_sv (by assumption) | exact kdL (by omega) | exact kdQ (by omega) | rfl)) rfl rfl (c_X4_endingFirst hI.1) qm_X6_191 qi_X4_endingFirst qs_X4_endingFirst qn_X4 qc_X4_endingFirst fit_X4_endingFirst ⟨Nat.le_of_ble_eq_true rfl, Nat.le_of_ble_eq_true rfl, Nat.le_of_ble_eq_true rfl, Nat.le_of_ble_eq_true rfl⟩ (Nat.le_of_ble_eq_true rfl) dX6_count_145 ?_
    exact j_iret C dX6_count_148 (by rfl) (by rfl) (by rfl)
  · refine j_tabOut (tgt := 149) C dX6_count_11 (by decide) (by decide) ?_
    refine j_aload_n C dX6_count_149 rfl rfl ?_
    refine jg_LeaseBook_history C (by first | assumption | exact kd_sums (by assumption) | exact kd_st1 (by assumption) | exact kd_st2 (by assumption) | exact kd_ls (by first | assumption | exact kdL (by omega) | exact kdQ (by omega) | rfl) (by assumption) | exact kd_sb (by first | assumption | exact kdL (by omega) | exact kdQ (by omega) | rfl) (by assumption) | exact kd_sv (by assumption) | exact kdL (by omega) | exact kdQ (by omega) | rfl) qf_X6_19 dX6_count_150 ?_
    refine jg_History_size C (by first | assumption | exact kd_sums (by assumption) | exact kd_st1 (by assumption) | exact kd_st2 (by assumption) | exact kd_ls (by first | assumption | exact kdL (by omega) | exact kdQ (by omega) | rfl) (by assumption) | exact kd_sb (by first | assumption | exact kdL (by omega) | exact kdQ (by omega) | rfl) (by assumption) | exact kd_sv (by assumption) | exact kdL (by omega) | exact kdQ (by omega) | rfl) qf_X6_151 dX6_count_153 ?_
    exact j_iret C dX6_count_156 (by rfl) (by rfl) (by rfl)
set_option maxHeartbeats 4000000 in
theorem c_X6_plan {l : Launch} {g : GC} {V : Mem} {L : LMem} {k n w nl ns : Nat} (hI : CI nl ns V) (hk : k < nl) (hn : n ≤ 60) (hw : w < 4) : MC l yX6_plan cX6_plan 5 (some .int) 5 g V L [.ref (ad g 223), .int (nI k), .int (nI n), .int (nI w)] (some (.int (cPlan V k ns n w))) V L := by
  refine MC.of [some (.ref (ad g 223)), some (.int (nI k)), some (.int (nI n)), some (.int (nI w)), none] (by decide +kernel) rfl (Nat.le_of_ble_eq_true rfl) (fun p e s m args below meth c C => ?_)
  have hk8 : k < 8 := Nat.lt_of_lt_of_le hk hI.1.2
  have hkk := kdL hk8
  have hwr : nI 0 ≤ nI w ∧ nI w ≤ nI 3 := inN (by omega) (by omega) (by omega)
  have hnr : nI 0 ≤ nI n ∧ nI n ≤ nI 60 := inN (by omega) hn (by omega)
  have hcl := nI_cl (hI.2.2.1 k hk) (by omega)
  refine j_aload_n C dX6_plan_0 rfl rfl ?_
  refine j_iload_n C dX6_plan_1 rfl rfl ?_
  refine j_callV1r C (oa_X6 (by first | assumption | exact kd_sums (by assumption) | exact kd_st1 (by assumption) | exact kd_st2 (by assumption) | exact kd_ls (by first | assumption | exact kdL (by omega) | exact kdQ (by omega) | rfl) (by assumption) | exact kd_sb (by first | assumption | exact kdL (by omega) | exact kdQ (by omega) | rfl) (by assumption) | exact kd_sv (by assumption) | exact kdL (by omega) | exact kdQ (by omega) | rfl)) rfl rfl (c_X6_demandLease hI.1 hk) qm_X6_66 qi_X6_demandLease qs_X6_demandLease qn_X6 qc_X6_demandLease fit_X6_demandLease ⟨Nat.le_of_ble_eq_true rfl, Nat.le_of_ble_eq_true rfl, Nat.le_of_ble_eq_true rfl, Nat.le_of_ble_eq_true rfl⟩ (Nat.le_of_ble_eq_true rfl) dX6_plan_2 ?_
  refine j_ast4 C dX6_plan_5 (Nat.le_of_ble_eq_true rfl) rfl ?_
  refine j_iload_n C dX6_plan_7 rfl rfl ?_
  refine j_iconst (v := (nI 0)) C dX6_plan_8 (by decide) ?_
  refine j_bipush (v := (nI 60)) C dX6_plan_9 (by decide) ?_
  refine j_callS3r C (c_X6_isWithin) qm_X6_108 qt_X6_isWithin qn_X6 qc_X6_isWithin fit_X6_isWithin ⟨Nat.le_of_ble_eq_true rfl, Nat.le_of_ble_eq_true rfl, Nat.le_of_ble_eq_true rfl, Nat.le_of_ble_eq_true rfl⟩ (Nat.le_of_ble_eq_true rfl) dX6_plan_11 ?_
  refine j_if_eq (tgt := 30) C dX6_plan_14 (by decide) (fun h14 => ?_) (fun h14 => ?_)
  · replace h14 := b2i_0 h14
    exfalso
    first | contradiction
  · replace h14 := b2i_1 h14
    refine j_iload_n C dX6_plan_17 rfl rfl ?_
    refine j_iconst (v := (nI 0)) C dX6_plan_18 (by decide) ?_
    refine j_iconst (v := (nI 3)) C dX6_plan_19 (by decide) ?_
    refine j_callS3r C (c_X6_isWithin) qm_X6_108 qt_X6_isWithin qn_X6 qc_X6_isWithin fit_X6_isWithin ⟨Nat.le_of_ble_eq_true rfl, Nat.le_of_ble_eq_true rfl, Nat.le_of_ble_eq_true rfl, Nat.le_of_ble_eq_true rfl⟩ (Nat.le_of_ble_eq_true rfl) dX6_plan_20 ?_
    refine j_if_eq (tgt := 30) C dX6_plan_23 (by decide) (fun h23 => ?_) (fun h23 => ?_)
    · replace h23 := b2i_0 h23
      exfalso
      first | contradiction
    · replace h23 := b2i_1 h23
      refine j_iconst (v := (nI 1)) C dX6_plan_26 (by decide) ?_
      refine j_goto (tgt := 31) C dX6_plan_27 (by decide) ?_
      refine j_callS1v C (c_X6_demandArguments (by first | decide | exact b2i_nz (by assumption))) qm_X6_47 qt_X6_demandArguments qn_X6 qc_X6_demandArguments fit_X6_demandArguments ⟨Nat.le_of_ble_eq_true rfl, Nat.le_of_ble_eq_true rfl, Nat.le_of_ble_eq_true rfl, Nat.le_of_ble_eq_true rfl⟩ (Nat.le_of_ble_eq_true rfl) dX6_plan_31 ?_
      refine j_iload_n C dX6_plan_34 rfl rfl ?_
      rcases (show w = 0 ∨ w = 1 ∨ w = 2 ∨ w = 3 by omega) with rfl | rfl | rfl | rfl
      · refine j_tabIn (tgt := 60) (off := 25) C dX6_plan_35 (by decide) (by decide) (by decide) (by decide) ?_
        refine j_aload C dX6_plan_60 rfl ?_
        refine j_iload_n C dX6_plan_62 rfl rfl ?_
        refine j_callV1r C (oa_X2 (by first | assumption | exact kd_sums (by assumption) | exact kd_st1 (by assumption) | exact kd_st2 (by assumption) | exact kd_ls (by first | assumption | exact kdL (by omega) | exact kdQ (by omega) | rfl) (by assumption) | exact kd_sb (by first | assumption | exact kdL (by omega) | exact kdQ (by omega) | rfl) (by assumption) | exact kd_sv (by assumption) | exact kdL (by omega) | exact kdQ (by omega) | rfl)) rfl rfl (c_X2_liabilityBehind hkk (hI.2.2.2.1 k hk)) qm_X6_198 qi_X2_liabilityBehind qs_X2_liabilityBehind qn_X2 qc_X2_liabilityBehind fit_X2_liabilityBehind ⟨Nat.le_of_ble_eq_true rfl, Nat.le_of_ble_eq_true rfl, Nat.le_of_ble_eq_true rfl, Nat.le_of_ble_eq_true rfl⟩ (Nat.le_of_ble_eq_true rfl) dX6_plan_63 ?_
        exact j_iret C dX6_plan_66 (by rfl) (by rfl) (by rfl)
      · refine j_tabIn (tgt := 67) (off := 32) C dX6_plan_35 (by decide) (by decide) (by decide) (by decide) ?_
        refine j_aload C dX6_plan_67 rfl ?_
        refine j_iload_n C dX6_plan_69 rfl rfl ?_
        refine j_callV1r C (oa_X2 (by first | assumption | exact kd_sums (by assumption) | exact kd_st1 (by assumption) | exact kd_st2 (by assumption) | exact kd_ls (by first | assumption | exact kdL (by omega) | exact kdQ (by omega) | rfl) (by assumption) | exact kd_sb (by first | assumption | exact kdL (by omega) | exact kdQ (by omega) | rfl) (by assumption) | exact kd_sv (by assumption) | exact kdL (by omega) | exact kdQ (by omega) | rfl)) rfl rfl (c_X2_assetBehind hkk hcl.1 (by omega) (by omega)) qm_X6_201 qi_X2_assetBehind qs_X2_assetBehind qn_X2 qc_X2_assetBehind fit_X2_assetBehind ⟨Nat.le_of_ble_eq_true rfl, Nat.le_of_ble_eq_true rfl, Nat.le_of_ble_eq_true rfl, Nat.le_of_ble_eq_true rfl⟩ (Nat.le_of_ble_eq_true rfl) dX6_plan_70 ?_
        exact j_iret C dX6_plan_73 (by rfl) (by rfl) (by rfl)
      · refine j_tabIn (tgt := 74) (off := 39) C dX6_plan_35 (by decide) (by decide) (by decide) (by decide) ?_
        refine j_aload_n C dX6_plan_74 rfl rfl ?_
        refine jg_LeaseBook_now C (by first | assumption | exact kd_sums (by assumption) | exact kd_st1 (by assumption) | exact kd_st2 (by assumption) | exact kd_ls (by first | assumption | exact kdL (by omega) | exact kdQ (by omega) | rfl) (by assumption) | exact kd_sb (by first | assumption | exact kdL (by omega) | exact kdQ (by omega) | rfl) (by assumption) | exact kd_sv (by assumption) | exact kdL (by omega) | exact kdQ (by omega) | rfl) qf_X6_12 dX6_plan_75 ?_
        refine j_iload_n C dX6_plan_78 rfl rfl ?_
        refine j_iload_n C dX6_plan_79 rfl rfl ?_
        refine j_callV2r C (oa_X4 (by first | assumption | exact kd_sums (by assumption) | exact kd_st1 (by assumption) | exact kd_st2 (by assumption) | exact kd_ls (by first | assumption | exact kdL (by omega) | exact kdQ (by omega) | rfl) (by assumption) | exact kd_sb (by first | assumption | exact kdL (by omega) | exact kdQ (by omega) | rfl) (by assumption) | exact kd_sv (by assumption) | exact kdL (by omega) | exact kdQ (by omega) | rfl)) rfl rfl (c_X4_receivablesBehind hI.2.1 hI.2.2.2.2.2) qm_X6_204 qi_X4_receivablesBehind qs_X4_receivablesBehind qn_X4 qc_X4_receivablesBehind fit_X4_receivablesBehind ⟨Nat.le_of_ble_eq_true rfl, Nat.le_of_ble_eq_true rfl, Nat.le_of_ble_eq_true rfl, Nat.le_of_ble_eq_true rfl⟩ (Nat.le_of_ble_eq_true rfl) dX6_plan_80 ?_
        exact j_iret C dX6_plan_83 (by rfl) (by rfl) (by rfl)
      · refine j_tabOut (tgt := 84) C dX6_plan_35 (by decide) (by decide) ?_
        refine j_aload C dX6_plan_84 rfl ?_
        refine j_iload_n C dX6_plan_86 rfl rfl ?_
        refine j_callV1r C (oa_X2 (by first | assumption | exact kd_sums (by assumption) | exact kd_st1 (by assumption) | exact kd_st2 (by assumption) | exact kd_ls (by first | assumption | exact kdL (by omega) | exact kdQ (by omega) | rfl) (by assumption) | exact kd_sb (by first | assumption | exact kdL (by omega) | exact kdQ (by omega) | rfl) (by assumption) | exact kd_sv (by assumption) | exact kdL (by omega) | exact kdQ (by omega) | rfl)) rfl rfl (c_X2_interestOfPeriod hkk (hI.2.2.2.1 k hk)) qm_X6_207 qi_X2_interestOfPeriod qs_X2_interestOfPeriod qn_X2 qc_X2_interestOfPeriod fit_X2_interestOfPeriod ⟨Nat.le_of_ble_eq_true rfl, Nat.le_of_ble_eq_true rfl, Nat.le_of_ble_eq_true rfl, Nat.le_of_ble_eq_true rfl⟩ (Nat.le_of_ble_eq_true rfl) dX6_plan_87 ?_
        exact j_iret C dX6_plan_90 (by rfl) (by rfl) (by rfl)
set_option maxHeartbeats 4000000 in
theorem c_X6_ifMeasured {l : Launch} {g : GC} {V : Mem} {L : LMem} {k w nl ns : Nat} {p1 n r : Int32} (hI : CI nl ns V) (hk : k < nl) (h1 : money p1) (h2 : termR n) (h3 : rateR r) (hw : w < 3) : MC l yX6_ifMeasured cX6_ifMeasured 9 (some .int) 5 g V L [.ref (ad g 223), .int (nI k), .int p1, .int n, .int r, .int (nI w)] (some (.int (if 0 < V (3 + k) 1 then cIfM V k ns p1 n r w else -1))) V L := by
  refine MC.of [some (.ref (ad g 223)), some (.int (nI k)), some (.int p1), some (.int n), some (.int r), some (.int (nI w)), none, none, none] (by decide +kernel) rfl (Nat.le_of_ble_eq_true rfl) (fun p e s m args below meth c C => ?_)
  have hk8 : k < 8 := Nat.lt_of_lt_of_le hk hI.1.2
  have hkk := kdL hk8
  have hwr : nI 0 ≤ nI w ∧ nI w ≤ nI 2 := inN (by omega) (by omega) (by omega)
  refine j_aload_n C dX6_ifMeasured_0 rfl rfl ?_
  refine j_iload_n C dX6_ifMeasured_1 rfl rfl ?_
  refine j_callV1r C (oa_X6 (by first | assumption | exact kd_sums (by assumption) | exact kd_st1 (by assumption) | exact kd_st2 (by assumption) | exact kd_ls (by first | assumption | exact kdL (by omega) | exact kdQ (by omega) | rfl) (by assumption) | exact kd_sb (by first | assumption | exact kdL (by omega) | exact kdQ (by omega) | rfl) (by assumption) | exact kd_sv (by assumption) | exact kdL (by omega) | exact kdQ (by omega) | rfl)) rfl rfl (c_X6_demandLease hI.1 hk) qm_X6_66 qi_X6_demandLease qs_X6_demandLease qn_X6 qc_X6_demandLease fit_X6_demandLease ⟨Nat.le_of_ble_eq_true rfl, Nat.le_of_ble_eq_true rfl, Nat.le_of_ble_eq_true rfl, Nat.le_of_ble_eq_true rfl⟩ (Nat.le_of_ble_eq_true rfl) dX6_ifMeasured_2 ?_
  refine j_ast6 C dX6_ifMeasured_5 (Nat.le_of_ble_eq_true rfl) rfl ?_
  refine j_iload_n C dX6_ifMeasured_7 rfl rfl ?_
  refine j_callS1r C (c_X6_isMoney) qm_X6_37 qt_X6_isMoney qn_X6 qc_X6_isMoney fit_X6_isMoney ⟨Nat.le_of_ble_eq_true rfl, Nat.le_of_ble_eq_true rfl, Nat.le_of_ble_eq_true rfl, Nat.le_of_ble_eq_true rfl⟩ (Nat.le_of_ble_eq_true rfl) dX6_ifMeasured_8 ?_
  refine j_if_eq (tgt := 43) C dX6_ifMeasured_11 (by decide) (fun h11 => ?_) (fun h11 => ?_)
  · replace h11 := b2i_0 h11
    exfalso
    first | contradiction
  · replace h11 := b2i_1 h11
    refine j_iload_n C dX6_ifMeasured_14 rfl rfl ?_
    refine j_callS1r C (c_X6_isPeriods) qm_X6_41 qt_X6_isPeriods qn_X6 qc_X6_isPeriods fit_X6_isPeriods ⟨Nat.le_of_ble_eq_true rfl, Nat.le_of_ble_eq_true rfl, Nat.le_of_ble_eq_true rfl, Nat.le_of_ble_eq_true rfl⟩ (Nat.le_of_ble_eq_true rfl) dX6_ifMeasured_15 ?_
    refine j_if_eq (tgt := 43) C dX6_ifMeasured_18 (by decide) (fun h18 => ?_) (fun h18 => ?_)
    · replace h18 := b2i_0 h18
      exfalso
      first | contradiction
    · replace h18 := b2i_1 h18
      refine j_iload C dX6_ifMeasured_21 rfl ?_
      refine j_callS1r C (c_X6_isRate) qm_X6_44 qt_X6_isRate qn_X6 qc_X6_isRate fit_X6_isRate ⟨Nat.le_of_ble_eq_true rfl, Nat.le_of_ble_eq_true rfl, Nat.le_of_ble_eq_true rfl, Nat.le_of_ble_eq_true rfl⟩ (Nat.le_of_ble_eq_true rfl) dX6_ifMeasured_23 ?_
      refine j_if_eq (tgt := 43) C dX6_ifMeasured_26 (by decide) (fun h26 => ?_) (fun h26 => ?_)
      · replace h26 := b2i_0 h26
        exfalso
        first | contradiction
      · replace h26 := b2i_1 h26
        refine j_iload C dX6_ifMeasured_29 rfl ?_
        refine j_iconst (v := (nI 0)) C dX6_ifMeasured_31 (by decide) ?_
        refine j_iconst (v := (nI 2)) C dX6_ifMeasured_32 (by decide) ?_
        refine j_callS3r C (c_X6_isWithin) qm_X6_108 qt_X6_isWithin qn_X6 qc_X6_isWithin fit_X6_isWithin ⟨Nat.le_of_ble_eq_true rfl, Nat.le_of_ble_eq_true rfl, Nat.le_of_ble_eq_true rfl, Nat.le_of_ble_eq_true rfl⟩ (Nat.le_of_ble_eq_true rfl) dX6_ifMeasured_33 ?_
        refine j_if_eq (tgt := 43) C dX6_ifMeasured_36 (by decide) (fun h36 => ?_) (fun h36 => ?_)
        · replace h36 := b2i_0 h36
          exfalso
          first | contradiction
        · replace h36 := b2i_1 h36
          refine j_iconst (v := (nI 1)) C dX6_ifMeasured_39 (by decide) ?_
          refine j_goto (tgt := 44) C dX6_ifMeasured_40 (by decide) ?_
          refine j_callS1v C (c_X6_demandArguments (by first | decide | exact b2i_nz (by assumption))) qm_X6_47 qt_X6_demandArguments qn_X6 qc_X6_demandArguments fit_X6_demandArguments ⟨Nat.le_of_ble_eq_true rfl, Nat.le_of_ble_eq_true rfl, Nat.le_of_ble_eq_true rfl, Nat.le_of_ble_eq_true rfl⟩ (Nat.le_of_ble_eq_true rfl) dX6_ifMeasured_44 ?_
          refine j_aload C dX6_ifMeasured_47 rfl ?_
          refine j_callV0r C (oa_X2 (by first | assumption | exact kd_sums (by assumption) | exact kd_st1 (by assumption) | exact kd_st2 (by assumption) | exact kd_ls (by first | assumption | exact kdL (by omega) | exact kdQ (by omega) | rfl) (by assumption) | exact kd_sb (by first | assumption | exact kdL (by omega) | exact kdQ (by omega) | rfl) (by assumption) | exact kd_sv (by assumption) | exact kdL (by omega) | exact kdQ (by omega) | rfl)) rfl rfl (c_X2_runs hkk) qm_X6_70 qi_X2_runs qs_X2_runs qn_X2 qc_X2_runs fit_X2_runs ⟨Nat.le_of_ble_eq_true rfl, Nat.le_of_ble_eq_true rfl, Nat.le_of_ble_eq_true rfl, Nat.le_of_ble_eq_true rfl⟩ (Nat.le_of_ble_eq_true rfl) dX6_ifMeasured_49 ?_
          refine j_if_ne (tgt := 57) C dX6_ifMeasured_52 (by decide) (fun h52 => ?_) (fun h52 => ?_)
          · replace h52 := b2i_1 h52
            refine j_iload_n C dX6_ifMeasured_57 rfl rfl ?_
            refine j_iload_n C dX6_ifMeasured_58 rfl rfl ?_
            refine j_iload C dX6_ifMeasured_59 rfl ?_
            refine j_callS3r C (c_X6_presentWorth h3) qm_X6_194 qt_X6_presentWorth qn_X6 qc_X6_presentWorth fit_X6_presentWorth ⟨Nat.le_of_ble_eq_true rfl, Nat.le_of_ble_eq_true rfl, Nat.le_of_ble_eq_true rfl, Nat.le_of_ble_eq_true rfl⟩ (Nat.le_of_ble_eq_true rfl) dX6_ifMeasured_61 ?_
            refine j_ist7 C dX6_ifMeasured_64 (Nat.le_of_ble_eq_true rfl) rfl ?_
            refine j_aload C dX6_ifMeasured_66 rfl ?_
            refine j_iload C dX6_ifMeasured_68 rfl ?_
            refine j_callV1r C (oa_X2 (by first | assumption | exact kd_sums (by assumption) | exact kd_st1 (by assumption) | exact kd_st2 (by assumption) | exact kd_ls (by first | assumption | exact kdL (by omega) | exact kdQ (by omega) | rfl) (by assumption) | exact kd_sb (by first | assumption | exact kdL (by omega) | exact kdQ (by omega) | rfl) (by assumption) | exact kd_sv (by assumption) | exact kdL (by omega) | exact kdQ (by omega) | rfl)) rfl rfl (c_X2_assetWithLiability hkk) qm_X6_210 qi_X2_assetWithLiability qs_X2_assetWithLiability qn_X2 qc_X2_assetWithLiability fit_X2_assetWithLiability ⟨Nat.le_of_ble_eq_true rfl, Nat.le_of_ble_eq_true rfl, Nat.le_of_ble_eq_true rfl, Nat.le_of_ble_eq_true rfl⟩ (Nat.le_of_ble_eq_true rfl) dX6_ifMeasured_70 ?_
            refine j_ist8 C dX6_ifMeasured_73 (Nat.le_of_ble_eq_true rfl) rfl ?_
            refine j_iload C dX6_ifMeasured_75 rfl ?_
            rcases (show w = 0 ∨ w = 1 ∨ w = 2 by omega) with rfl | rfl | rfl
            · refine j_lookup (off := 27) (tgt := 104) C dX6_ifMeasured_77 (by decide) (by decide) (by decide) ?_
              refine j_iload C dX6_ifMeasured_104 rfl ?_
              exact j_iret C dX6_ifMeasured_106 (by first | (rw [if_pos h52]; rfl) | (rw [if_neg h52])) (by rfl) (by rfl)
            · refine j_lookup (off := 30) (tgt := 107) C dX6_ifMeasured_77 (by decide) (by decide) (by decide) ?_
              refine j_iload C dX6_ifMeasured_107 rfl ?_
              exact j_iret C dX6_ifMeasured_109 (by first | (rw [if_pos h52]; rfl) | (rw [if_neg h52])) (by rfl) (by rfl)
            · refine j_lookup (off := 33) (tgt := 110) C dX6_ifMeasured_77 (by decide) (by decide) (by decide) ?_
              refine j_aload C dX6_ifMeasured_110 rfl ?_
              refine jg_Lease_liability C (by first | assumption | exact kd_sums (by assumption) | exact kd_st1 (by assumption) | exact kd_st2 (by assumption) | exact kd_ls (by first | assumption | exact kdL (by omega) | exact kdQ (by omega) | rfl) (by assumption) | exact kd_sb (by first | assumption | exact kdL (by omega) | exact kdQ (by omega) | rfl) (by assumption) | exact kd_sv (by assumption) | exact kdL (by omega) | exact kdQ (by omega) | rfl) qf_X6_87 dX6_ifMeasured_112 ?_
              refine j_iload C dX6_ifMeasured_115 rfl ?_
              refine j_isub C dX6_ifMeasured_117 ?_
              refine j_iload C dX6_ifMeasured_118 rfl ?_
              refine j_iadd C dX6_ifMeasured_120 ?_
              refine j_aload C dX6_ifMeasured_121 rfl ?_
              refine jg_Lease_asset C (by first | assumption | exact kd_sums (by assumption) | exact kd_st1 (by assumption) | exact kd_st2 (by assumption) | exact kd_ls (by first | assumption | exact kdL (by omega) | exact kdQ (by omega) | rfl) (by assumption) | exact kd_sb (by first | assumption | exact kdL (by omega) | exact kdQ (by omega) | rfl) (by assumption) | exact kd_sv (by assumption) | exact kdL (by omega) | exact kdQ (by omega) | rfl) qf_X6_112 dX6_ifMeasured_123 ?_
              refine j_isub C dX6_ifMeasured_126 ?_
              refine j_aload_n C dX6_ifMeasured_127 rfl rfl ?_
              refine jg_LeaseBook_now C (by first | assumption | exact kd_sums (by assumption) | exact kd_st1 (by assumption) | exact kd_st2 (by assumption) | exact kd_ls (by first | assumption | exact kdL (by omega) | exact kdQ (by omega) | rfl) (by assumption) | exact kd_sb (by first | assumption | exact kdL (by omega) | exact kdQ (by omega) | rfl) (by assumption) | exact kd_sv (by assumption) | exact kdL (by omega) | exact kdQ (by omega) | rfl) qf_X6_12 dX6_ifMeasured_128 ?_
              refine j_iload_n C dX6_ifMeasured_131 rfl rfl ?_
              refine j_iload_n C dX6_ifMeasured_132 rfl rfl ?_
              refine j_callV2r C (oa_X4 (by first | assumption | exact kd_sums (by assumption) | exact kd_st1 (by assumption) | exact kd_st2 (by assumption) | exact kd_ls (by first | assumption | exact kdL (by omega) | exact kdQ (by omega) | rfl) (by assumption) | exact kd_sb (by first | assumption | exact kdL (by omega) | exact kdQ (by omega) | rfl) (by assumption) | exact kd_sv (by assumption) | exact kdL (by omega) | exact kdQ (by omega) | rfl)) rfl rfl (c_X4_lossByCutOff hI.2.1 hI.2.2.2.2.2) qm_X6_213 qi_X4_lossByCutOff qs_X4_lossByCutOff qn_X4 qc_X4_lossByCutOff fit_X4_lossByCutOff ⟨Nat.le_of_ble_eq_true rfl, Nat.le_of_ble_eq_true rfl, Nat.le_of_ble_eq_true rfl, Nat.le_of_ble_eq_true rfl⟩ (Nat.le_of_ble_eq_true rfl) dX6_ifMeasured_133 ?_
              refine j_isub C dX6_ifMeasured_136 ?_
              exact j_iret C dX6_ifMeasured_137 (by first | (rw [if_pos h52]; rfl) | (rw [if_neg h52])) (by rfl) (by rfl)
          · replace h52 := b2i_0 h52
            refine j_iconst (v := (-1)) C dX6_ifMeasured_55 (by decide) ?_
            exact j_iret C dX6_ifMeasured_56 (by first | (rw [if_pos h52]; rfl) | (rw [if_neg h52])) (by rfl) (by rfl)
theorem tkM_o {V : Mem} {x : Int32} {r : Nat} (h : r ≠ 221) (h2 : r ≠ 222) : tkM V x r = V r := by
  unfold tkM
  split
  · split
    · unfold tdM; rw [mset_o h, mset_o h2]
    · unfold tsM; rw [mset_o h, mset_o h]
  · rfl
def PI (V : Mem) : Prop := ∃ pt, pt < 4 ∧ V 221 1 = nI pt
theorem pB_of {V : Mem} {x : Int32} (h : ¬ pB V x = -1) : ∃ pt, pt < 4 ∧ pB V x = nI pt := by
  unfold pB at h ⊢
  split
  · rename_i h1; rw [if_pos h1] at h; split
    · exact ⟨1, by omega, rfl⟩
    · rename_i h2; rw [if_neg h2] at h; exact absurd rfl h
  · rename_i h1; rw [if_neg h1] at h; split
    · rename_i h2; rw [if_pos h2] at h; split
      · exact ⟨3, by omega, rfl⟩
      · rename_i h3; rw [if_neg h3] at h; exact absurd rfl h
    · rename_i h2; rw [if_neg h2] at h; split
      · rename_i h3; rw [if_pos h3] at h; split
        · exact ⟨0, by omega, rfl⟩
        · rename_i h4; rw [if_neg h4] at h; exact absurd rfl h
      · rename_i h3; rw [if_neg h3] at h; split
        · rename_i h4; rw [if_pos h4] at h; split
          · exact ⟨2, by omega, rfl⟩
          · rename_i h5; rw [if_neg h5] at h; exact absurd rfl h
        · rename_i h4; rw [if_neg h4] at h; exact absurd rfl h
theorem PI.tk {V : Mem} {x : Int32} (h : PI V) : PI (tkM V x) := by
  unfold tkM
  split
  · rename_i h1
    split
    · obtain ⟨pt, h2, h3⟩ := h
      exact ⟨pt, h2, by unfold tdM; rw [mset_ne (by omega), mset_ne (by omega)]; exact h3⟩
    · rename_i h2
      unfold tkOk at h1
      rw [if_neg h2] at h1
      obtain ⟨pt, h3, h4⟩ := pB_of h1.2
      exact ⟨pt, h3, by unfold tsM; rw [mset_ne (by omega), mset_at]; exact h4⟩
  · exact h
def rdL : Nat → Nat → Mem → Nat × Mem
  | 0, q, W => (q, W)
  | f + 1, q, W => if tkOk W (W 220 q) then rdL f (q + 1) (tkM W (W 220 q)) else (q, tkM W (W 220 q))
theorem rdL_t {f q : Nat} {W : Mem} (h : tkOk W (W 220 q)) : rdL (f + 1) q W = rdL f (q + 1) (tkM W (W 220 q)) := if_pos h
theorem rdL_f {f q : Nat} {W : Mem} (h : ¬ tkOk W (W 220 q)) : rdL (f + 1) q W = (q, tkM W (W 220 q)) := if_neg h
def rdR (V : Mem) : Mem := mset (mset V 221 1 (nI 0)) 221 2 (nI 0)
def rdA (m : Nat) (V : Mem) : Nat × Mem := rdL m 0 (rdR V)
set_option maxHeartbeats 4000000 in
theorem lp_X3_readAll {p : Program} {l : Launch} {e : Env} {s : State} {m : MethodId} {args : Array Value} {below : List Frame} {meth : Method} {c : Code} {g : GC} {L : LMem} {m0 : Nat} (C : Cx p s args m meth c cX3_readAll 3 yX3_readAll.cls (some .int) g) (h60 : m0 ≤ 60) : ∀ (f q : Nat) (V : Mem), q + f = m0 → PI V → V 219 1 = nI m0 → J p l e (RM 3) s m args below meth c 3 g 0 0 (MQ below (QG (some (.int (nI (rdL f q V).1))) (PW g (rdL f q V).2 L) (AA g)) args s 0 0 (AA g)) V L 6 [some (.ref (ad g 221)), some (.ref (ad g 219)), some (.int (nI q))] [] := by
  intro f
  induction f with
  | zero =>
    intro q V hq hP hm
    have hq : m0 = q := by omega
    subst hq
    refine j_iload_n C dX3_readAll_6 rfl rfl ?_
    refine j_aload_n C dX3_readAll_7 rfl rfl ?_
    refine jg_InputText_length C (by first | assumption | exact kd_sums (by assumption) | exact kd_st1 (by assumption) | exact kd_st2 (by assumption) | exact kd_ls (by first | assumption | exact kdL (by omega) | exact kdQ (by omega) | rfl) (by assumption) | exact kd_sb (by first | assumption | exact kdL (by omega) | exact kdQ (by omega) | rfl) (by assumption) | exact kd_sv (by assumption) | exact kdL (by omega) | exact kdQ (by omega) | rfl) qf_X3_25 dX3_readAll_8 ?_
    refine j_tope (y := nI m0) (by exact hm) ?_
    refine j_icmp_ge (tgt := 34) C dX3_readAll_11 (by decide) (fun h11 => ?_) (fun h11 => absurd (nI_le (by omega) (by omega)) h11)
    refine j_aload_n C dX3_readAll_34 rfl rfl ?_
    refine jg_InputText_length C (by first | assumption | exact kd_sums (by assumption) | exact kd_st1 (by assumption) | exact kd_st2 (by assumption) | exact kd_ls (by first | assumption | exact kdL (by omega) | exact kdQ (by omega) | rfl) (by assumption) | exact kd_sb (by first | assumption | exact kdL (by omega) | exact kdQ (by omega) | rfl) (by assumption) | exact kd_sv (by assumption) | exact kdL (by omega) | exact kdQ (by omega) | rfl) qf_X3_25 dX3_readAll_35 ?_
    refine j_tope (y := nI m0) (by exact hm) ?_
    exact j_iret C dX3_readAll_38 (by rfl) (by rfl) (by rfl)
  | succ f ih =>
    intro q V hq hP hm
    obtain ⟨pt, hp4, hp⟩ := hP
    refine j_iload_n C dX3_readAll_6 rfl rfl ?_
    refine j_aload_n C dX3_readAll_7 rfl rfl ?_
    refine jg_InputText_length C (by first | assumption | exact kd_sums (by assumption) | exact kd_st1 (by assumption) | exact kd_st2 (by assumption) | exact kd_ls (by first | assumption | exact kdL (by omega) | exact kdQ (by omega) | rfl) (by assumption) | exact kd_sb (by first | assumption | exact kdL (by omega) | exact kdQ (by omega) | rfl) (by assumption) | exact kd_sv (by assumption) | exact kdL (by omega) | exact kdQ (by omega) | rfl) qf_X3_25 dX3_readAll_8 ?_
    refine j_tope (y := nI m0) (by exact hm) ?_
    refine j_icmp_ge (tgt := 34) C dX3_readAll_11 (by decide) (fun h11 => absurd h11 (nI_ge (by omega) (by omega))) (fun h11 => ?_)
    refine j_aload_n C dX3_readAll_14 rfl rfl ?_
    refine j_aload_n C dX3_readAll_15 rfl rfl ?_
    refine j_iload_n C dX3_readAll_16 rfl rfl ?_
    refine j_callV1r C (oa_X1 (by first | assumption | exact kd_sums (by assumption) | exact kd_st1 (by assumption) | exact kd_st2 (by assumption) | exact kd_ls (by first | assumption | exact kdL (by omega) | exact kdQ (by omega) | rfl) (by assumption) | exact kd_sb (by first | assumption | exact kdL (by omega) | exact kdQ (by omega) | rfl) (by assumption) | exact kd_sv (by assumption) | exact kdL (by omega) | exact kdQ (by omega) | rfl)) rfl rfl (c_X1_codeAt hm (by omega) h60) qm_X3_30 qi_X1_codeAt qs_X1_codeAt qn_X1 qc_X1_codeAt fit_X1_codeAt ⟨Nat.le_of_ble_eq_true rfl, Nat.le_of_ble_eq_true rfl, Nat.le_of_ble_eq_true rfl, Nat.le_of_ble_eq_true rfl⟩ (Nat.le_of_ble_eq_true rfl) dX3_readAll_17 ?_
    refine j_callV1r C (oa_X3 (by first | assumption | exact kd_sums (by assumption) | exact kd_st1 (by assumption) | exact kd_st2 (by assumption) | exact kd_ls (by first | assumption | exact kdL (by omega) | exact kdQ (by omega) | rfl) (by assumption) | exact kd_sb (by first | assumption | exact kdL (by omega) | exact kdQ (by omega) | rfl) (by assumption) | exact kd_sv (by assumption) | exact kdL (by omega) | exact kdQ (by omega) | rfl)) rfl rfl (c_X3_take hp hp4) qm_X3_34 qi_X3_take qs_X3_take qn_X3 qc_X3_take fit_X3_take ⟨Nat.le_of_ble_eq_true rfl, Nat.le_of_ble_eq_true rfl, Nat.le_of_ble_eq_true rfl, Nat.le_of_ble_eq_true rfl⟩ (Nat.le_of_ble_eq_true rfl) dX3_readAll_20 ?_
    refine j_if_ne (tgt := 28) C dX3_readAll_23 (by decide) (fun h23 => ?_) (fun h23 => ?_)
    · replace h23 := b2i_1 h23
      rw [rdL_t h23]
      refine j_incN2 (q := 1) C dX3_readAll_28 (by decide) (Nat.le_of_ble_eq_true rfl) rfl ?_
      refine j_goto (tgt := 6) C dX3_readAll_31 (by decide) ?_
      exact j_dr (lv' := [some (.ref (ad g 221)), some (.ref (ad g 219)), some (.int (nI (q + 1)))]) (And.intro rfl (And.intro rfl (And.intro rfl True.intro))) (ih (q + 1) _ (by omega) (PI.tk ⟨pt, hp4, hp⟩) ((congrFun (tkM_o (by omega) (by omega)) 1).trans hm))
    · replace h23 := b2i_0 h23
      rw [rdL_f h23]
      refine j_iload_n C dX3_readAll_26 rfl rfl ?_
      exact j_iret C dX3_readAll_27 (by rfl) (by rfl) (by rfl)
theorem rdR_P {V : Mem} : PI (rdR V) := ⟨0, by omega, by unfold rdR; rw [mset_ne (by omega), mset_at]⟩
theorem rdR_o {V : Mem} {r : Nat} (h : r ≠ 221) : rdR V r = V r := by unfold rdR; rw [mset_o h, mset_o h]
set_option maxHeartbeats 4000000 in
theorem c_X3_readAll {l : Launch} {g : GC} {V : Mem} {L : LMem} {m0 : Nat} (hm : V 219 1 = nI m0) (h60 : m0 ≤ 60) : MC l yX3_readAll cX3_readAll 3 (some .int) 3 g V L [.ref (ad g 221), .ref (ad g 219)] (some (.int (nI (rdA m0 V).1))) (rdA m0 V).2 L := by
  refine MC.of [some (.ref (ad g 221)), some (.ref (ad g 219)), none] (by decide +kernel) rfl (Nat.le_of_ble_eq_true rfl) (fun p e s m args below meth c C => ?_)
  refine j_aload_n C dX3_readAll_0 rfl rfl ?_
  refine j_callV0v C (oa_X3 (by first | assumption | exact kd_sums (by assumption) | exact kd_st1 (by assumption) | exact kd_st2 (by assumption) | exact kd_ls (by first | assumption | exact kdL (by omega) | exact kdQ (by omega) | rfl) (by assumption) | exact kd_sb (by first | assumption | exact kdL (by omega) | exact kdQ (by omega) | rfl) (by assumption) | exact kd_sv (by assumption) | exact kdL (by omega) | exact kdQ (by omega) | rfl)) rfl rfl (c_X3_restart) qm_X3_22 qi_X3_restart qs_X3_restart qn_X3 qc_X3_restart fit_X3_restart ⟨Nat.le_of_ble_eq_true rfl, Nat.le_of_ble_eq_true rfl, Nat.le_of_ble_eq_true rfl, Nat.le_of_ble_eq_true rfl⟩ (Nat.le_of_ble_eq_true rfl) dX3_readAll_1 ?_
  refine j_iconst (v := (nI 0)) C dX3_readAll_4 (by decide) ?_
  refine j_ist2 C dX3_readAll_5 rfl (Nat.le_of_ble_eq_true rfl) rfl ?_
  exact lp_X3_readAll C h60 m0 0 (rdR V) (by omega) rdR_P ((congrFun (rdR_o (by omega)) 1).trans hm)
set_option maxHeartbeats 4000000 in
theorem c_X6_firstError {l : Launch} {g : GC} {V : Mem} {L : LMem} {m0 : Nat} (hm : V 219 1 = nI m0) (h60 : m0 ≤ 60) : MC l yX6_firstError cX6_firstError 1 (some .int) 5 g V L [.ref (ad g 223)] (some (.int (nI (rdA m0 V).1))) (rdA m0 V).2 L := by
  refine MC.of [some (.ref (ad g 223))] (by decide +kernel) rfl (Nat.le_of_ble_eq_true rfl) (fun p e s m args below meth c C => ?_)
  refine j_aload_n C dX6_firstError_0 rfl rfl ?_
  refine jg_LeaseBook_reader C (by first | assumption | exact kd_sums (by assumption) | exact kd_st1 (by assumption) | exact kd_st2 (by assumption) | exact kd_ls (by first | assumption | exact kdL (by omega) | exact kdQ (by omega) | rfl) (by assumption) | exact kd_sb (by first | assumption | exact kdL (by omega) | exact kdQ (by omega) | rfl) (by assumption) | exact kd_sv (by assumption) | exact kdL (by omega) | exact kdQ (by omega) | rfl) qf_X6_33 dX6_firstError_1 ?_
  refine j_aload_n C dX6_firstError_4 rfl rfl ?_
  refine jg_LeaseBook_text C (by first | assumption | exact kd_sums (by assumption) | exact kd_st1 (by assumption) | exact kd_st2 (by assumption) | exact kd_ls (by first | assumption | exact kdL (by omega) | exact kdQ (by omega) | rfl) (by assumption) | exact kd_sb (by first | assumption | exact kdL (by omega) | exact kdQ (by omega) | rfl) (by assumption) | exact kd_sv (by assumption) | exact kdL (by omega) | exact kdQ (by omega) | rfl) qf_X6_26 dX6_firstError_5 ?_
  refine j_callV1r C (oa_X3 (by first | assumption | exact kd_sums (by assumption) | exact kd_st1 (by assumption) | exact kd_st2 (by assumption) | exact kd_ls (by first | assumption | exact kdL (by omega) | exact kdQ (by omega) | rfl) (by assumption) | exact kd_sb (by first | assumption | exact kdL (by omega) | exact kdQ (by omega) | rfl) (by assumption) | exact kd_sv (by assumption) | exact kdL (by omega) | exact kdQ (by omega) | rfl)) rfl rfl (c_X3_readAll hm h60) qm_X6_138 qi_X3_readAll qs_X3_readAll qn_X3 qc_X3_readAll fit_X3_readAll ⟨Nat.le_of_ble_eq_true rfl, Nat.le_of_ble_eq_true rfl, Nat.le_of_ble_eq_true rfl, Nat.le_of_ble_eq_true rfl⟩ (Nat.le_of_ble_eq_true rfl) dX6_firstError_8 ?_
  exact j_iret C dX6_firstError_11 (by rfl) (by rfl) (by rfl)
def rdNum (V : Mem) (w : Nat) : Int32 := if w ≤ (V 221 1).toNatClampNeg then V 222 w else nI 0
def cRd (nl : Nat) (V : Mem) : Mem := cAddL nl (rdNum V 0) (rdNum V 1) (rdNum V 2) (rdNum V 3) V
theorem rdNum_r {V : Mem} (h : rateR (V 222 2)) : rateR (rdNum V 2) := by
  unfold rdNum
  split
  · exact h
  · exact rateN (by omega)
theorem c_X3_num {l : Launch} {g : GC} {V : Mem} {L : LMem} {w : Nat} (hP : PI V) (hw : w < 4) : MC l yX3_numberOf cX3_numberOf 2 (some .int) 0 g V L [.ref (ad g 221), .int (nI w)] (some (.int (rdNum V w))) V L := by
  obtain ⟨pt, h4, hp⟩ := hP
  have e : (V 221 1).toNatClampNeg = pt := by rw [hp]; exact nI_clN (by omega)
  unfold rdNum
  rw [e]
  exact c_X3_numberOf hp h4 hw
set_option maxHeartbeats 4000000 in
theorem c_X6_openRead {l : Launch} {g : GC} {V : Mem} {L : LMem} {nl : Nat} (h : LC nl V) (h8 : nl < 8) (hP : PI V) (hz : rateR (V 222 2)) : MC l yX6_openRead cX6_openRead 1 (Option.none : Option Jvm.ClassFile.FieldType) 3 g V L [.ref (ad g 223)] none (cRd nl V) L := by
  refine MC.of [some (.ref (ad g 223))] (by decide +kernel) rfl (Nat.le_of_ble_eq_true rfl) (fun p e s m args below meth c C => ?_)
  refine j_aload_n C dX6_openRead_0 rfl rfl ?_
  refine jg_LeaseBook_now C (by first | assumption | exact kd_sums (by assumption) | exact kd_st1 (by assumption) | exact kd_st2 (by assumption) | exact kd_ls (by first | assumption | exact kdL (by omega) | exact kdQ (by omega) | rfl) (by assumption) | exact kd_sb (by first | assumption | exact kdL (by omega) | exact kdQ (by omega) | rfl) (by assumption) | exact kd_sv (by assumption) | exact kdL (by omega) | exact kdQ (by omega) | rfl) qf_X6_12 dX6_openRead_1 ?_
  refine j_aload_n C dX6_openRead_4 rfl rfl ?_
  refine jg_LeaseBook_reader C (by first | assumption | exact kd_sums (by assumption) | exact kd_st1 (by assumption) | exact kd_st2 (by assumption) | exact kd_ls (by first | assumption | exact kdL (by omega) | exact kdQ (by omega) | rfl) (by assumption) | exact kd_sb (by first | assumption | exact kdL (by omega) | exact kdQ (by omega) | rfl) (by assumption) | exact kd_sv (by assumption) | exact kdL (by omega) | exact kdQ (by omega) | rfl) qf_X6_33 dX6_openRead_5 ?_
  refine j_iconst (v := (nI 0)) C dX6_openRead_8 (by decide) ?_
  refine j_callV1r C (oa_X3 (by first | assumption | exact kd_sums (by assumption) | exact kd_st1 (by assumption) | exact kd_st2 (by assumption) | exact kd_ls (by first | assumption | exact kdL (by omega) | exact kdQ (by omega) | rfl) (by assumption) | exact kd_sb (by first | assumption | exact kdL (by omega) | exact kdQ (by omega) | rfl) (by assumption) | exact kd_sv (by assumption) | exact kdL (by omega) | exact kdQ (by omega) | rfl)) rfl rfl (c_X3_num hP (by omega)) qm_X6_289 qi_X3_numberOf qs_X3_numberOf qn_X3 qc_X3_numberOf fit_X3_numberOf ⟨Nat.le_of_ble_eq_true rfl, Nat.le_of_ble_eq_true rfl, Nat.le_of_ble_eq_true rfl, Nat.le_of_ble_eq_true rfl⟩ (Nat.le_of_ble_eq_true rfl) dX6_openRead_9 ?_
  refine j_aload_n C dX6_openRead_12 rfl rfl ?_
  refine jg_LeaseBook_reader C (by first | assumption | exact kd_sums (by assumption) | exact kd_st1 (by assumption) | exact kd_st2 (by assumption) | exact kd_ls (by first | assumption | exact kdL (by omega) | exact kdQ (by omega) | rfl) (by assumption) | exact kd_sb (by first | assumption | exact kdL (by omega) | exact kdQ (by omega) | rfl) (by assumption) | exact kd_sv (by assumption) | exact kdL (by omega) | exact kdQ (by omega) | rfl) qf_X6_33 dX6_openRead_13 ?_
  refine j_iconst (v := (nI 1)) C dX6_openRead_16 (by decide) ?_
  refine j_callV1r C (oa_X3 (by first | assumption | exact kd_sums (by assumption) | exact kd_st1 (by assumption) | exact kd_st2 (by assumption) | exact kd_ls (by first | assumption | exact kdL (by omega) | exact kdQ (by omega) | rfl) (by assumption) | exact kd_sb (by first | assumption | exact kdL (by omega) | exact kdQ (by omega) | rfl) (by assumption) | exact kd_sv (by assumption) | exact kdL (by omega) | exact kdQ (by omega) | rfl)) rfl rfl (c_X3_num hP (by omega)) qm_X6_289 qi_X3_numberOf qs_X3_numberOf qn_X3 qc_X3_numberOf fit_X3_numberOf ⟨Nat.le_of_ble_eq_true rfl, Nat.le_of_ble_eq_true rfl, Nat.le_of_ble_eq_true rfl, Nat.le_of_ble_eq_true rfl⟩ (Nat.le_of_ble_eq_true rfl) dX6_openRead_17 ?_
  refine j_aload_n C dX6_openRead_20 rfl rfl ?_
  refine jg_LeaseBook_reader C (by first | assumption | exact kd_sums (by assumption) | exact kd_st1 (by assumption) | exact kd_st2 (by assumption) | exact kd_ls (by first | assumption | exact kdL (by omega) | exact kdQ (by omega) | rfl) (by assumption) | exact kd_sb (by first | assumption | exact kdL (by omega) | exact kdQ (by omega) | rfl) (by assumption) | exact kd_sv (by assumption) | exact kdL (by omega) | exact kdQ (by omega) | rfl) qf_X6_33 dX6_openRead_21 ?_
  refine j_iconst (v := (nI 2)) C dX6_openRead_24 (by decide) ?_
  refine j_callV1r C (oa_X3 (by first | assumption | exact kd_sums (by assumption) | exact kd_st1 (by assumption) | exact kd_st2 (by assumption) | exact kd_ls (by first | assumption | exact kdL (by omega) | exact kdQ (by omega) | rfl) (by assumption) | exact kd_sb (by first | assumption | exact kdL (by omega) | exact kdQ (by omega) | rfl) (by assumption) | exact kd_sv (by assumption) | exact kdL (by omega) | exact kdQ (by omega) | rfl)) rfl rfl (c_X3_num hP (by omega)) qm_X6_289 qi_X3_numberOf qs_X3_numberOf qn_X3 qc_X3_numberOf fit_X3_numberOf ⟨Nat.le_of_ble_eq_true rfl, Nat.le_of_ble_eq_true rfl, Nat.le_of_ble_eq_true rfl, Nat.le_of_ble_eq_true rfl⟩ (Nat.le_of_ble_eq_true rfl) dX6_openRead_25 ?_
  refine j_aload_n C dX6_openRead_28 rfl rfl ?_
  refine jg_LeaseBook_reader C (by first | assumption | exact kd_sums (by assumption) | exact kd_st1 (by assumption) | exact kd_st2 (by assumption) | exact kd_ls (by first | assumption | exact kdL (by omega) | exact kdQ (by omega) | rfl) (by assumption) | exact kd_sb (by first | assumption | exact kdL (by omega) | exact kdQ (by omega) | rfl) (by assumption) | exact kd_sv (by assumption) | exact kdL (by omega) | exact kdQ (by omega) | rfl) qf_X6_33 dX6_openRead_29 ?_
  refine j_iconst (v := (nI 3)) C dX6_openRead_32 (by decide) ?_
  refine j_callV1r C (oa_X3 (by first | assumption | exact kd_sums (by assumption) | exact kd_st1 (by assumption) | exact kd_st2 (by assumption) | exact kd_ls (by first | assumption | exact kdL (by omega) | exact kdQ (by omega) | rfl) (by assumption) | exact kd_sb (by first | assumption | exact kdL (by omega) | exact kdQ (by omega) | rfl) (by assumption) | exact kd_sv (by assumption) | exact kdL (by omega) | exact kdQ (by omega) | rfl)) rfl rfl (c_X3_num hP (by omega)) qm_X6_289 qi_X3_numberOf qs_X3_numberOf qn_X3 qc_X3_numberOf fit_X3_numberOf ⟨Nat.le_of_ble_eq_true rfl, Nat.le_of_ble_eq_true rfl, Nat.le_of_ble_eq_true rfl, Nat.le_of_ble_eq_true rfl⟩ (Nat.le_of_ble_eq_true rfl) dX6_openRead_33 ?_
  refine j_callV4r C (oa_X4 (by first | assumption | exact kd_sums (by assumption) | exact kd_st1 (by assumption) | exact kd_st2 (by assumption) | exact kd_ls (by first | assumption | exact kdL (by omega) | exact kdQ (by omega) | rfl) (by assumption) | exact kd_sb (by first | assumption | exact kdL (by omega) | exact kdQ (by omega) | rfl) (by assumption) | exact kd_sv (by assumption) | exact kdL (by omega) | exact kdQ (by omega) | rfl)) rfl rfl (c_X4_addLease h h8 (rdNum_r hz)) qm_X6_62 qi_X4_addLease qs_X4_addLease qn_X4 qc_X4_addLease fit_X4_addLease ⟨Nat.le_of_ble_eq_true rfl, Nat.le_of_ble_eq_true rfl, Nat.le_of_ble_eq_true rfl, Nat.le_of_ble_eq_true rfl⟩ (Nat.le_of_ble_eq_true rfl) dX6_openRead_36 ?_
  refine j_pop C dX6_openRead_39 rfl ?_
  exact j_vret C dX6_openRead_40 rfl (by rfl) (by rfl)
def cntS (V : Mem) : Nat → Nat
  | 0 => 0
  | q + 1 => if V 220 q = nI 59 then cntS V q + 1 else cntS V q
theorem cntS_le {V : Mem} : ∀ q, cntS V q ≤ q
  | 0 => Nat.le_refl _
  | q + 1 => by have := cntS_le (V := V) q; rw [cntS]; split <;> omega
theorem cntS_mono {V : Mem} {q : Nat} : ∀ r, cntS V q ≤ cntS V (q + r)
  | 0 => Nat.le_refl _
  | r + 1 => by have := cntS_mono (V := V) (q := q) r; show _ ≤ cntS V (q + r + 1); rw [cntS]; split <;> omega
theorem sF_cnt {V : Mem} : ∀ q, sF (fun q => decide (V 220 q = nI 59)) (fun _ => nI 1) q = nI (cntS V q)
  | 0 => rfl
  | q + 1 => by
    rw [sF, cntS, sF_cnt q]
    by_cases h : V 220 q = nI 59
    · rw [if_pos (decide_eq_true h), if_pos h, nI_add]
    · rw [if_neg (mt of_decide_eq_true h), if_neg h]
/-- the text opened, q characters done; T holds the characters -/
def otS (nl : Nat) (T : Mem) (W : Mem) : Nat → Mem
  | 0 => W
  | q + 1 => tkM (if T 220 q = nI 59 then cRd (nl + cntS T q) (otS nl T W q) else otS nl T W q) (T 220 q)
theorem cBeg_o {k r : Nat} {p n z c : Int32} {V : Mem} (h : r ≠ k) (h2 : r ≠ k + 8) : cBeg k p n z c V r = V r := by
  unfold cBeg
  rw [cMv_o h2, cMv_o h2, cMv_o h2, mset_o h, mset_o h, mset_o h, mset_o h, mset_o h, rcpy_ne h2]
theorem cAddL_o {nl r : Nat} {p n z c : Int32} {V : Mem} (h : r ≠ 0) (h1 : r ≠ 3 + nl) (h2 : r ≠ 3 + nl + 8) : cAddL nl p n z c V r = V r := by
  unfold cAddL
  rw [cBeg_o h1 h2, mset_o h]
theorem cAddL_2 {nl : Nat} {p n z c : Int32} {V : Mem} : cAddL nl p n z c V 0 2 = nI (nl + 1) := by
  unfold cAddL
  rw [cBeg_o (by omega) (by omega), mset_at]
theorem tkM_r {V : Mem} {x : Int32} (hP : PI V) (h : rateR (V 222 2)) : rateR (tkM V x 222 2) := by
  obtain ⟨pt, h4, hp⟩ := hP
  have e : (V 221 1).toNatClampNeg = pt := by rw [hp]; exact nI_clN (by omega)
  unfold tkM
  split
  · rename_i h1
    split
    · rename_i h2
      unfold tkOk at h1
      rw [if_pos h2, e] at h1
      unfold tdM
      rw [mset_ne (by omega), e]
      by_cases h3 : pt = 2
      · subst h3
        rw [mset_at]
        exact ⟨Int32.not_lt.mp h1.2.1, Int32.not_lt.mp h1.2.2⟩
      · rw [mset_ne (by omega)]; exact h
    · unfold tsM
      rw [mset_ne (by omega), mset_ne (by omega)]; exact h
  · exact h
/-- what stands while a text is opened -/
def OI (nl q m : Nat) (T W : Mem) : Prop := LC (nl + cntS T q) W ∧ PI W ∧ rateR (W 222 2) ∧ W 219 1 = nI m ∧ W 220 = T 220
theorem OI.rd {nl q m : Nat} {T W : Mem} (h : OI nl q m T W) (h8 : nl + cntS T q + 1 ≤ 8) : LC (nl + cntS T q + 1) (cRd (nl + cntS T q) W) ∧ PI (cRd (nl + cntS T q) W) ∧ rateR (cRd (nl + cntS T q) W 222 2) ∧ cRd (nl + cntS T q) W 219 1 = nI m ∧ cRd (nl + cntS T q) W 220 = T 220 := by
  obtain ⟨h1, h2, h3, h4, h5⟩ := h
  unfold cRd
  have a : ∀ r, 200 < r → cAddL (nl + cntS T q) (rdNum W 0) (rdNum W 1) (rdNum W 2) (rdNum W 3) W r = W r := fun r hr => cAddL_o (by omega) (by omega) (by omega)
  exact ⟨⟨cAddL_2, h8⟩, by unfold PI; rw [a 221 (by omega)]; exact h2, by rw [a 222 (by omega)]; exact h3, by rw [a 219 (by omega)]; exact h4, by rw [a 220 (by omega)]; exact h5⟩
theorem OI.tk {n m : Nat} {T W : Mem} {x : Int32} (h : LC n W ∧ PI W ∧ rateR (W 222 2) ∧ W 219 1 = nI m ∧ W 220 = T 220) : LC n (tkM W x) ∧ PI (tkM W x) ∧ rateR (tkM W x 222 2) ∧ tkM W x 219 1 = nI m ∧ tkM W x 220 = T 220 := by
  obtain ⟨h1, h2, h3, h4, h5⟩ := h
  exact ⟨⟨by rw [tkM_o (by omega) (by omega)]; exact h1.1, h1.2⟩, h2.tk, tkM_r h2 h3, by rw [tkM_o (by omega) (by omega)]; exact h4, by rw [tkM_o (by omega) (by omega)]; exact h5⟩
theorem OI.at {nl m : Nat} {T W : Mem} (h : OI nl 0 m T W) (h8 : nl + cntS T m + 1 ≤ 8) : ∀ q, q ≤ m → OI nl q m T (otS nl T W q)
  | 0, _ => h
  | q + 1, hq => by
    have ih := OI.at h h8 q (by omega)
    have hm := cntS_mono (V := T) (q := q + 1) (m - (q + 1))
    rw [show q + 1 + (m - (q + 1)) = m by omega] at hm
    show OI nl (q + 1) m T (tkM (if T 220 q = nI 59 then cRd (nl + cntS T q) (otS nl T W q) else otS nl T W q) (T 220 q))
    unfold OI
    rw [cntS] at hm ⊢
    by_cases hx : T 220 q = nI 59
    · rw [if_pos hx] at hm
      rw [if_pos hx, if_pos hx]
      exact OI.tk (ih.rd (by omega))
    · rw [if_neg hx, if_neg hx]
      exact OI.tk ih
set_option maxHeartbeats 4000000 in
theorem lp_X6_openTexts {p : Program} {l : Launch} {e : Env} {s : State} {m : MethodId} {args : Array Value} {below : List Frame} {meth : Method} {c : Code} {g : GC} {Q : State → Prop} {V : Mem} {L : LMem} {nl m0 : Nat} {T : Mem} (C : Cx p s args m meth c cX6_openTexts 3 yX6_openTexts.cls (Option.none : Option Jvm.ClassFile.FieldType) g) (hO : OI nl 0 m0 T V) (h8 : nl + cntS T m0 + 1 ≤ 8) (h60 : m0 ≤ 60) (kx : J p l e (RM 4) s m args below meth c 3 g 0 0 Q (otS nl T V (m0)) L 54 [some (.ref (ad g 223)), some (.int (nI (m0))), none] []) : ∀ j i : Nat, i + j = m0 → J p l e (RM 4) s m args below meth c 3 g 0 0 Q (otS nl T V i) L 9 [some (.ref (ad g 223)), some (.int (nI i)), none] [] := by
  intro j
  induction j with
  | zero =>
    intro i hi
    have hi : m0 = i := by omega
    subst hi
    refine j_iload_n C dX6_openTexts_9 rfl rfl ?_
    refine j_aload_n C dX6_openTexts_10 rfl rfl ?_
    refine jg_LeaseBook_text C (by first | assumption | exact kd_sums (by assumption) | exact kd_st1 (by assumption) | exact kd_st2 (by assumption) | exact kd_ls (by first | assumption | exact kdL (by omega) | exact kdQ (by omega) | rfl) (by assumption) | exact kd_sb (by first | assumption | exact kdL (by omega) | exact kdQ (by omega) | rfl) (by assumption) | exact kd_sv (by assumption) | exact kdL (by omega) | exact kdQ (by omega) | rfl) qf_X6_26 dX6_openTexts_11 ?_
    refine jg_InputText_length C (by first | assumption | exact kd_sums (by assumption) | exact kd_st1 (by assumption) | exact kd_st2 (by assumption) | exact kd_ls (by first | assumption | exact kdL (by omega) | exact kdQ (by omega) | rfl) (by assumption) | exact kd_sb (by first | assumption | exact kdL (by omega) | exact kdQ (by omega) | rfl) (by assumption) | exact kd_sv (by assumption) | exact kdL (by omega) | exact kdQ (by omega) | rfl) qf_X6_132 dX6_openTexts_14 ?_
    refine j_tope (y := nI m0) (by exact (hO.at h8 _ (by omega)).2.2.2.1) ?_
    refine j_icmp_ge (tgt := 54) C dX6_openTexts_17 (by decide) (fun h17 => ?_) (fun h17 => absurd (nI_le (by omega) (by omega)) h17)
    exact kx
  | succ j ih =>
    intro i hi
    have hi' := hO.at h8 i (by omega)
    have hm := cntS_mono (V := T) (q := i) (m0 - i)
    rw [show i + (m0 - i) = m0 by omega] at hm
    refine j_iload_n C dX6_openTexts_9 rfl rfl ?_
    refine j_aload_n C dX6_openTexts_10 rfl rfl ?_
    refine jg_LeaseBook_text C (by first | assumption | exact kd_sums (by assumption) | exact kd_st1 (by assumption) | exact kd_st2 (by assumption) | exact kd_ls (by first | assumption | exact kdL (by omega) | exact kdQ (by omega) | rfl) (by assumption) | exact kd_sb (by first | assumption | exact kdL (by omega) | exact kdQ (by omega) | rfl) (by assumption) | exact kd_sv (by assumption) | exact kdL (by omega) | exact kdQ (by omega) | rfl) qf_X6_26 dX6_openTexts_11 ?_
    refine jg_InputText_length C (by first | assumption | exact kd_sums (by assumption) | exact kd_st1 (by assumption) | exact kd_st2 (by assumption) | exact kd_ls (by first | assumption | exact kdL (by omega) | exact kdQ (by omega) | rfl) (by assumption) | exact kd_sb (by first | assumption | exact kdL (by omega) | exact kdQ (by omega) | rfl) (by assumption) | exact kd_sv (by assumption) | exact kdL (by omega) | exact kdQ (by omega) | rfl) qf_X6_132 dX6_openTexts_14 ?_
    refine j_tope (y := nI m0) (by exact (hO.at h8 _ (by omega)).2.2.2.1) ?_
    refine j_icmp_ge (tgt := 54) C dX6_openTexts_17 (by decide) (fun h17 => absurd h17 (nI_ge (by omega) (by omega))) (fun h17 => ?_)
    refine j_aload_n C dX6_openTexts_20 rfl rfl ?_
    refine jg_LeaseBook_text C (by first | assumption | exact kd_sums (by assumption) | exact kd_st1 (by assumption) | exact kd_st2 (by assumption) | exact kd_ls (by first | assumption | exact kdL (by omega) | exact kdQ (by omega) | rfl) (by assumption) | exact kd_sb (by first | assumption | exact kdL (by omega) | exact kdQ (by omega) | rfl) (by assumption) | exact kd_sv (by assumption) | exact kdL (by omega) | exact kdQ (by omega) | rfl) qf_X6_26 dX6_openTexts_21 ?_
    refine j_iload_n C dX6_openTexts_24 rfl rfl ?_
    refine j_callV1r C (oa_X1 (by first | assumption | exact kd_sums (by assumption) | exact kd_st1 (by assumption) | exact kd_st2 (by assumption) | exact kd_ls (by first | assumption | exact kdL (by omega) | exact kdQ (by omega) | rfl) (by assumption) | exact kd_sb (by first | assumption | exact kdL (by omega) | exact kdQ (by omega) | rfl) (by assumption) | exact kd_sv (by assumption) | exact kdL (by omega) | exact kdQ (by omega) | rfl)) rfl rfl (c_X1_codeAt hi'.2.2.2.1 (by omega) h60) qm_X6_251 qi_X1_codeAt qs_X1_codeAt qn_X1 qc_X1_codeAt fit_X1_codeAt ⟨Nat.le_of_ble_eq_true rfl, Nat.le_of_ble_eq_true rfl, Nat.le_of_ble_eq_true rfl, Nat.le_of_ble_eq_true rfl⟩ (Nat.le_of_ble_eq_true rfl) dX6_openTexts_25 ?_
    refine j_tope (y := T 220 i) (by rw [hi'.2.2.2.2]) ?_
    refine j_ist2 C dX6_openTexts_28 rfl (Nat.le_of_ble_eq_true rfl) rfl ?_
    refine j_iload_n C dX6_openTexts_29 rfl rfl ?_
    refine j_bipush (v := (nI 59)) C dX6_openTexts_30 (by decide) ?_
    refine j_icmp_ne (tgt := 39) C dX6_openTexts_32 (by decide) (fun h32 => ?_) (fun h32 => ?_)
    · obtain ⟨pt, h4, hp⟩ := hi'.2.1
      have eW : (if T 220 i = nI 59 then cRd (nl + cntS T i) (otS nl T V i) else otS nl T V i) = otS nl T V i := if_neg h32
      refine j_aload_n C dX6_openTexts_39 rfl rfl ?_
      refine jg_LeaseBook_reader C (by first | assumption | exact kd_sums (by assumption) | exact kd_st1 (by assumption) | exact kd_st2 (by assumption) | exact kd_ls (by first | assumption | exact kdL (by omega) | exact kdQ (by omega) | rfl) (by assumption) | exact kd_sb (by first | assumption | exact kdL (by omega) | exact kdQ (by omega) | rfl) (by assumption) | exact kd_sv (by assumption) | exact kdL (by omega) | exact kdQ (by omega) | rfl) qf_X6_33 dX6_openTexts_40 ?_
      refine j_iload_n C dX6_openTexts_43 rfl rfl ?_
      refine j_callV1r C (oa_X3 (by first | assumption | exact kd_sums (by assumption) | exact kd_st1 (by assumption) | exact kd_st2 (by assumption) | exact kd_ls (by first | assumption | exact kdL (by omega) | exact kdQ (by omega) | rfl) (by assumption) | exact kd_sb (by first | assumption | exact kdL (by omega) | exact kdQ (by omega) | rfl) (by assumption) | exact kd_sv (by assumption) | exact kdL (by omega) | exact kdQ (by omega) | rfl)) rfl rfl (c_X3_take hp h4) qm_X6_286 qi_X3_take qs_X3_take qn_X3 qc_X3_take fit_X3_take ⟨Nat.le_of_ble_eq_true rfl, Nat.le_of_ble_eq_true rfl, Nat.le_of_ble_eq_true rfl, Nat.le_of_ble_eq_true rfl⟩ (Nat.le_of_ble_eq_true rfl) dX6_openTexts_44 ?_
      refine j_pop C dX6_openTexts_47 rfl ?_
      refine j_incN1 (q := 1) C dX6_openTexts_48 (by decide) (Nat.le_of_ble_eq_true rfl) rfl ?_
      refine j_goto (tgt := 9) C dX6_openTexts_51 (by decide) ?_
      refine j_mem (V' := (otS nl T V (i + 1))) (L' := L) (by show tkM (if T 220 i = nI 59 then cRd (nl + cntS T i) (otS nl T V i) else otS nl T V i) (T 220 i) = _; rw [eW]) rfl ?_
      exact j_dr (lv' := [some (.ref (ad g 223)), some (.int (nI (i + 1))), none]) (And.intro rfl (And.intro rfl True.intro)) (ih (i + 1) (by omega))
    · have hR := hi'.rd (by omega)
      obtain ⟨pt, h4, hp⟩ := hR.2.1
      have eW : (if T 220 i = nI 59 then cRd (nl + cntS T i) (otS nl T V i) else otS nl T V i) = cRd (nl + cntS T i) (otS nl T V i) := if_pos h32
      refine j_aload_n C dX6_openTexts_35 rfl rfl ?_
      refine j_callV0v C (oa_X6 (by first | assumption | exact kd_sums (by assumption) | exact kd_st1 (by assumption) | exact kd_st2 (by assumption) | exact kd_ls (by first | assumption | exact kdL (by omega) | exact kdQ (by omega) | rfl) (by assumption) | exact kd_sb (by first | assumption | exact kdL (by omega) | exact kdQ (by omega) | rfl) (by assumption) | exact kd_sv (by assumption) | exact kdL (by omega) | exact kdQ (by omega) | rfl)) rfl rfl (c_X6_openRead hi'.1 (by omega) hi'.2.1 hi'.2.2.1) qm_X6_283 qi_X6_openRead qs_X6_openRead qn_X6 qc_X6_openRead fit_X6_openRead ⟨Nat.le_of_ble_eq_true rfl, Nat.le_of_ble_eq_true rfl, Nat.le_of_ble_eq_true rfl, Nat.le_of_ble_eq_true rfl⟩ (Nat.le_of_ble_eq_true rfl) dX6_openTexts_36 ?_
      refine j_aload_n C dX6_openTexts_39 rfl rfl ?_
      refine jg_LeaseBook_reader C (by first | assumption | exact kd_sums (by assumption) | exact kd_st1 (by assumption) | exact kd_st2 (by assumption) | exact kd_ls (by first | assumption | exact kdL (by omega) | exact kdQ (by omega) | rfl) (by assumption) | exact kd_sb (by first | assumption | exact kdL (by omega) | exact kdQ (by omega) | rfl) (by assumption) | exact kd_sv (by assumption) | exact kdL (by omega) | exact kdQ (by omega) | rfl) qf_X6_33 dX6_openTexts_40 ?_
      refine j_iload_n C dX6_openTexts_43 rfl rfl ?_
      refine j_callV1r C (oa_X3 (by first | assumption | exact kd_sums (by assumption) | exact kd_st1 (by assumption) | exact kd_st2 (by assumption) | exact kd_ls (by first | assumption | exact kdL (by omega) | exact kdQ (by omega) | rfl) (by assumption) | exact kd_sb (by first | assumption | exact kdL (by omega) | exact kdQ (by omega) | rfl) (by assumption) | exact kd_sv (by assumption) | exact kdL (by omega) | exact kdQ (by omega) | rfl)) rfl rfl (c_X3_take hp h4) qm_X6_286 qi_X3_take qs_X3_take qn_X3 qc_X3_take fit_X3_take ⟨Nat.le_of_ble_eq_true rfl, Nat.le_of_ble_eq_true rfl, Nat.le_of_ble_eq_true rfl, Nat.le_of_ble_eq_true rfl⟩ (Nat.le_of_ble_eq_true rfl) dX6_openTexts_44 ?_
      refine j_pop C dX6_openTexts_47 rfl ?_
      refine j_incN1 (q := 1) C dX6_openTexts_48 (by decide) (Nat.le_of_ble_eq_true rfl) rfl ?_
      refine j_goto (tgt := 9) C dX6_openTexts_51 (by decide) ?_
      refine j_mem (V' := (otS nl T V (i + 1))) (L' := L) (by show tkM (if T 220 i = nI 59 then cRd (nl + cntS T i) (otS nl T V i) else otS nl T V i) (T 220 i) = _; rw [eW]) rfl ?_
      exact j_dr (lv' := [some (.ref (ad g 223)), some (.int (nI (i + 1))), none]) (And.intro rfl (And.intro rfl True.intro)) (ih (i + 1) (by omega))
def otA (nl m : Nat) (V : Mem) : Mem := cRd (nl + cntS V m) (otS nl V (rdR V) m)
set_option maxHeartbeats 4000000 in
theorem c_X6_openTexts {l : Launch} {g : GC} {V : Mem} {L : LMem} {nl m0 : Nat} (h : LC nl V) (h8 : nl + cntS V m0 + 1 ≤ 8) (hz : rateR (V 222 2)) (hm : V 219 1 = nI m0) (h60 : m0 ≤ 60) : MC l yX6_openTexts cX6_openTexts 3 (Option.none : Option Jvm.ClassFile.FieldType) 4 g V L [.ref (ad g 223)] none (otA nl m0 V) L := by
  refine MC.of [some (.ref (ad g 223)), none, none] (by decide +kernel) rfl (Nat.le_of_ble_eq_true rfl) (fun p e s m args below meth c C => ?_)
  have hO : OI nl 0 m0 V (rdR V) := ⟨⟨by rw [rdR_o (by omega)]; exact h.1, h.2⟩, rdR_P, by rw [rdR_o (by omega)]; exact hz, by rw [rdR_o (by omega)]; exact hm, by rw [rdR_o (by omega)]⟩
  have hE := hO.at h8 m0 (by omega)
  refine j_aload_n C dX6_openTexts_0 rfl rfl ?_
  refine jg_LeaseBook_reader C (by first | assumption | exact kd_sums (by assumption) | exact kd_st1 (by assumption) | exact kd_st2 (by assumption) | exact kd_ls (by first | assumption | exact kdL (by omega) | exact kdQ (by omega) | rfl) (by assumption) | exact kd_sb (by first | assumption | exact kdL (by omega) | exact kdQ (by omega) | rfl) (by assumption) | exact kd_sv (by assumption) | exact kdL (by omega) | exact kdQ (by omega) | rfl) qf_X6_33 dX6_openTexts_1 ?_
  refine j_callV0v C (oa_X3 (by first | assumption | exact kd_sums (by assumption) | exact kd_st1 (by assumption) | exact kd_st2 (by assumption) | exact kd_ls (by first | assumption | exact kdL (by omega) | exact kdQ (by omega) | rfl) (by assumption) | exact kd_sb (by first | assumption | exact kdL (by omega) | exact kdQ (by omega) | rfl) (by assumption) | exact kd_sv (by assumption) | exact kdL (by omega) | exact kdQ (by omega) | rfl)) rfl rfl (c_X3_restart) qm_X6_280 qi_X3_restart qs_X3_restart qn_X3 qc_X3_restart fit_X3_restart ⟨Nat.le_of_ble_eq_true rfl, Nat.le_of_ble_eq_true rfl, Nat.le_of_ble_eq_true rfl, Nat.le_of_ble_eq_true rfl⟩ (Nat.le_of_ble_eq_true rfl) dX6_openTexts_4 ?_
  refine j_iconst (v := (nI 0)) C dX6_openTexts_7 (by decide) ?_
  refine j_ist1 C dX6_openTexts_8 rfl (Nat.le_of_ble_eq_true rfl) rfl ?_
  refine lp_X6_openTexts (V := rdR V) C hO h8 h60 ?_ m0 0 (by omega)
  refine j_aload_n C dX6_openTexts_54 rfl rfl ?_
  refine j_callV0v C (oa_X6 (by first | assumption | exact kd_sums (by assumption) | exact kd_st1 (by assumption) | exact kd_st2 (by assumption) | exact kd_ls (by first | assumption | exact kdL (by omega) | exact kdQ (by omega) | rfl) (by assumption) | exact kd_sb (by first | assumption | exact kdL (by omega) | exact kdQ (by omega) | rfl) (by assumption) | exact kd_sv (by assumption) | exact kdL (by omega) | exact kdQ (by omega) | rfl)) rfl rfl (c_X6_openRead hE.1 (by omega) hE.2.1 hE.2.2.1) qm_X6_283 qi_X6_openRead qs_X6_openRead qn_X6 qc_X6_openRead fit_X6_openRead ⟨Nat.le_of_ble_eq_true rfl, Nat.le_of_ble_eq_true rfl, Nat.le_of_ble_eq_true rfl, Nat.le_of_ble_eq_true rfl⟩ (Nat.le_of_ble_eq_true rfl) dX6_openTexts_55 ?_
  exact j_vret C dX6_openTexts_58 rfl (by rfl) (by rfl)
