/-! THE MODEL'S METHODS, 3 (laid by wip/whole/p14.py) -/
set_option maxHeartbeats 4000000 in
theorem c_X7_measure {l : Launch} {g : GC} {V : Mem} {L : LMem} {k nl ns : Nat} {p1 n r : Int32} (hk : k < 8) (hR : RR nl ns V) (hr : rateR r) : MC l yX7_measure cX7_measure 9 (Option.none : Option Jvm.ClassFile.FieldType) 3 g V L [.ref (ad g 224), .int (nI k), .int p1, .int n, .int r] none (rMeas k p1 n r ns V) L := by
  refine MC.of [some (.ref (ad g 224)), some (.int (nI k)), some (.int p1), some (.int n), some (.int r), none, none, none, none] (by decide +kernel) rfl (Nat.le_of_ble_eq_true rfl) (fun p e s m args below meth c C => ?_)
  refine j_iload_n C dX7_measure_0 rfl rfl ?_
  refine j_callS1r C (c_X7_at) qm_X7_32 qt_X7_at qn_X7 qc_X7_at fit_X7_at ⟨Nat.le_of_ble_eq_true rfl, Nat.le_of_ble_eq_true rfl, Nat.le_of_ble_eq_true rfl, Nat.le_of_ble_eq_true rfl⟩ (Nat.le_of_ble_eq_true rfl) dX7_measure_1 ?_
  refine j_ist5 C dX7_measure_4 (Nat.le_of_ble_eq_true rfl) rfl ?_
  refine j_iload_n C dX7_measure_6 rfl rfl ?_
  refine j_iload_n C dX7_measure_7 rfl rfl ?_
  refine j_iload C dX7_measure_8 rfl ?_
  refine j_callS3r C (c_X7_worthOf hr) qm_X7_49 qt_X7_worthOf qn_X7 qc_X7_worthOf fit_X7_worthOf ⟨Nat.le_of_ble_eq_true rfl, Nat.le_of_ble_eq_true rfl, Nat.le_of_ble_eq_true rfl, Nat.le_of_ble_eq_true rfl⟩ (Nat.le_of_ble_eq_true rfl) dX7_measure_10 ?_
  refine j_ist6 C dX7_measure_13 (Nat.le_of_ble_eq_true rfl) rfl ?_
  refine j_iload C dX7_measure_15 rfl ?_
  refine j_aload_n C dX7_measure_17 rfl rfl ?_
  refine jg_LeaseBookModel_z C (by first | assumption | rfl | exact kd_sums (by assumption) | exact kd_st1 (by assumption) | exact kd_st2 (by assumption) | exact kd_ls (by first | assumption | rfl) (by assumption) | exact kd_sb (by first | assumption | rfl) (by assumption) | exact kd_sv (by assumption)) qf_X7_7 dX7_measure_18 ?_
  refine j_iload C dX7_measure_21 rfl ?_
  refine j_iconst (v := (nI 3)) C dX7_measure_23 (by decide) ?_
  refine j_iaddN C dX7_measure_24 ?_
  refine j_ialdN C (by first | assumption | rfl | exact kd_sums (by assumption) | exact kd_st1 (by assumption) | exact kd_st2 (by assumption) | exact kd_ls (by first | assumption | rfl) (by assumption) | exact kd_sb (by first | assumption | rfl) (by assumption) | exact kd_sv (by assumption)) rfl rfl (by omega) dX7_measure_25 ?_
  refine j_isub C dX7_measure_26 ?_
  refine j_ist7 C dX7_measure_27 (Nat.le_of_ble_eq_true rfl) rfl ?_
  refine j_aload_n C dX7_measure_29 rfl rfl ?_
  refine jg_LeaseBookModel_z C (by first | assumption | rfl | exact kd_sums (by assumption) | exact kd_st1 (by assumption) | exact kd_st2 (by assumption) | exact kd_ls (by first | assumption | rfl) (by assumption) | exact kd_sb (by first | assumption | rfl) (by assumption) | exact kd_sv (by assumption)) qf_X7_7 dX7_measure_30 ?_
  refine j_iload C dX7_measure_33 rfl ?_
  refine j_iconst (v := (nI 4)) C dX7_measure_35 (by decide) ?_
  refine j_iaddN C dX7_measure_36 ?_
  refine j_ialdN C (by first | assumption | rfl | exact kd_sums (by assumption) | exact kd_st1 (by assumption) | exact kd_st2 (by assumption) | exact kd_ls (by first | assumption | rfl) (by assumption) | exact kd_sb (by first | assumption | rfl) (by assumption) | exact kd_sv (by assumption)) rfl rfl (by omega) dX7_measure_37 ?_
  refine j_iload C dX7_measure_38 rfl ?_
  refine j_iadd C dX7_measure_40 ?_
  refine j_if_ge (tgt := 48) C dX7_measure_41 (by decide) (fun h41 => ?_) (fun h41 => ?_)
  · refine j_aload_n C dX7_measure_48 rfl rfl ?_
    refine jg_LeaseBookModel_z C (by first | assumption | rfl | exact kd_sums (by assumption) | exact kd_st1 (by assumption) | exact kd_st2 (by assumption) | exact kd_ls (by first | assumption | rfl) (by assumption) | exact kd_sb (by first | assumption | rfl) (by assumption) | exact kd_sv (by assumption)) qf_X7_7 dX7_measure_49 ?_
    refine j_iload C dX7_measure_52 rfl ?_
    refine j_iconst (v := (nI 4)) C dX7_measure_54 (by decide) ?_
    refine j_iaddN C dX7_measure_55 ?_
    refine j_ialdN C (by first | assumption | rfl | exact kd_sums (by assumption) | exact kd_st1 (by assumption) | exact kd_st2 (by assumption) | exact kd_ls (by first | assumption | rfl) (by assumption) | exact kd_sb (by first | assumption | rfl) (by assumption) | exact kd_sv (by assumption)) rfl rfl (by omega) dX7_measure_56 ?_
    refine j_iload C dX7_measure_57 rfl ?_
    refine j_iadd C dX7_measure_59 ?_
    refine j_tope (y := rAs k (wor p1 n r) V) (by first | exact rAs_lt (by first | assumption | exact Int32.not_le.mp (by assumption)) | exact rAs_ge (by first | assumption | exact Int32.not_lt.mpr (by assumption))) ?_
    refine j_ist8 C dX7_measure_60 (Nat.le_of_ble_eq_true rfl) rfl ?_
    refine j_aload_n C dX7_measure_62 rfl rfl ?_
    refine j_iload_n C dX7_measure_63 rfl rfl ?_
    refine j_iconst (v := (nI 3)) C dX7_measure_64 (by decide) ?_
    refine j_iload C dX7_measure_65 rfl ?_
    refine j_callV3v C (oa_X7 (by first | assumption | rfl | exact kd_sums (by assumption) | exact kd_st1 (by assumption) | exact kd_st2 (by assumption) | exact kd_ls (by first | assumption | rfl) (by assumption) | exact kd_sb (by first | assumption | rfl) (by assumption) | exact kd_sv (by assumption))) rfl rfl (c_X7_move hk (by omega)) qm_X7_53 qi_X7_move qs_X7_move qn_X7 qc_X7_move fit_X7_move ⟨Nat.le_of_ble_eq_true rfl, Nat.le_of_ble_eq_true rfl, Nat.le_of_ble_eq_true rfl, Nat.le_of_ble_eq_true rfl⟩ (Nat.le_of_ble_eq_true rfl) dX7_measure_67 ?_
    refine j_aload_n C dX7_measure_70 rfl rfl ?_
    refine j_iload_n C dX7_measure_71 rfl rfl ?_
    refine j_bipush (v := (nI 7)) C dX7_measure_72 (by decide) ?_
    refine j_iload C dX7_measure_74 rfl ?_
    refine j_aload_n C dX7_measure_76 rfl rfl ?_
    refine jg_LeaseBookModel_z C (by first | assumption | rfl | exact kd_sums (by assumption) | exact kd_st1 (by assumption) | exact kd_st2 (by assumption) | exact kd_ls (by first | assumption | rfl) (by assumption) | exact kd_sb (by first | assumption | rfl) (by assumption) | exact kd_sv (by assumption)) qf_X7_7 dX7_measure_77 ?_
    refine j_iload C dX7_measure_80 rfl ?_
    refine j_iconst (v := (nI 4)) C dX7_measure_82 (by decide) ?_
    refine j_iaddN C dX7_measure_83 ?_
    refine j_ialdN C (by first | assumption | rfl | exact kd_sums (by assumption) | exact kd_st1 (by assumption) | exact kd_st2 (by assumption) | exact kd_ls (by first | assumption | rfl) (by assumption) | exact kd_sb (by first | assumption | rfl) (by assumption) | exact kd_sv (by assumption)) rfl rfl (by omega) dX7_measure_84 ?_
    refine j_isub C dX7_measure_85 ?_
    refine j_callV3v C (oa_X7 (by first | assumption | rfl | exact kd_sums (by assumption) | exact kd_st1 (by assumption) | exact kd_st2 (by assumption) | exact kd_ls (by first | assumption | rfl) (by assumption) | exact kd_sb (by first | assumption | rfl) (by assumption) | exact kd_sv (by assumption))) rfl rfl (c_X7_move hk (by omega)) qm_X7_53 qi_X7_move qs_X7_move qn_X7 qc_X7_move fit_X7_move ⟨Nat.le_of_ble_eq_true rfl, Nat.le_of_ble_eq_true rfl, Nat.le_of_ble_eq_true rfl, Nat.le_of_ble_eq_true rfl⟩ (Nat.le_of_ble_eq_true rfl) dX7_measure_86 ?_
    refine j_aload_n C dX7_measure_89 rfl rfl ?_
    refine jg_LeaseBookModel_z C (by first | assumption | rfl | exact kd_sums (by assumption) | exact kd_st1 (by assumption) | exact kd_st2 (by assumption) | exact kd_ls (by first | assumption | rfl) (by assumption) | exact kd_sb (by first | assumption | rfl) (by assumption) | exact kd_sv (by assumption)) qf_X7_7 dX7_measure_90 ?_
    refine j_iload C dX7_measure_93 rfl ?_
    refine j_iload_n C dX7_measure_95 rfl rfl ?_
    refine j_iastN C (by first | assumption | rfl | exact kd_sums (by assumption) | exact kd_st1 (by assumption) | exact kd_st2 (by assumption) | exact kd_ls (by first | assumption | rfl) (by assumption) | exact kd_sb (by first | assumption | rfl) (by assumption) | exact kd_sv (by assumption)) rfl rfl (by omega) dX7_measure_96 ?_
    refine j_aload_n C dX7_measure_97 rfl rfl ?_
    refine jg_LeaseBookModel_z C (by first | assumption | rfl | exact kd_sums (by assumption) | exact kd_st1 (by assumption) | exact kd_st2 (by assumption) | exact kd_ls (by first | assumption | rfl) (by assumption) | exact kd_sb (by first | assumption | rfl) (by assumption) | exact kd_sv (by assumption)) qf_X7_7 dX7_measure_98 ?_
    refine j_iload C dX7_measure_101 rfl ?_
    refine j_iconst (v := (nI 1)) C dX7_measure_103 (by decide) ?_
    refine j_iaddN C dX7_measure_104 ?_
    refine j_iload_n C dX7_measure_105 rfl rfl ?_
    refine j_iastN C (by first | assumption | rfl | exact kd_sums (by assumption) | exact kd_st1 (by assumption) | exact kd_st2 (by assumption) | exact kd_ls (by first | assumption | rfl) (by assumption) | exact kd_sb (by first | assumption | rfl) (by assumption) | exact kd_sv (by assumption)) rfl rfl (by omega) dX7_measure_106 ?_
    refine j_aload_n C dX7_measure_107 rfl rfl ?_
    refine jg_LeaseBookModel_z C (by first | assumption | rfl | exact kd_sums (by assumption) | exact kd_st1 (by assumption) | exact kd_st2 (by assumption) | exact kd_ls (by first | assumption | rfl) (by assumption) | exact kd_sb (by first | assumption | rfl) (by assumption) | exact kd_sv (by assumption)) qf_X7_7 dX7_measure_108 ?_
    refine j_iload C dX7_measure_111 rfl ?_
    refine j_iconst (v := (nI 2)) C dX7_measure_113 (by decide) ?_
    refine j_iaddN C dX7_measure_114 ?_
    refine j_iload C dX7_measure_115 rfl ?_
    refine j_iastN C (by first | assumption | rfl | exact kd_sums (by assumption) | exact kd_st1 (by assumption) | exact kd_st2 (by assumption) | exact kd_ls (by first | assumption | rfl) (by assumption) | exact kd_sb (by first | assumption | rfl) (by assumption) | exact kd_sv (by assumption)) rfl rfl (by omega) dX7_measure_117 ?_
    refine j_aload_n C dX7_measure_118 rfl rfl ?_
    refine jg_LeaseBookModel_z C (by first | assumption | rfl | exact kd_sums (by assumption) | exact kd_st1 (by assumption) | exact kd_st2 (by assumption) | exact kd_ls (by first | assumption | rfl) (by assumption) | exact kd_sb (by first | assumption | rfl) (by assumption) | exact kd_sv (by assumption)) qf_X7_7 dX7_measure_119 ?_
    refine j_iload C dX7_measure_122 rfl ?_
    refine j_iconst (v := (nI 3)) C dX7_measure_124 (by decide) ?_
    refine j_iaddN C dX7_measure_125 ?_
    refine j_iload C dX7_measure_126 rfl ?_
    refine j_iastN C (by first | assumption | rfl | exact kd_sums (by assumption) | exact kd_st1 (by assumption) | exact kd_st2 (by assumption) | exact kd_ls (by first | assumption | rfl) (by assumption) | exact kd_sb (by first | assumption | rfl) (by assumption) | exact kd_sv (by assumption)) rfl rfl (by omega) dX7_measure_128 ?_
    refine j_aload_n C dX7_measure_129 rfl rfl ?_
    refine jg_LeaseBookModel_z C (by first | assumption | rfl | exact kd_sums (by assumption) | exact kd_st1 (by assumption) | exact kd_st2 (by assumption) | exact kd_ls (by first | assumption | rfl) (by assumption) | exact kd_sb (by first | assumption | rfl) (by assumption) | exact kd_sv (by assumption)) qf_X7_7 dX7_measure_130 ?_
    refine j_iload C dX7_measure_133 rfl ?_
    refine j_iconst (v := (nI 4)) C dX7_measure_135 (by decide) ?_
    refine j_iaddN C dX7_measure_136 ?_
    refine j_iload C dX7_measure_137 rfl ?_
    refine j_iastN C (by first | assumption | rfl | exact kd_sums (by assumption) | exact kd_st1 (by assumption) | exact kd_st2 (by assumption) | exact kd_ls (by first | assumption | rfl) (by assumption) | exact kd_sb (by first | assumption | rfl) (by assumption) | exact kd_sv (by assumption)) rfl rfl (by omega) dX7_measure_139 ?_
    refine j_aload_n C dX7_measure_140 rfl rfl ?_
    refine j_iload_n C dX7_measure_141 rfl rfl ?_
    refine j_iload_n C dX7_measure_142 rfl rfl ?_
    refine j_callV2v C (oa_X7 (by first | assumption | rfl | exact kd_sums (by assumption) | exact kd_st1 (by assumption) | exact kd_st2 (by assumption) | exact kd_ls (by first | assumption | rfl) (by assumption) | exact kd_sb (by first | assumption | rfl) (by assumption) | exact kd_sv (by assumption))) rfl rfl (c_X7_cutOff hk (hR.measA (p := p1) (n := n) (as' := rAs k (wor p1 n r) V) hk hr)) qm_X7_80 qi_X7_cutOff qs_X7_cutOff qn_X7 qc_X7_cutOff fit_X7_cutOff ⟨Nat.le_of_ble_eq_true rfl, Nat.le_of_ble_eq_true rfl, Nat.le_of_ble_eq_true rfl, Nat.le_of_ble_eq_true rfl⟩ (Nat.le_of_ble_eq_true rfl) dX7_measure_143 ?_
    exact j_vret C dX7_measure_146 rfl (by rfl) (by rfl)
  · refine j_iconst (v := (nI 0)) C dX7_measure_44 (by decide) ?_
    refine j_goto (tgt := 60) C dX7_measure_45 (by decide) ?_
    refine j_tope (y := rAs k (wor p1 n r) V) (by first | exact rAs_lt (by first | assumption | exact Int32.not_le.mp (by assumption)) | exact rAs_ge (by first | assumption | exact Int32.not_lt.mpr (by assumption))) ?_
    refine j_ist8 C dX7_measure_60 (Nat.le_of_ble_eq_true rfl) rfl ?_
    refine j_aload_n C dX7_measure_62 rfl rfl ?_
    refine j_iload_n C dX7_measure_63 rfl rfl ?_
    refine j_iconst (v := (nI 3)) C dX7_measure_64 (by decide) ?_
    refine j_iload C dX7_measure_65 rfl ?_
    refine j_callV3v C (oa_X7 (by first | assumption | rfl | exact kd_sums (by assumption) | exact kd_st1 (by assumption) | exact kd_st2 (by assumption) | exact kd_ls (by first | assumption | rfl) (by assumption) | exact kd_sb (by first | assumption | rfl) (by assumption) | exact kd_sv (by assumption))) rfl rfl (c_X7_move hk (by omega)) qm_X7_53 qi_X7_move qs_X7_move qn_X7 qc_X7_move fit_X7_move ⟨Nat.le_of_ble_eq_true rfl, Nat.le_of_ble_eq_true rfl, Nat.le_of_ble_eq_true rfl, Nat.le_of_ble_eq_true rfl⟩ (Nat.le_of_ble_eq_true rfl) dX7_measure_67 ?_
    refine j_aload_n C dX7_measure_70 rfl rfl ?_
    refine j_iload_n C dX7_measure_71 rfl rfl ?_
    refine j_bipush (v := (nI 7)) C dX7_measure_72 (by decide) ?_
    refine j_iload C dX7_measure_74 rfl ?_
    refine j_aload_n C dX7_measure_76 rfl rfl ?_
    refine jg_LeaseBookModel_z C (by first | assumption | rfl | exact kd_sums (by assumption) | exact kd_st1 (by assumption) | exact kd_st2 (by assumption) | exact kd_ls (by first | assumption | rfl) (by assumption) | exact kd_sb (by first | assumption | rfl) (by assumption) | exact kd_sv (by assumption)) qf_X7_7 dX7_measure_77 ?_
    refine j_iload C dX7_measure_80 rfl ?_
    refine j_iconst (v := (nI 4)) C dX7_measure_82 (by decide) ?_
    refine j_iaddN C dX7_measure_83 ?_
    refine j_ialdN C (by first | assumption | rfl | exact kd_sums (by assumption) | exact kd_st1 (by assumption) | exact kd_st2 (by assumption) | exact kd_ls (by first | assumption | rfl) (by assumption) | exact kd_sb (by first | assumption | rfl) (by assumption) | exact kd_sv (by assumption)) rfl rfl (by omega) dX7_measure_84 ?_
    refine j_isub C dX7_measure_85 ?_
    refine j_callV3v C (oa_X7 (by first | assumption | rfl | exact kd_sums (by assumption) | exact kd_st1 (by assumption) | exact kd_st2 (by assumption) | exact kd_ls (by first | assumption | rfl) (by assumption) | exact kd_sb (by first | assumption | rfl) (by assumption) | exact kd_sv (by assumption))) rfl rfl (c_X7_move hk (by omega)) qm_X7_53 qi_X7_move qs_X7_move qn_X7 qc_X7_move fit_X7_move ⟨Nat.le_of_ble_eq_true rfl, Nat.le_of_ble_eq_true rfl, Nat.le_of_ble_eq_true rfl, Nat.le_of_ble_eq_true rfl⟩ (Nat.le_of_ble_eq_true rfl) dX7_measure_86 ?_
    refine j_aload_n C dX7_measure_89 rfl rfl ?_
    refine jg_LeaseBookModel_z C (by first | assumption | rfl | exact kd_sums (by assumption) | exact kd_st1 (by assumption) | exact kd_st2 (by assumption) | exact kd_ls (by first | assumption | rfl) (by assumption) | exact kd_sb (by first | assumption | rfl) (by assumption) | exact kd_sv (by assumption)) qf_X7_7 dX7_measure_90 ?_
    refine j_iload C dX7_measure_93 rfl ?_
    refine j_iload_n C dX7_measure_95 rfl rfl ?_
    refine j_iastN C (by first | assumption | rfl | exact kd_sums (by assumption) | exact kd_st1 (by assumption) | exact kd_st2 (by assumption) | exact kd_ls (by first | assumption | rfl) (by assumption) | exact kd_sb (by first | assumption | rfl) (by assumption) | exact kd_sv (by assumption)) rfl rfl (by omega) dX7_measure_96 ?_
    refine j_aload_n C dX7_measure_97 rfl rfl ?_
    refine jg_LeaseBookModel_z C (by first | assumption | rfl | exact kd_sums (by assumption) | exact kd_st1 (by assumption) | exact kd_st2 (by assumption) | exact kd_ls (by first | assumption | rfl) (by assumption) | exact kd_sb (by first | assumption | rfl) (by assumption) | exact kd_sv (by assumption)) qf_X7_7 dX7_measure_98 ?_
    refine j_iload C dX7_measure_101 rfl ?_
    refine j_iconst (v := (nI 1)) C dX7_measure_103 (by decide) ?_
    refine j_iaddN C dX7_measure_104 ?_
    refine j_iload_n C dX7_measure_105 rfl rfl ?_
    refine j_iastN C (by first | assumption | rfl | exact kd_sums (by assumption) | exact kd_st1 (by assumption) | exact kd_st2 (by assumption) | exact kd_ls (by first | assumption | rfl) (by assumption) | exact kd_sb (by first | assumption | rfl) (by assumption) | exact kd_sv (by assumption)) rfl rfl (by omega) dX7_measure_106 ?_
    refine j_aload_n C dX7_measure_107 rfl rfl ?_
    refine jg_LeaseBookModel_z C (by first | assumption | rfl | exact kd_sums (by assumption) | exact kd_st1 (by assumption) | exact kd_st2 (by assumption) | exact kd_ls (by first | assumption | rfl) (by assumption) | exact kd_sb (by first | assumption | rfl) (by assumption) | exact kd_sv (by assumption)) qf_X7_7 dX7_measure_108 ?_
    refine j_iload C dX7_measure_111 rfl ?_
    refine j_iconst (v := (nI 2)) C dX7_measure_113 (by decide) ?_
    refine j_iaddN C dX7_measure_114 ?_
    refine j_iload C dX7_measure_115 rfl ?_
    refine j_iastN C (by first | assumption | rfl | exact kd_sums (by assumption) | exact kd_st1 (by assumption) | exact kd_st2 (by assumption) | exact kd_ls (by first | assumption | rfl) (by assumption) | exact kd_sb (by first | assumption | rfl) (by assumption) | exact kd_sv (by assumption)) rfl rfl (by omega) dX7_measure_117 ?_
    refine j_aload_n C dX7_measure_118 rfl rfl ?_
    refine jg_LeaseBookModel_z C (by first | assumption | rfl | exact kd_sums (by assumption) | exact kd_st1 (by assumption) | exact kd_st2 (by assumption) | exact kd_ls (by first | assumption | rfl) (by assumption) | exact kd_sb (by first | assumption | rfl) (by assumption) | exact kd_sv (by assumption)) qf_X7_7 dX7_measure_119 ?_
    refine j_iload C dX7_measure_122 rfl ?_
    refine j_iconst (v := (nI 3)) C dX7_measure_124 (by decide) ?_
    refine j_iaddN C dX7_measure_125 ?_
    refine j_iload C dX7_measure_126 rfl ?_
    refine j_iastN C (by first | assumption | rfl | exact kd_sums (by assumption) | exact kd_st1 (by assumption) | exact kd_st2 (by assumption) | exact kd_ls (by first | assumption | rfl) (by assumption) | exact kd_sb (by first | assumption | rfl) (by assumption) | exact kd_sv (by assumption)) rfl rfl (by omega) dX7_measure_128 ?_
    refine j_aload_n C dX7_measure_129 rfl rfl ?_
    refine jg_LeaseBookModel_z C (by first | assumption | rfl | exact kd_sums (by assumption) | exact kd_st1 (by assumption) | exact kd_st2 (by assumption) | exact kd_ls (by first | assumption | rfl) (by assumption) | exact kd_sb (by first | assumption | rfl) (by assumption) | exact kd_sv (by assumption)) qf_X7_7 dX7_measure_130 ?_
    refine j_iload C dX7_measure_133 rfl ?_
    refine j_iconst (v := (nI 4)) C dX7_measure_135 (by decide) ?_
    refine j_iaddN C dX7_measure_136 ?_
    refine j_iload C dX7_measure_137 rfl ?_
    refine j_iastN C (by first | assumption | rfl | exact kd_sums (by assumption) | exact kd_st1 (by assumption) | exact kd_st2 (by assumption) | exact kd_ls (by first | assumption | rfl) (by assumption) | exact kd_sb (by first | assumption | rfl) (by assumption) | exact kd_sv (by assumption)) rfl rfl (by omega) dX7_measure_139 ?_
    refine j_aload_n C dX7_measure_140 rfl rfl ?_
    refine j_iload_n C dX7_measure_141 rfl rfl ?_
    refine j_iload_n C dX7_measure_142 rfl rfl ?_
    refine j_callV2v C (oa_X7 (by first | assumption | rfl | exact kd_sums (by assumption) | exact kd_st1 (by assumption) | exact kd_st2 (by assumption) | exact kd_ls (by first | assumption | rfl) (by assumption) | exact kd_sb (by first | assumption | rfl) (by assumption) | exact kd_sv (by assumption))) rfl rfl (c_X7_cutOff hk (hR.measA (p := p1) (n := n) (as' := rAs k (wor p1 n r) V) hk hr)) qm_X7_80 qi_X7_cutOff qs_X7_cutOff qn_X7 qc_X7_cutOff fit_X7_cutOff ⟨Nat.le_of_ble_eq_true rfl, Nat.le_of_ble_eq_true rfl, Nat.le_of_ble_eq_true rfl, Nat.le_of_ble_eq_true rfl⟩ (Nat.le_of_ble_eq_true rfl) dX7_measure_143 ?_
    exact j_vret C dX7_measure_146 rfl (by rfl) (by rfl)
set_option maxHeartbeats 4000000 in
theorem lp_X7_ofSubs {p : Program} {l : Launch} {e : Env} {s : State} {m : MethodId} {args : Array Value} {below : List Frame} {meth : Method} {c : Code} {g : GC} {Q : State → Prop} {V : Mem} {L : LMem} {k nl ns : Nat} {w : Int32} (C : Cx p s args m meth c cX7_ofSubs 7 yX7_ofSubs.cls (some .int) g) (hk : k < 8) (hR : RR nl ns V) (kx : J p l e (RM 1) s m args below meth c 7 g 0 0 Q V L 107 [some (.ref (ad g 224)), some (.int (nI k)), some (.int w), some (.int (rSubs V k w (ns))), some (.int (nI (ns))), none, none] []) : ∀ j i : Nat, i + j = ns → J p l e (RM 1) s m args below meth c 7 g 0 0 Q V L 5 [some (.ref (ad g 224)), some (.int (nI k)), some (.int w), some (.int (rSubs V k w i)), some (.int (nI i)), none, none] [] := by
  intro j
  induction j with
  | zero =>
    intro i hi
    have hi : ns = i := by omega
    subst hi
    refine j_iload C dX7_ofSubs_5 rfl ?_
    refine j_aload_n C dX7_ofSubs_7 rfl rfl ?_
    refine jg_LeaseBookModel_z C (by first | assumption | rfl | exact kd_sums (by assumption) | exact kd_st1 (by assumption) | exact kd_st2 (by assumption) | exact kd_ls (by first | assumption | rfl) (by assumption) | exact kd_sb (by first | assumption | rfl) (by assumption) | exact kd_sv (by assumption)) qf_X7_7 dX7_ofSubs_8 ?_
    refine j_iconst (v := (nI 1)) C dX7_ofSubs_11 (by decide) ?_
    refine j_ialdN C (by first | assumption | rfl | exact kd_sums (by assumption) | exact kd_st1 (by assumption) | exact kd_st2 (by assumption) | exact kd_ls (by first | assumption | rfl) (by assumption) | exact kd_sb (by first | assumption | rfl) (by assumption) | exact kd_sv (by assumption)) rfl rfl (by omega) dX7_ofSubs_12 ?_
    refine j_tope (y := nI ns) (by exact hR.2.2.2.1) ?_
    refine j_icmp_ge (tgt := 107) C dX7_ofSubs_13 (by decide) (fun h13 => ?_) (fun h13 => absurd (nI_le (by omega) (by have := hR.2.1; omega)) h13)
    exact kx
  | succ j ih =>
    intro i hi
    have h12 := hR.2.1
    refine j_iload C dX7_ofSubs_5 rfl ?_
    refine j_aload_n C dX7_ofSubs_7 rfl rfl ?_
    refine jg_LeaseBookModel_z C (by first | assumption | rfl | exact kd_sums (by assumption) | exact kd_st1 (by assumption) | exact kd_st2 (by assumption) | exact kd_ls (by first | assumption | rfl) (by assumption) | exact kd_sb (by first | assumption | rfl) (by assumption) | exact kd_sv (by assumption)) qf_X7_7 dX7_ofSubs_8 ?_
    refine j_iconst (v := (nI 1)) C dX7_ofSubs_11 (by decide) ?_
    refine j_ialdN C (by first | assumption | rfl | exact kd_sums (by assumption) | exact kd_st1 (by assumption) | exact kd_st2 (by assumption) | exact kd_ls (by first | assumption | rfl) (by assumption) | exact kd_sb (by first | assumption | rfl) (by assumption) | exact kd_sv (by assumption)) rfl rfl (by omega) dX7_ofSubs_12 ?_
    refine j_tope (y := nI ns) (by exact hR.2.2.2.1) ?_
    refine j_icmp_ge (tgt := 107) C dX7_ofSubs_13 (by decide) (fun h13 => absurd h13 (nI_ge (by omega) (by omega))) (fun h13 => ?_)
    refine j_iload C dX7_ofSubs_16 rfl ?_
    refine j_callS1r C (c_X7_sub) qm_X7_77 qt_X7_sub qn_X7 qc_X7_sub fit_X7_sub ⟨Nat.le_of_ble_eq_true rfl, Nat.le_of_ble_eq_true rfl, Nat.le_of_ble_eq_true rfl, Nat.le_of_ble_eq_true rfl⟩ (Nat.le_of_ble_eq_true rfl) dX7_ofSubs_18 ?_
    refine j_ist5 C dX7_ofSubs_21 (Nat.le_of_ble_eq_true rfl) rfl ?_
    refine j_aload_n C dX7_ofSubs_23 rfl rfl ?_
    refine jg_LeaseBookModel_z C (by first | assumption | rfl | exact kd_sums (by assumption) | exact kd_st1 (by assumption) | exact kd_st2 (by assumption) | exact kd_ls (by first | assumption | rfl) (by assumption) | exact kd_sb (by first | assumption | rfl) (by assumption) | exact kd_sv (by assumption)) qf_X7_7 dX7_ofSubs_24 ?_
    refine j_iload C dX7_ofSubs_27 rfl ?_
    refine j_iconst (v := (nI 3)) C dX7_ofSubs_29 (by decide) ?_
    refine j_iaddN C dX7_ofSubs_30 ?_
    refine j_ialdN C (by first | assumption | rfl | exact kd_sums (by assumption) | exact kd_st1 (by assumption) | exact kd_st2 (by assumption) | exact kd_ls (by first | assumption | rfl) (by assumption) | exact kd_sb (by first | assumption | rfl) (by assumption) | exact kd_sv (by assumption)) rfl rfl (by omega) dX7_ofSubs_31 ?_
    refine j_if_le (tgt := 39) C dX7_ofSubs_32 (by decide) (fun h32 => ?_) (fun h32 => ?_)
    · refine j_iconst (v := (nI 0)) C dX7_ofSubs_39 (by decide) ?_
      refine j_ist6 C dX7_ofSubs_40 (Nat.le_of_ble_eq_true rfl) rfl ?_
      refine j_aload_n C dX7_ofSubs_42 rfl rfl ?_
      refine jg_LeaseBookModel_z C (by first | assumption | rfl | exact kd_sums (by assumption) | exact kd_st1 (by assumption) | exact kd_st2 (by assumption) | exact kd_ls (by first | assumption | rfl) (by assumption) | exact kd_sb (by first | assumption | rfl) (by assumption) | exact kd_sv (by assumption)) qf_X7_7 dX7_ofSubs_43 ?_
      refine j_iload C dX7_ofSubs_46 rfl ?_
      refine j_ialdN C (by first | assumption | rfl | exact kd_sums (by assumption) | exact kd_st1 (by assumption) | exact kd_st2 (by assumption) | exact kd_ls (by first | assumption | rfl) (by assumption) | exact kd_sb (by first | assumption | rfl) (by assumption) | exact kd_sv (by assumption)) rfl rfl (by omega) dX7_ofSubs_48 ?_
      refine j_iload_n C dX7_ofSubs_49 rfl rfl ?_
      refine j_icmp_ne (tgt := 101) C dX7_ofSubs_50 (by decide) (fun h50 => ?_) (fun h50 => ?_)
      · refine j_incN4 (q := 1) C dX7_ofSubs_101 (by decide) (Nat.le_of_ble_eq_true rfl) rfl ?_
        refine j_goto (tgt := 5) C dX7_ofSubs_104 (by decide) ?_
        refine j_mem (V' := V) (L' := L) (by rfl) rfl ?_
        exact j_dr (lv' := [some (.ref (ad g 224)), some (.int (nI k)), some (.int w), some (.int (rSubs V k w (i + 1))), some (.int (nI (i + 1))), none, none]) (And.intro rfl (And.intro rfl (And.intro rfl (And.intro (by simp only [rSubs]; first | (simp [*]; done) | (simp [*]; intro q; exact absurd q (by decide))) (And.intro rfl True.intro))))) (ih (i + 1) (by omega))
      · refine j_iload_n C dX7_ofSubs_53 rfl rfl ?_
        refine j_iload_n C dX7_ofSubs_54 rfl rfl ?_
        refine j_iconst (v := (nI 5)) C dX7_ofSubs_55 (by decide) ?_
        refine j_icmp_ne (tgt := 71) C dX7_ofSubs_56 (by decide) (fun h56 => ?_) (fun h56 => ?_)
        · refine j_iload C dX7_ofSubs_71 rfl ?_
          refine j_if_ne (tgt := 80) C dX7_ofSubs_73 (by decide) (fun h73 => (by exact absurd h73 (by decide))) (fun h73 => ?_)
          refine j_iconst (v := (nI 0)) C dX7_ofSubs_76 (by decide) ?_
          refine j_goto (tgt := 99) C dX7_ofSubs_77 (by decide) ?_
          refine j_iadd C dX7_ofSubs_99 ?_
          refine j_ist3 C dX7_ofSubs_100 rfl (Nat.le_of_ble_eq_true rfl) rfl ?_
          refine j_incN4 (q := 1) C dX7_ofSubs_101 (by decide) (Nat.le_of_ble_eq_true rfl) rfl ?_
          refine j_goto (tgt := 5) C dX7_ofSubs_104 (by decide) ?_
          refine j_mem (V' := V) (L' := L) (by rfl) rfl ?_
          exact j_dr (lv' := [some (.ref (ad g 224)), some (.int (nI k)), some (.int w), some (.int (rSubs V k w (i + 1))), some (.int (nI (i + 1))), none, none]) (And.intro rfl (And.intro rfl (And.intro rfl (And.intro (by simp only [rSubs]; first | (simp [*]; done) | (simp [*]; intro q; exact absurd q (by decide))) (And.intro rfl True.intro))))) (ih (i + 1) (by omega))
        · refine j_aload_n C dX7_ofSubs_59 rfl rfl ?_
          refine jg_LeaseBookModel_z C (by first | assumption | rfl | exact kd_sums (by assumption) | exact kd_st1 (by assumption) | exact kd_st2 (by assumption) | exact kd_ls (by first | assumption | rfl) (by assumption) | exact kd_sb (by first | assumption | rfl) (by assumption) | exact kd_sv (by assumption)) qf_X7_7 dX7_ofSubs_60 ?_
          refine j_iload C dX7_ofSubs_63 rfl ?_
          refine j_iconst (v := (nI 5)) C dX7_ofSubs_65 (by decide) ?_
          refine j_iaddN C dX7_ofSubs_66 ?_
          refine j_ialdN C (by first | assumption | rfl | exact kd_sums (by assumption) | exact kd_st1 (by assumption) | exact kd_st2 (by assumption) | exact kd_ls (by first | assumption | rfl) (by assumption) | exact kd_sb (by first | assumption | rfl) (by assumption) | exact kd_sv (by assumption)) rfl rfl (by omega) dX7_ofSubs_67 ?_
          refine j_goto (tgt := 99) C dX7_ofSubs_68 (by decide) ?_
          refine j_iadd C dX7_ofSubs_99 ?_
          refine j_ist3 C dX7_ofSubs_100 rfl (Nat.le_of_ble_eq_true rfl) rfl ?_
          refine j_incN4 (q := 1) C dX7_ofSubs_101 (by decide) (Nat.le_of_ble_eq_true rfl) rfl ?_
          refine j_goto (tgt := 5) C dX7_ofSubs_104 (by decide) ?_
          refine j_mem (V' := V) (L' := L) (by rfl) rfl ?_
          exact j_dr (lv' := [some (.ref (ad g 224)), some (.int (nI k)), some (.int w), some (.int (rSubs V k w (i + 1))), some (.int (nI (i + 1))), none, none]) (And.intro rfl (And.intro rfl (And.intro rfl (And.intro (by simp only [rSubs]; first | (simp [*]; done) | (simp [*]; intro q; exact absurd q (by decide))) (And.intro rfl True.intro))))) (ih (i + 1) (by omega))
    · refine j_iconst (v := (nI 1)) C dX7_ofSubs_35 (by decide) ?_
      refine j_goto (tgt := 40) C dX7_ofSubs_36 (by decide) ?_
      refine j_ist6 C dX7_ofSubs_40 (Nat.le_of_ble_eq_true rfl) rfl ?_
      refine j_aload_n C dX7_ofSubs_42 rfl rfl ?_
      refine jg_LeaseBookModel_z C (by first | assumption | rfl | exact kd_sums (by assumption) | exact kd_st1 (by assumption) | exact kd_st2 (by assumption) | exact kd_ls (by first | assumption | rfl) (by assumption) | exact kd_sb (by first | assumption | rfl) (by assumption) | exact kd_sv (by assumption)) qf_X7_7 dX7_ofSubs_43 ?_
      refine j_iload C dX7_ofSubs_46 rfl ?_
      refine j_ialdN C (by first | assumption | rfl | exact kd_sums (by assumption) | exact kd_st1 (by assumption) | exact kd_st2 (by assumption) | exact kd_ls (by first | assumption | rfl) (by assumption) | exact kd_sb (by first | assumption | rfl) (by assumption) | exact kd_sv (by assumption)) rfl rfl (by omega) dX7_ofSubs_48 ?_
      refine j_iload_n C dX7_ofSubs_49 rfl rfl ?_
      refine j_icmp_ne (tgt := 101) C dX7_ofSubs_50 (by decide) (fun h50 => ?_) (fun h50 => ?_)
      · refine j_incN4 (q := 1) C dX7_ofSubs_101 (by decide) (Nat.le_of_ble_eq_true rfl) rfl ?_
        refine j_goto (tgt := 5) C dX7_ofSubs_104 (by decide) ?_
        refine j_mem (V' := V) (L' := L) (by rfl) rfl ?_
        exact j_dr (lv' := [some (.ref (ad g 224)), some (.int (nI k)), some (.int w), some (.int (rSubs V k w (i + 1))), some (.int (nI (i + 1))), none, none]) (And.intro rfl (And.intro rfl (And.intro rfl (And.intro (by simp only [rSubs]; first | (simp [*]; done) | (simp [*]; intro q; exact absurd q (by decide))) (And.intro rfl True.intro))))) (ih (i + 1) (by omega))
      · refine j_iload_n C dX7_ofSubs_53 rfl rfl ?_
        refine j_iload_n C dX7_ofSubs_54 rfl rfl ?_
        refine j_iconst (v := (nI 5)) C dX7_ofSubs_55 (by decide) ?_
        refine j_icmp_ne (tgt := 71) C dX7_ofSubs_56 (by decide) (fun h56 => ?_) (fun h56 => ?_)
        · refine j_iload C dX7_ofSubs_71 rfl ?_
          refine j_if_ne (tgt := 80) C dX7_ofSubs_73 (by decide) (fun h73 => ?_) (fun h73 => (by exact absurd h73 (by decide)))
          refine j_iload_n C dX7_ofSubs_80 rfl rfl ?_
          refine j_bipush (v := (nI 7)) C dX7_ofSubs_81 (by decide) ?_
          refine j_icmp_ne (tgt := 98) C dX7_ofSubs_83 (by decide) (fun h83 => ?_) (fun h83 => ?_)
          · refine j_iconst (v := (nI 1)) C dX7_ofSubs_98 (by decide) ?_
            refine j_iadd C dX7_ofSubs_99 ?_
            refine j_ist3 C dX7_ofSubs_100 rfl (Nat.le_of_ble_eq_true rfl) rfl ?_
            refine j_incN4 (q := 1) C dX7_ofSubs_101 (by decide) (Nat.le_of_ble_eq_true rfl) rfl ?_
            refine j_goto (tgt := 5) C dX7_ofSubs_104 (by decide) ?_
            refine j_mem (V' := V) (L' := L) (by rfl) rfl ?_
            exact j_dr (lv' := [some (.ref (ad g 224)), some (.int (nI k)), some (.int w), some (.int (rSubs V k w (i + 1))), some (.int (nI (i + 1))), none, none]) (And.intro rfl (And.intro rfl (And.intro rfl (And.intro (by simp only [rSubs]; first | (simp [*]; done) | (simp [*]; intro q; exact absurd q (by decide))) (And.intro rfl True.intro))))) (ih (i + 1) (by omega))
          · refine j_aload_n C dX7_ofSubs_86 rfl rfl ?_
            refine jg_LeaseBookModel_z C (by first | assumption | rfl | exact kd_sums (by assumption) | exact kd_st1 (by assumption) | exact kd_st2 (by assumption) | exact kd_ls (by first | assumption | rfl) (by assumption) | exact kd_sb (by first | assumption | rfl) (by assumption) | exact kd_sv (by assumption)) qf_X7_7 dX7_ofSubs_87 ?_
            refine j_iload C dX7_ofSubs_90 rfl ?_
            refine j_iconst (v := (nI 1)) C dX7_ofSubs_92 (by decide) ?_
            refine j_iaddN C dX7_ofSubs_93 ?_
            refine j_ialdN C (by first | assumption | rfl | exact kd_sums (by assumption) | exact kd_st1 (by assumption) | exact kd_st2 (by assumption) | exact kd_ls (by first | assumption | rfl) (by assumption) | exact kd_sb (by first | assumption | rfl) (by assumption) | exact kd_sv (by assumption)) rfl rfl (by omega) dX7_ofSubs_94 ?_
            refine j_goto (tgt := 99) C dX7_ofSubs_95 (by decide) ?_
            refine j_iadd C dX7_ofSubs_99 ?_
            refine j_ist3 C dX7_ofSubs_100 rfl (Nat.le_of_ble_eq_true rfl) rfl ?_
            refine j_incN4 (q := 1) C dX7_ofSubs_101 (by decide) (Nat.le_of_ble_eq_true rfl) rfl ?_
            refine j_goto (tgt := 5) C dX7_ofSubs_104 (by decide) ?_
            refine j_mem (V' := V) (L' := L) (by rfl) rfl ?_
            exact j_dr (lv' := [some (.ref (ad g 224)), some (.int (nI k)), some (.int w), some (.int (rSubs V k w (i + 1))), some (.int (nI (i + 1))), none, none]) (And.intro rfl (And.intro rfl (And.intro rfl (And.intro (by simp only [rSubs]; first | (simp [*]; done) | (simp [*]; intro q; exact absurd q (by decide))) (And.intro rfl True.intro))))) (ih (i + 1) (by omega))
        · refine j_aload_n C dX7_ofSubs_59 rfl rfl ?_
          refine jg_LeaseBookModel_z C (by first | assumption | rfl | exact kd_sums (by assumption) | exact kd_st1 (by assumption) | exact kd_st2 (by assumption) | exact kd_ls (by first | assumption | rfl) (by assumption) | exact kd_sb (by first | assumption | rfl) (by assumption) | exact kd_sv (by assumption)) qf_X7_7 dX7_ofSubs_60 ?_
          refine j_iload C dX7_ofSubs_63 rfl ?_
          refine j_iconst (v := (nI 5)) C dX7_ofSubs_65 (by decide) ?_
          refine j_iaddN C dX7_ofSubs_66 ?_
          refine j_ialdN C (by first | assumption | rfl | exact kd_sums (by assumption) | exact kd_st1 (by assumption) | exact kd_st2 (by assumption) | exact kd_ls (by first | assumption | rfl) (by assumption) | exact kd_sb (by first | assumption | rfl) (by assumption) | exact kd_sv (by assumption)) rfl rfl (by omega) dX7_ofSubs_67 ?_
          refine j_goto (tgt := 99) C dX7_ofSubs_68 (by decide) ?_
          refine j_iadd C dX7_ofSubs_99 ?_
          refine j_ist3 C dX7_ofSubs_100 rfl (Nat.le_of_ble_eq_true rfl) rfl ?_
          refine j_incN4 (q := 1) C dX7_ofSubs_101 (by decide) (Nat.le_of_ble_eq_true rfl) rfl ?_
          refine j_goto (tgt := 5) C dX7_ofSubs_104 (by decide) ?_
          refine j_mem (V' := V) (L' := L) (by rfl) rfl ?_
          exact j_dr (lv' := [some (.ref (ad g 224)), some (.int (nI k)), some (.int w), some (.int (rSubs V k w (i + 1))), some (.int (nI (i + 1))), none, none]) (And.intro rfl (And.intro rfl (And.intro rfl (And.intro (by simp only [rSubs]; first | (simp [*]; done) | (simp [*]; intro q; exact absurd q (by decide))) (And.intro rfl True.intro))))) (ih (i + 1) (by omega))
set_option maxHeartbeats 4000000 in
theorem c_X7_ofSubs {l : Launch} {g : GC} {V : Mem} {L : LMem} {k nl ns : Nat} {w : Int32} (hk : k < 8) (hR : RR nl ns V) : MC l yX7_ofSubs cX7_ofSubs 7 (some .int) 1 g V L [.ref (ad g 224), .int (nI k), .int w] (some (.int (rSubs V k w ns))) V L := by
  refine MC.of [some (.ref (ad g 224)), some (.int (nI k)), some (.int w), none, none, none, none] (by decide +kernel) rfl (Nat.le_of_ble_eq_true rfl) (fun p e s m args below meth c C => ?_)
  refine j_iconst (v := (nI 0)) C dX7_ofSubs_0 (by decide) ?_
  refine j_ist3 C dX7_ofSubs_1 rfl (Nat.le_of_ble_eq_true rfl) rfl ?_
  refine j_iconst (v := (nI 0)) C dX7_ofSubs_2 (by decide) ?_
  refine j_ist4 C dX7_ofSubs_3 (Nat.le_of_ble_eq_true rfl) rfl ?_
  refine lp_X7_ofSubs C hk hR ?_ ns 0 (by omega)
  refine j_iload_n C dX7_ofSubs_107 rfl rfl ?_
  exact j_iret C dX7_ofSubs_108 (by rfl) (by rfl) (by rfl)
set_option maxHeartbeats 4000000 in
theorem c_X7_maySublet {l : Launch} {g : GC} {V : Mem} {L : LMem} {k nl ns : Nat} {t n : Int32} (hk : k < 8) (hR : RR nl ns V) : MC l yX7_maySublet cX7_maySublet 5 (some .boolean) 2 g V L [.ref (ad g 224), .int (nI k), .int t, .int n] (some (.int (b2i (rMay V k ns t n)))) V L := by
  refine MC.of [some (.ref (ad g 224)), some (.int (nI k)), some (.int t), some (.int n), none] (by decide +kernel) rfl (Nat.le_of_ble_eq_true rfl) (fun p e s m args below meth c C => ?_)
  refine j_aload_n C dX7_maySublet_0 rfl rfl ?_
  refine j_iload_n C dX7_maySublet_1 rfl rfl ?_
  refine j_callV1r C (oa_X7 (by first | assumption | rfl | exact kd_sums (by assumption) | exact kd_st1 (by assumption) | exact kd_st2 (by assumption) | exact kd_ls (by first | assumption | rfl) (by assumption) | exact kd_sb (by first | assumption | rfl) (by assumption) | exact kd_sv (by assumption))) rfl rfl (c_X7_runs hk) qm_X7_87 qi_X7_runs qs_X7_runs qn_X7 qc_X7_runs fit_X7_runs ⟨Nat.le_of_ble_eq_true rfl, Nat.le_of_ble_eq_true rfl, Nat.le_of_ble_eq_true rfl, Nat.le_of_ble_eq_true rfl⟩ (Nat.le_of_ble_eq_true rfl) dX7_maySublet_2 ?_
  refine j_if_eq (tgt := 27) C dX7_maySublet_5 (by decide) (fun h5 => ?_) (fun h5 => ?_)
  · replace h5 := b2i_0 h5
    refine j_iconst (v := (nI 0)) C dX7_maySublet_27 (by decide) ?_
    refine j_ist4 C dX7_maySublet_28 (Nat.le_of_ble_eq_true rfl) rfl ?_
    refine j_iload C dX7_maySublet_30 rfl ?_
    refine j_if_eq (tgt := 65) C dX7_maySublet_32 (by decide) (fun h32 => ?_) (fun h32 => (by exact absurd h32 (by decide)))
    refine j_iconst (v := (nI 0)) C dX7_maySublet_65 (by decide) ?_
    exact j_zret C dX7_maySublet_66 (by first | rfl | exact nar_b2i) (by first | (refine b2i_t ?_; simp_all [rMay, rRuns]; done) | (refine b2i_f ?_; simp_all [rMay, rRuns]; done) | (refine b2i_t ?_; refine ⟨⟨by assumption, by first | assumption | exact Int32.not_lt.mp (by assumption)⟩, by first | assumption | exact Int32.not_lt.mp (by assumption), by first | assumption | exact Int32.not_le.mp (by assumption)⟩) | (refine b2i_f ?_; intro q; obtain ⟨⟨q1, q2⟩, q3, q4⟩ := q; first | exact absurd q1 (by assumption) | exact absurd q2 (by first | assumption | exact Int32.not_le.mpr (by assumption)) | exact absurd q3 (by first | assumption | exact Int32.not_le.mpr (by assumption)) | exact absurd q4 (by first | assumption | exact Int32.not_lt.mpr (by assumption)))) (by rfl) (by rfl)
  · replace h5 := b2i_1 h5
    refine j_aload_n C dX7_maySublet_8 rfl rfl ?_
    refine jg_LeaseBookModel_z C (by first | assumption | rfl | exact kd_sums (by assumption) | exact kd_st1 (by assumption) | exact kd_st2 (by assumption) | exact kd_ls (by first | assumption | rfl) (by assumption) | exact kd_sb (by first | assumption | rfl) (by assumption) | exact kd_sv (by assumption)) qf_X7_7 dX7_maySublet_9 ?_
    refine j_iload_n C dX7_maySublet_12 rfl rfl ?_
    refine j_callS1r C (c_X7_at) qm_X7_32 qt_X7_at qn_X7 qc_X7_at fit_X7_at ⟨Nat.le_of_ble_eq_true rfl, Nat.le_of_ble_eq_true rfl, Nat.le_of_ble_eq_true rfl, Nat.le_of_ble_eq_true rfl⟩ (Nat.le_of_ble_eq_true rfl) dX7_maySublet_13 ?_
    refine j_iconst (v := (nI 1)) C dX7_maySublet_16 (by decide) ?_
    refine j_iaddN C dX7_maySublet_17 ?_
    refine j_ialdN C (by first | assumption | rfl | exact kd_sums (by assumption) | exact kd_st1 (by assumption) | exact kd_st2 (by assumption) | exact kd_ls (by first | assumption | rfl) (by assumption) | exact kd_sb (by first | assumption | rfl) (by assumption) | exact kd_sv (by assumption)) rfl rfl (by omega) dX7_maySublet_18 ?_
    refine j_iload_n C dX7_maySublet_19 rfl rfl ?_
    refine j_icmp_lt (tgt := 27) C dX7_maySublet_20 (by decide) (fun h20 => ?_) (fun h20 => ?_)
    · refine j_iconst (v := (nI 0)) C dX7_maySublet_27 (by decide) ?_
      refine j_ist4 C dX7_maySublet_28 (Nat.le_of_ble_eq_true rfl) rfl ?_
      refine j_iload C dX7_maySublet_30 rfl ?_
      refine j_if_eq (tgt := 65) C dX7_maySublet_32 (by decide) (fun h32 => ?_) (fun h32 => (by exact absurd h32 (by decide)))
      refine j_iconst (v := (nI 0)) C dX7_maySublet_65 (by decide) ?_
      exact j_zret C dX7_maySublet_66 (by first | rfl | exact nar_b2i) (by first | (refine b2i_t ?_; simp_all [rMay, rRuns]; done) | (refine b2i_f ?_; simp_all [rMay, rRuns]; done) | (refine b2i_t ?_; refine ⟨⟨by assumption, by first | assumption | exact Int32.not_lt.mp (by assumption)⟩, by first | assumption | exact Int32.not_lt.mp (by assumption), by first | assumption | exact Int32.not_le.mp (by assumption)⟩) | (refine b2i_f ?_; intro q; obtain ⟨⟨q1, q2⟩, q3, q4⟩ := q; first | exact absurd q1 (by assumption) | exact absurd q2 (by first | assumption | exact Int32.not_le.mpr (by assumption)) | exact absurd q3 (by first | assumption | exact Int32.not_le.mpr (by assumption)) | exact absurd q4 (by first | assumption | exact Int32.not_lt.mpr (by assumption)))) (by rfl) (by rfl)
    · refine j_iconst (v := (nI 1)) C dX7_maySublet_23 (by decide) ?_
      refine j_goto (tgt := 28) C dX7_maySublet_24 (by decide) ?_
      refine j_ist4 C dX7_maySublet_28 (Nat.le_of_ble_eq_true rfl) rfl ?_
      refine j_iload C dX7_maySublet_30 rfl ?_
      refine j_if_eq (tgt := 65) C dX7_maySublet_32 (by decide) (fun h32 => (by exact absurd h32 (by decide))) (fun h32 => ?_)
      refine j_aload_n C dX7_maySublet_35 rfl rfl ?_
      refine j_iload_n C dX7_maySublet_36 rfl rfl ?_
      refine j_bipush (v := (nI 7)) C dX7_maySublet_37 (by decide) ?_
      refine j_callV2r C (oa_X7 (by first | assumption | rfl | exact kd_sums (by assumption) | exact kd_st1 (by assumption) | exact kd_st2 (by assumption) | exact kd_ls (by first | assumption | rfl) (by assumption) | exact kd_sb (by first | assumption | rfl) (by assumption) | exact kd_sv (by assumption))) rfl rfl (c_X7_ofSubs hk hR) qm_X7_96 qi_X7_ofSubs qs_X7_ofSubs qn_X7 qc_X7_ofSubs fit_X7_ofSubs ⟨Nat.le_of_ble_eq_true rfl, Nat.le_of_ble_eq_true rfl, Nat.le_of_ble_eq_true rfl, Nat.le_of_ble_eq_true rfl⟩ (Nat.le_of_ble_eq_true rfl) dX7_maySublet_39 ?_
      refine j_iload_n C dX7_maySublet_42 rfl rfl ?_
      refine j_iadd C dX7_maySublet_43 ?_
      refine j_sipush (v := (nI 1000)) C dX7_maySublet_44 (by decide) ?_
      refine j_icmp_gt (tgt := 65) C dX7_maySublet_47 (by decide) (fun h47 => ?_) (fun h47 => ?_)
      · refine j_iconst (v := (nI 0)) C dX7_maySublet_65 (by decide) ?_
        exact j_zret C dX7_maySublet_66 (by first | rfl | exact nar_b2i) (by first | (refine b2i_t ?_; simp_all [rMay, rRuns]; done) | (refine b2i_f ?_; simp_all [rMay, rRuns]; done) | (refine b2i_t ?_; refine ⟨⟨by assumption, by first | assumption | exact Int32.not_lt.mp (by assumption)⟩, by first | assumption | exact Int32.not_lt.mp (by assumption), by first | assumption | exact Int32.not_le.mp (by assumption)⟩) | (refine b2i_f ?_; intro q; obtain ⟨⟨q1, q2⟩, q3, q4⟩ := q; first | exact absurd q1 (by assumption) | exact absurd q2 (by first | assumption | exact Int32.not_le.mpr (by assumption)) | exact absurd q3 (by first | assumption | exact Int32.not_le.mpr (by assumption)) | exact absurd q4 (by first | assumption | exact Int32.not_lt.mpr (by assumption)))) (by rfl) (by rfl)
      · refine j_aload_n C dX7_maySublet_50 rfl rfl ?_
        refine jg_LeaseBookModel_z C (by first | assumption | rfl | exact kd_sums (by assumption) | exact kd_st1 (by assumption) | exact kd_st2 (by assumption) | exact kd_ls (by first | assumption | rfl) (by assumption) | exact kd_sb (by first | assumption | rfl) (by assumption) | exact kd_sv (by assumption)) qf_X7_7 dX7_maySublet_51 ?_
        refine j_iconst (v := (nI 1)) C dX7_maySublet_54 (by decide) ?_
        refine j_ialdN C (by first | assumption | rfl | exact kd_sums (by assumption) | exact kd_st1 (by assumption) | exact kd_st2 (by assumption) | exact kd_ls (by first | assumption | rfl) (by assumption) | exact kd_sb (by first | assumption | rfl) (by assumption) | exact kd_sv (by assumption)) rfl rfl (by omega) dX7_maySublet_55 ?_
        refine j_bipush (v := (nI 12)) C dX7_maySublet_56 (by decide) ?_
        refine j_icmp_ge (tgt := 65) C dX7_maySublet_58 (by decide) (fun h58 => ?_) (fun h58 => ?_)
        · refine j_iconst (v := (nI 0)) C dX7_maySublet_65 (by decide) ?_
          exact j_zret C dX7_maySublet_66 (by first | rfl | exact nar_b2i) (by first | (refine b2i_t ?_; simp_all [rMay, rRuns]; done) | (refine b2i_f ?_; simp_all [rMay, rRuns]; done) | (refine b2i_t ?_; refine ⟨⟨by assumption, by first | assumption | exact Int32.not_lt.mp (by assumption)⟩, by first | assumption | exact Int32.not_lt.mp (by assumption), by first | assumption | exact Int32.not_le.mp (by assumption)⟩) | (refine b2i_f ?_; intro q; obtain ⟨⟨q1, q2⟩, q3, q4⟩ := q; first | exact absurd q1 (by assumption) | exact absurd q2 (by first | assumption | exact Int32.not_le.mpr (by assumption)) | exact absurd q3 (by first | assumption | exact Int32.not_le.mpr (by assumption)) | exact absurd q4 (by first | assumption | exact Int32.not_lt.mpr (by assumption)))) (by rfl) (by rfl)
        · refine j_iconst (v := (nI 1)) C dX7_maySublet_61 (by decide) ?_
          refine j_goto (tgt := 66) C dX7_maySublet_62 (by decide) ?_
          exact j_zret C dX7_maySublet_66 (by first | rfl | exact nar_b2i) (by first | (refine b2i_t ?_; simp_all [rMay, rRuns]; done) | (refine b2i_f ?_; simp_all [rMay, rRuns]; done) | (refine b2i_t ?_; refine ⟨⟨by assumption, by first | assumption | exact Int32.not_lt.mp (by assumption)⟩, by first | assumption | exact Int32.not_lt.mp (by assumption), by first | assumption | exact Int32.not_le.mp (by assumption)⟩) | (refine b2i_f ?_; intro q; obtain ⟨⟨q1, q2⟩, q3, q4⟩ := q; first | exact absurd q1 (by assumption) | exact absurd q2 (by first | assumption | exact Int32.not_le.mpr (by assumption)) | exact absurd q3 (by first | assumption | exact Int32.not_le.mpr (by assumption)) | exact absurd q4 (by first | assumption | exact Int32.not_lt.mpr (by assumption)))) (by rfl) (by rfl)
set_option maxHeartbeats 4000000 in
theorem lp_X7_passSubs {p : Program} {l : Launch} {e : Env} {s : State} {m : MethodId} {args : Array Value} {below : List Frame} {meth : Method} {c : Code} {g : GC} {Q : State → Prop} {V : Mem} {L : LMem} {k nl ns : Nat} (C : Cx p s args m meth c cX7_passSubs 5 yX7_passSubs.cls (Option.none : Option Jvm.ClassFile.FieldType) g) (hk : k < 8) (hR : RR nl ns V) (kx : J p l e (RM 2) s m args below meth c 5 g 0 0 Q (rPSub k V (ns)) L 137 [some (.ref (ad g 224)), some (.int (nI k)), some (.int (nI (ns))), none, none] []) : ∀ j i : Nat, i + j = ns → J p l e (RM 2) s m args below meth c 5 g 0 0 Q (rPSub k V i) L 2 [some (.ref (ad g 224)), some (.int (nI k)), some (.int (nI i)), none, none] [] := by
  intro j
  induction j with
  | zero =>
    intro i hi
    have hi : ns = i := by omega
    subst hi
    refine j_iload_n C dX7_passSubs_2 rfl rfl ?_
    refine j_aload_n C dX7_passSubs_3 rfl rfl ?_
    refine jg_LeaseBookModel_z C (by first | assumption | rfl | exact kd_sums (by assumption) | exact kd_st1 (by assumption) | exact kd_st2 (by assumption) | exact kd_ls (by first | assumption | rfl) (by assumption) | exact kd_sb (by first | assumption | rfl) (by assumption) | exact kd_sv (by assumption)) qf_X7_7 dX7_passSubs_4 ?_
    refine j_iconst (v := (nI 1)) C dX7_passSubs_7 (by decide) ?_
    refine j_ialdN C (by first | assumption | rfl | exact kd_sums (by assumption) | exact kd_st1 (by assumption) | exact kd_st2 (by assumption) | exact kd_ls (by first | assumption | rfl) (by assumption) | exact kd_sb (by first | assumption | rfl) (by assumption) | exact kd_sv (by assumption)) rfl rfl (by omega) dX7_passSubs_8 ?_
    refine j_tope (y := nI ns) (by exact (hR.psub hk _ (by have := hR.2.1; omega)).2.2.2.1) ?_
    refine j_icmp_ge (tgt := 137) C dX7_passSubs_9 (by decide) (fun h9 => ?_) (fun h9 => absurd (nI_le (by omega) (by have := hR.2.1; omega)) h9)
    exact kx
  | succ j ih =>
    intro i hi
    have h12 := hR.2.1
    have hRi := hR.psub hk i (by omega)
    refine j_iload_n C dX7_passSubs_2 rfl rfl ?_
    refine j_aload_n C dX7_passSubs_3 rfl rfl ?_
    refine jg_LeaseBookModel_z C (by first | assumption | rfl | exact kd_sums (by assumption) | exact kd_st1 (by assumption) | exact kd_st2 (by assumption) | exact kd_ls (by first | assumption | rfl) (by assumption) | exact kd_sb (by first | assumption | rfl) (by assumption) | exact kd_sv (by assumption)) qf_X7_7 dX7_passSubs_4 ?_
    refine j_iconst (v := (nI 1)) C dX7_passSubs_7 (by decide) ?_
    refine j_ialdN C (by first | assumption | rfl | exact kd_sums (by assumption) | exact kd_st1 (by assumption) | exact kd_st2 (by assumption) | exact kd_ls (by first | assumption | rfl) (by assumption) | exact kd_sb (by first | assumption | rfl) (by assumption) | exact kd_sv (by assumption)) rfl rfl (by omega) dX7_passSubs_8 ?_
    refine j_tope (y := nI ns) (by exact (hR.psub hk _ (by have := hR.2.1; omega)).2.2.2.1) ?_
    refine j_icmp_ge (tgt := 137) C dX7_passSubs_9 (by decide) (fun h9 => absurd h9 (nI_ge (by omega) (by omega))) (fun h9 => ?_)
    refine j_iload_n C dX7_passSubs_12 rfl rfl ?_
    refine j_callS1r C (c_X7_sub) qm_X7_77 qt_X7_sub qn_X7 qc_X7_sub fit_X7_sub ⟨Nat.le_of_ble_eq_true rfl, Nat.le_of_ble_eq_true rfl, Nat.le_of_ble_eq_true rfl, Nat.le_of_ble_eq_true rfl⟩ (Nat.le_of_ble_eq_true rfl) dX7_passSubs_13 ?_
    refine j_ist3 C dX7_passSubs_16 rfl (Nat.le_of_ble_eq_true rfl) rfl ?_
    refine j_aload_n C dX7_passSubs_17 rfl rfl ?_
    refine jg_LeaseBookModel_z C (by first | assumption | rfl | exact kd_sums (by assumption) | exact kd_st1 (by assumption) | exact kd_st2 (by assumption) | exact kd_ls (by first | assumption | rfl) (by assumption) | exact kd_sb (by first | assumption | rfl) (by assumption) | exact kd_sv (by assumption)) qf_X7_7 dX7_passSubs_18 ?_
    refine j_iload_n C dX7_passSubs_21 rfl rfl ?_
    refine j_ialdN C (by first | assumption | rfl | exact kd_sums (by assumption) | exact kd_st1 (by assumption) | exact kd_st2 (by assumption) | exact kd_ls (by first | assumption | rfl) (by assumption) | exact kd_sb (by first | assumption | rfl) (by assumption) | exact kd_sv (by assumption)) rfl rfl (by omega) dX7_passSubs_22 ?_
    refine j_iload_n C dX7_passSubs_23 rfl rfl ?_
    refine j_icmp_ne (tgt := 131) C dX7_passSubs_24 (by decide) (fun h24 => ?_) (fun h24 => ?_)
    · refine j_incN2 (q := 1) C dX7_passSubs_131 (by decide) (Nat.le_of_ble_eq_true rfl) rfl ?_
      refine j_goto (tgt := 2) C dX7_passSubs_134 (by decide) ?_
      refine j_mem (V' := (rPSub k V (i + 1))) (L' := L) (by simp only [rPSub, rPSubS]; first | (rw [if_pos ⟨by assumption, by first | assumption | exact Int32.not_le.mp (by assumption)⟩]; done) | (rw [if_neg (fun q => absurd q.1 (by assumption))]; done) | (rw [if_neg (fun q => absurd q.2 (by first | assumption | exact Int32.not_lt.mpr (by assumption)))]; done)) rfl ?_
      exact j_dr (lv' := [some (.ref (ad g 224)), some (.int (nI k)), some (.int (nI (i + 1))), none, none]) (And.intro rfl (And.intro rfl (And.intro rfl True.intro))) (ih (i + 1) (by omega))
    · refine j_aload_n C dX7_passSubs_27 rfl rfl ?_
      refine jg_LeaseBookModel_z C (by first | assumption | rfl | exact kd_sums (by assumption) | exact kd_st1 (by assumption) | exact kd_st2 (by assumption) | exact kd_ls (by first | assumption | rfl) (by assumption) | exact kd_sb (by first | assumption | rfl) (by assumption) | exact kd_sv (by assumption)) qf_X7_7 dX7_passSubs_28 ?_
      refine j_iload_n C dX7_passSubs_31 rfl rfl ?_
      refine j_iconst (v := (nI 3)) C dX7_passSubs_32 (by decide) ?_
      refine j_iaddN C dX7_passSubs_33 ?_
      refine j_ialdN C (by first | assumption | rfl | exact kd_sums (by assumption) | exact kd_st1 (by assumption) | exact kd_st2 (by assumption) | exact kd_ls (by first | assumption | rfl) (by assumption) | exact kd_sb (by first | assumption | rfl) (by assumption) | exact kd_sv (by assumption)) rfl rfl (by omega) dX7_passSubs_34 ?_
      refine j_if_le (tgt := 131) C dX7_passSubs_35 (by decide) (fun h35 => ?_) (fun h35 => ?_)
      · refine j_incN2 (q := 1) C dX7_passSubs_131 (by decide) (Nat.le_of_ble_eq_true rfl) rfl ?_
        refine j_goto (tgt := 2) C dX7_passSubs_134 (by decide) ?_
        refine j_mem (V' := (rPSub k V (i + 1))) (L' := L) (by simp only [rPSub, rPSubS]; first | (rw [if_pos ⟨by assumption, by first | assumption | exact Int32.not_le.mp (by assumption)⟩]; done) | (rw [if_neg (fun q => absurd q.1 (by assumption))]; done) | (rw [if_neg (fun q => absurd q.2 (by first | assumption | exact Int32.not_lt.mpr (by assumption)))]; done)) rfl ?_
        exact j_dr (lv' := [some (.ref (ad g 224)), some (.int (nI k)), some (.int (nI (i + 1))), none, none]) (And.intro rfl (And.intro rfl (And.intro rfl True.intro))) (ih (i + 1) (by omega))
      · refine j_aload_n C dX7_passSubs_38 rfl rfl ?_
        refine jg_LeaseBookModel_z C (by first | assumption | rfl | exact kd_sums (by assumption) | exact kd_st1 (by assumption) | exact kd_st2 (by assumption) | exact kd_ls (by first | assumption | rfl) (by assumption) | exact kd_sb (by first | assumption | rfl) (by assumption) | exact kd_sv (by assumption)) qf_X7_7 dX7_passSubs_39 ?_
        refine j_iload_n C dX7_passSubs_42 rfl rfl ?_
        refine j_iconst (v := (nI 3)) C dX7_passSubs_43 (by decide) ?_
        refine j_iaddN C dX7_passSubs_44 ?_
        refine j_dup2 C dX7_passSubs_45 rfl rfl ?_
        refine j_ialdN C (by first | assumption | rfl | exact kd_sums (by assumption) | exact kd_st1 (by assumption) | exact kd_st2 (by assumption) | exact kd_ls (by first | assumption | rfl) (by assumption) | exact kd_sb (by first | assumption | rfl) (by assumption) | exact kd_sv (by assumption)) rfl rfl (by omega) dX7_passSubs_46 ?_
        refine j_iconst (v := (nI 1)) C dX7_passSubs_47 (by decide) ?_
        refine j_isub C dX7_passSubs_48 ?_
        refine j_iastN C (by first | assumption | rfl | exact kd_sums (by assumption) | exact kd_st1 (by assumption) | exact kd_st2 (by assumption) | exact kd_ls (by first | assumption | rfl) (by assumption) | exact kd_sb (by first | assumption | rfl) (by assumption) | exact kd_sv (by assumption)) rfl rfl (by omega) dX7_passSubs_49 ?_
        refine j_aload_n C dX7_passSubs_50 rfl rfl ?_
        refine jg_LeaseBookModel_z C (by first | assumption | rfl | exact kd_sums (by assumption) | exact kd_st1 (by assumption) | exact kd_st2 (by assumption) | exact kd_ls (by first | assumption | rfl) (by assumption) | exact kd_sb (by first | assumption | rfl) (by assumption) | exact kd_sv (by assumption)) qf_X7_7 dX7_passSubs_51 ?_
        refine j_iload_n C dX7_passSubs_54 rfl rfl ?_
        refine j_iconst (v := (nI 2)) C dX7_passSubs_55 (by decide) ?_
        refine j_iaddN C dX7_passSubs_56 ?_
        refine j_ialdN C (by first | assumption | rfl | exact kd_sums (by assumption) | exact kd_st1 (by assumption) | exact kd_st2 (by assumption) | exact kd_ls (by first | assumption | rfl) (by assumption) | exact kd_sb (by first | assumption | rfl) (by assumption) | exact kd_sv (by assumption)) rfl rfl (by omega) dX7_passSubs_57 ?_
        refine j_aload_n C dX7_passSubs_58 rfl rfl ?_
        refine jg_LeaseBookModel_z C (by first | assumption | rfl | exact kd_sums (by assumption) | exact kd_st1 (by assumption) | exact kd_st2 (by assumption) | exact kd_ls (by first | assumption | rfl) (by assumption) | exact kd_sb (by first | assumption | rfl) (by assumption) | exact kd_sv (by assumption)) qf_X7_7 dX7_passSubs_59 ?_
        refine j_iload_n C dX7_passSubs_62 rfl rfl ?_
        refine j_iconst (v := (nI 3)) C dX7_passSubs_63 (by decide) ?_
        refine j_iaddN C dX7_passSubs_64 ?_
        refine j_ialdN C (by first | assumption | rfl | exact kd_sums (by assumption) | exact kd_st1 (by assumption) | exact kd_st2 (by assumption) | exact kd_ls (by first | assumption | rfl) (by assumption) | exact kd_sb (by first | assumption | rfl) (by assumption) | exact kd_sv (by assumption)) rfl rfl (by omega) dX7_passSubs_65 ?_
        refine j_aload_n C dX7_passSubs_66 rfl rfl ?_
        refine jg_LeaseBookModel_z C (by first | assumption | rfl | exact kd_sums (by assumption) | exact kd_st1 (by assumption) | exact kd_st2 (by assumption) | exact kd_ls (by first | assumption | rfl) (by assumption) | exact kd_sb (by first | assumption | rfl) (by assumption) | exact kd_sv (by assumption)) qf_X7_7 dX7_passSubs_67 ?_
        refine j_iload_n C dX7_passSubs_70 rfl rfl ?_
        refine j_iconst (v := (nI 4)) C dX7_passSubs_71 (by decide) ?_
        refine j_iaddN C dX7_passSubs_72 ?_
        refine j_ialdN C (by first | assumption | rfl | exact kd_sums (by assumption) | exact kd_st1 (by assumption) | exact kd_st2 (by assumption) | exact kd_ls (by first | assumption | rfl) (by assumption) | exact kd_sb (by first | assumption | rfl) (by assumption) | exact kd_sv (by assumption)) rfl rfl (by omega) dX7_passSubs_73 ?_
        refine j_callS3r C (c_X7_worthOf (by rw [mset_ne (by omega)]; exact hRi.2.2.2.2.2 i (by omega))) qm_X7_49 qt_X7_worthOf qn_X7 qc_X7_worthOf fit_X7_worthOf ⟨Nat.le_of_ble_eq_true rfl, Nat.le_of_ble_eq_true rfl, Nat.le_of_ble_eq_true rfl, Nat.le_of_ble_eq_true rfl⟩ (Nat.le_of_ble_eq_true rfl) dX7_passSubs_74 ?_
        refine j_ist4 C dX7_passSubs_77 (Nat.le_of_ble_eq_true rfl) rfl ?_
        refine j_aload_n C dX7_passSubs_79 rfl rfl ?_
        refine j_iload_n C dX7_passSubs_80 rfl rfl ?_
        refine j_bipush (v := (nI 12)) C dX7_passSubs_81 (by decide) ?_
        refine j_iload C dX7_passSubs_83 rfl ?_
        refine j_aload_n C dX7_passSubs_85 rfl rfl ?_
        refine jg_LeaseBookModel_z C (by first | assumption | rfl | exact kd_sums (by assumption) | exact kd_st1 (by assumption) | exact kd_st2 (by assumption) | exact kd_ls (by first | assumption | rfl) (by assumption) | exact kd_sb (by first | assumption | rfl) (by assumption) | exact kd_sv (by assumption)) qf_X7_7 dX7_passSubs_86 ?_
        refine j_iload_n C dX7_passSubs_89 rfl rfl ?_
        refine j_iconst (v := (nI 5)) C dX7_passSubs_90 (by decide) ?_
        refine j_iaddN C dX7_passSubs_91 ?_
        refine j_ialdN C (by first | assumption | rfl | exact kd_sums (by assumption) | exact kd_st1 (by assumption) | exact kd_st2 (by assumption) | exact kd_ls (by first | assumption | rfl) (by assumption) | exact kd_sb (by first | assumption | rfl) (by assumption) | exact kd_sv (by assumption)) rfl rfl (by omega) dX7_passSubs_92 ?_
        refine j_isub C dX7_passSubs_93 ?_
        refine j_aload_n C dX7_passSubs_94 rfl rfl ?_
        refine jg_LeaseBookModel_z C (by first | assumption | rfl | exact kd_sums (by assumption) | exact kd_st1 (by assumption) | exact kd_st2 (by assumption) | exact kd_ls (by first | assumption | rfl) (by assumption) | exact kd_sb (by first | assumption | rfl) (by assumption) | exact kd_sv (by assumption)) qf_X7_7 dX7_passSubs_95 ?_
        refine j_iload_n C dX7_passSubs_98 rfl rfl ?_
        refine j_iconst (v := (nI 2)) C dX7_passSubs_99 (by decide) ?_
        refine j_iaddN C dX7_passSubs_100 ?_
        refine j_ialdN C (by first | assumption | rfl | exact kd_sums (by assumption) | exact kd_st1 (by assumption) | exact kd_st2 (by assumption) | exact kd_ls (by first | assumption | rfl) (by assumption) | exact kd_sb (by first | assumption | rfl) (by assumption) | exact kd_sv (by assumption)) rfl rfl (by omega) dX7_passSubs_101 ?_
        refine j_iadd C dX7_passSubs_102 ?_
        refine j_callV3v C (oa_X7 (by first | assumption | rfl | exact kd_sums (by assumption) | exact kd_st1 (by assumption) | exact kd_st2 (by assumption) | exact kd_ls (by first | assumption | rfl) (by assumption) | exact kd_sb (by first | assumption | rfl) (by assumption) | exact kd_sv (by assumption))) rfl rfl (c_X7_move hk (by omega)) qm_X7_53 qi_X7_move qs_X7_move qn_X7 qc_X7_move fit_X7_move ⟨Nat.le_of_ble_eq_true rfl, Nat.le_of_ble_eq_true rfl, Nat.le_of_ble_eq_true rfl, Nat.le_of_ble_eq_true rfl⟩ (Nat.le_of_ble_eq_true rfl) dX7_passSubs_103 ?_
        refine j_aload_n C dX7_passSubs_106 rfl rfl ?_
        refine j_iload_n C dX7_passSubs_107 rfl rfl ?_
        refine j_bipush (v := (nI 13)) C dX7_passSubs_108 (by decide) ?_
        refine j_aload_n C dX7_passSubs_110 rfl rfl ?_
        refine jg_LeaseBookModel_z C (by first | assumption | rfl | exact kd_sums (by assumption) | exact kd_st1 (by assumption) | exact kd_st2 (by assumption) | exact kd_ls (by first | assumption | rfl) (by assumption) | exact kd_sb (by first | assumption | rfl) (by assumption) | exact kd_sv (by assumption)) qf_X7_7 dX7_passSubs_111 ?_
        refine j_iload_n C dX7_passSubs_114 rfl rfl ?_
        refine j_iconst (v := (nI 2)) C dX7_passSubs_115 (by decide) ?_
        refine j_iaddN C dX7_passSubs_116 ?_
        refine j_ialdN C (by first | assumption | rfl | exact kd_sums (by assumption) | exact kd_st1 (by assumption) | exact kd_st2 (by assumption) | exact kd_ls (by first | assumption | rfl) (by assumption) | exact kd_sb (by first | assumption | rfl) (by assumption) | exact kd_sv (by assumption)) rfl rfl (by omega) dX7_passSubs_117 ?_
        refine j_callV3v C (oa_X7 (by first | assumption | rfl | exact kd_sums (by assumption) | exact kd_st1 (by assumption) | exact kd_st2 (by assumption) | exact kd_ls (by first | assumption | rfl) (by assumption) | exact kd_sb (by first | assumption | rfl) (by assumption) | exact kd_sv (by assumption))) rfl rfl (c_X7_move hk (by omega)) qm_X7_53 qi_X7_move qs_X7_move qn_X7 qc_X7_move fit_X7_move ⟨Nat.le_of_ble_eq_true rfl, Nat.le_of_ble_eq_true rfl, Nat.le_of_ble_eq_true rfl, Nat.le_of_ble_eq_true rfl⟩ (Nat.le_of_ble_eq_true rfl) dX7_passSubs_118 ?_
        refine j_aload_n C dX7_passSubs_121 rfl rfl ?_
        refine jg_LeaseBookModel_z C (by first | assumption | rfl | exact kd_sums (by assumption) | exact kd_st1 (by assumption) | exact kd_st2 (by assumption) | exact kd_ls (by first | assumption | rfl) (by assumption) | exact kd_sb (by first | assumption | rfl) (by assumption) | exact kd_sv (by assumption)) qf_X7_7 dX7_passSubs_122 ?_
        refine j_iload_n C dX7_passSubs_125 rfl rfl ?_
        refine j_iconst (v := (nI 5)) C dX7_passSubs_126 (by decide) ?_
        refine j_iaddN C dX7_passSubs_127 ?_
        refine j_iload C dX7_passSubs_128 rfl ?_
        refine j_iastN C (by first | assumption | rfl | exact kd_sums (by assumption) | exact kd_st1 (by assumption) | exact kd_st2 (by assumption) | exact kd_ls (by first | assumption | rfl) (by assumption) | exact kd_sb (by first | assumption | rfl) (by assumption) | exact kd_sv (by assumption)) rfl rfl (by omega) dX7_passSubs_130 ?_
        refine j_incN2 (q := 1) C dX7_passSubs_131 (by decide) (Nat.le_of_ble_eq_true rfl) rfl ?_
        refine j_goto (tgt := 2) C dX7_passSubs_134 (by decide) ?_
        refine j_mem (V' := (rPSub k V (i + 1))) (L' := L) (by simp only [rPSub, rPSubS]; first | (rw [if_pos ⟨by assumption, by first | assumption | exact Int32.not_le.mp (by assumption)⟩]; done) | (rw [if_neg (fun q => absurd q.1 (by assumption))]; done) | (rw [if_neg (fun q => absurd q.2 (by first | assumption | exact Int32.not_lt.mpr (by assumption)))]; done)) rfl ?_
        exact j_dr (lv' := [some (.ref (ad g 224)), some (.int (nI k)), some (.int (nI (i + 1))), none, none]) (And.intro rfl (And.intro rfl (And.intro rfl True.intro))) (ih (i + 1) (by omega))
set_option maxHeartbeats 4000000 in
theorem c_X7_passSubs {l : Launch} {g : GC} {V : Mem} {L : LMem} {k nl ns : Nat} (hk : k < 8) (hR : RR nl ns V) : MC l yX7_passSubs cX7_passSubs 5 (Option.none : Option Jvm.ClassFile.FieldType) 2 g V L [.ref (ad g 224), .int (nI k)] none (rPSub k V ns) L := by
  refine MC.of [some (.ref (ad g 224)), some (.int (nI k)), none, none, none] (by decide +kernel) rfl (Nat.le_of_ble_eq_true rfl) (fun p e s m args below meth c C => ?_)
  refine j_iconst (v := (nI 0)) C dX7_passSubs_0 (by decide) ?_
  refine j_ist2 C dX7_passSubs_1 rfl (Nat.le_of_ble_eq_true rfl) rfl ?_
  refine lp_X7_passSubs C hk hR ?_ ns 0 (by omega)
  exact j_vret C dX7_passSubs_137 rfl (by rfl) (by rfl)
set_option maxHeartbeats 4000000 in
theorem c_X7_passLease {l : Launch} {g : GC} {V : Mem} {L : LMem} {k nl ns : Nat} (hk : k < nl) (hR : RR nl ns V) : MC l yX7_passLease cX7_passLease 5 (Option.none : Option Jvm.ClassFile.FieldType) 3 g V L [.ref (ad g 224), .int (nI k)] none (rPL k ns V) L := by
  refine MC.of [some (.ref (ad g 224)), some (.int (nI k)), none, none, none] (by decide +kernel) rfl (Nat.le_of_ble_eq_true rfl) (fun p e s m args below meth c C => ?_)
  have hk8 : k < 8 := Nat.lt_of_lt_of_le hk hR.1
  refine j_aload_n C dX7_passLease_0 rfl rfl ?_
  refine j_iload_n C dX7_passLease_1 rfl rfl ?_
  refine j_callV1r C (oa_X7 (by first | assumption | rfl | exact kd_sums (by assumption) | exact kd_st1 (by assumption) | exact kd_st2 (by assumption) | exact kd_ls (by first | assumption | rfl) (by assumption) | exact kd_sb (by first | assumption | rfl) (by assumption) | exact kd_sv (by assumption))) rfl rfl (c_X7_runs hk8) qm_X7_87 qi_X7_runs qs_X7_runs qn_X7 qc_X7_runs fit_X7_runs ⟨Nat.le_of_ble_eq_true rfl, Nat.le_of_ble_eq_true rfl, Nat.le_of_ble_eq_true rfl, Nat.le_of_ble_eq_true rfl⟩ (Nat.le_of_ble_eq_true rfl) dX7_passLease_2 ?_
  refine j_if_ne (tgt := 9) C dX7_passLease_5 (by decide) (fun h5 => ?_) (fun h5 => ?_)
  · replace h5 := b2i_1 h5
    refine j_iload_n C dX7_passLease_9 rfl rfl ?_
    refine j_callS1r C (c_X7_at) qm_X7_32 qt_X7_at qn_X7 qc_X7_at fit_X7_at ⟨Nat.le_of_ble_eq_true rfl, Nat.le_of_ble_eq_true rfl, Nat.le_of_ble_eq_true rfl, Nat.le_of_ble_eq_true rfl⟩ (Nat.le_of_ble_eq_true rfl) dX7_passLease_10 ?_
    refine j_ist2 C dX7_passLease_13 rfl (Nat.le_of_ble_eq_true rfl) rfl ?_
    refine j_aload_n C dX7_passLease_14 rfl rfl ?_
    refine jg_LeaseBookModel_z C (by first | assumption | rfl | exact kd_sums (by assumption) | exact kd_st1 (by assumption) | exact kd_st2 (by assumption) | exact kd_ls (by first | assumption | rfl) (by assumption) | exact kd_sb (by first | assumption | rfl) (by assumption) | exact kd_sv (by assumption)) qf_X7_7 dX7_passLease_15 ?_
    refine j_iload_n C dX7_passLease_18 rfl rfl ?_
    refine j_iconst (v := (nI 4)) C dX7_passLease_19 (by decide) ?_
    refine j_iaddN C dX7_passLease_20 ?_
    refine j_ialdN C (by first | assumption | rfl | exact kd_sums (by assumption) | exact kd_st1 (by assumption) | exact kd_st2 (by assumption) | exact kd_ls (by first | assumption | rfl) (by assumption) | exact kd_sb (by first | assumption | rfl) (by assumption) | exact kd_sv (by assumption)) rfl rfl (by omega) dX7_passLease_21 ?_
    refine j_aload_n C dX7_passLease_22 rfl rfl ?_
    refine jg_LeaseBookModel_z C (by first | assumption | rfl | exact kd_sums (by assumption) | exact kd_st1 (by assumption) | exact kd_st2 (by assumption) | exact kd_ls (by first | assumption | rfl) (by assumption) | exact kd_sb (by first | assumption | rfl) (by assumption) | exact kd_sv (by assumption)) qf_X7_7 dX7_passLease_23 ?_
    refine j_iload_n C dX7_passLease_26 rfl rfl ?_
    refine j_iconst (v := (nI 1)) C dX7_passLease_27 (by decide) ?_
    refine j_iaddN C dX7_passLease_28 ?_
    refine j_ialdN C (by first | assumption | rfl | exact kd_sums (by assumption) | exact kd_st1 (by assumption) | exact kd_st2 (by assumption) | exact kd_ls (by first | assumption | rfl) (by assumption) | exact kd_sb (by first | assumption | rfl) (by assumption) | exact kd_sv (by assumption)) rfl rfl (by omega) dX7_passLease_29 ?_
    refine j_idiv C dX7_passLease_30 (by intro q; rw [q] at h5; exact absurd h5 (by decide)) ?_
    refine j_ist3 C dX7_passLease_31 rfl (Nat.le_of_ble_eq_true rfl) rfl ?_
    refine j_aload_n C dX7_passLease_32 rfl rfl ?_
    refine jg_LeaseBookModel_z C (by first | assumption | rfl | exact kd_sums (by assumption) | exact kd_st1 (by assumption) | exact kd_st2 (by assumption) | exact kd_ls (by first | assumption | rfl) (by assumption) | exact kd_sb (by first | assumption | rfl) (by assumption) | exact kd_sv (by assumption)) qf_X7_7 dX7_passLease_33 ?_
    refine j_iload_n C dX7_passLease_36 rfl rfl ?_
    refine j_iconst (v := (nI 1)) C dX7_passLease_37 (by decide) ?_
    refine j_iaddN C dX7_passLease_38 ?_
    refine j_dup2 C dX7_passLease_39 rfl rfl ?_
    refine j_ialdN C (by first | assumption | rfl | exact kd_sums (by assumption) | exact kd_st1 (by assumption) | exact kd_st2 (by assumption) | exact kd_ls (by first | assumption | rfl) (by assumption) | exact kd_sb (by first | assumption | rfl) (by assumption) | exact kd_sv (by assumption)) rfl rfl (by omega) dX7_passLease_40 ?_
    refine j_iconst (v := (nI 1)) C dX7_passLease_41 (by decide) ?_
    refine j_isub C dX7_passLease_42 ?_
    refine j_iastN C (by first | assumption | rfl | exact kd_sums (by assumption) | exact kd_st1 (by assumption) | exact kd_st2 (by assumption) | exact kd_ls (by first | assumption | rfl) (by assumption) | exact kd_sb (by first | assumption | rfl) (by assumption) | exact kd_sv (by assumption)) rfl rfl (by omega) dX7_passLease_43 ?_
    refine j_aload_n C dX7_passLease_44 rfl rfl ?_
    refine jg_LeaseBookModel_z C (by first | assumption | rfl | exact kd_sums (by assumption) | exact kd_st1 (by assumption) | exact kd_st2 (by assumption) | exact kd_ls (by first | assumption | rfl) (by assumption) | exact kd_sb (by first | assumption | rfl) (by assumption) | exact kd_sv (by assumption)) qf_X7_7 dX7_passLease_45 ?_
    refine j_iload_n C dX7_passLease_48 rfl rfl ?_
    refine j_ialdN C (by first | assumption | rfl | exact kd_sums (by assumption) | exact kd_st1 (by assumption) | exact kd_st2 (by assumption) | exact kd_ls (by first | assumption | rfl) (by assumption) | exact kd_sb (by first | assumption | rfl) (by assumption) | exact kd_sv (by assumption)) rfl rfl (by omega) dX7_passLease_49 ?_
    refine j_aload_n C dX7_passLease_50 rfl rfl ?_
    refine jg_LeaseBookModel_z C (by first | assumption | rfl | exact kd_sums (by assumption) | exact kd_st1 (by assumption) | exact kd_st2 (by assumption) | exact kd_ls (by first | assumption | rfl) (by assumption) | exact kd_sb (by first | assumption | rfl) (by assumption) | exact kd_sv (by assumption)) qf_X7_7 dX7_passLease_51 ?_
    refine j_iload_n C dX7_passLease_54 rfl rfl ?_
    refine j_iconst (v := (nI 1)) C dX7_passLease_55 (by decide) ?_
    refine j_iaddN C dX7_passLease_56 ?_
    refine j_ialdN C (by first | assumption | rfl | exact kd_sums (by assumption) | exact kd_st1 (by assumption) | exact kd_st2 (by assumption) | exact kd_ls (by first | assumption | rfl) (by assumption) | exact kd_sb (by first | assumption | rfl) (by assumption) | exact kd_sv (by assumption)) rfl rfl (by omega) dX7_passLease_57 ?_
    refine j_aload_n C dX7_passLease_58 rfl rfl ?_
    refine jg_LeaseBookModel_z C (by first | assumption | rfl | exact kd_sums (by assumption) | exact kd_st1 (by assumption) | exact kd_st2 (by assumption) | exact kd_ls (by first | assumption | rfl) (by assumption) | exact kd_sb (by first | assumption | rfl) (by assumption) | exact kd_sv (by assumption)) qf_X7_7 dX7_passLease_59 ?_
    refine j_iload_n C dX7_passLease_62 rfl rfl ?_
    refine j_iconst (v := (nI 2)) C dX7_passLease_63 (by decide) ?_
    refine j_iaddN C dX7_passLease_64 ?_
    refine j_ialdN C (by first | assumption | rfl | exact kd_sums (by assumption) | exact kd_st1 (by assumption) | exact kd_st2 (by assumption) | exact kd_ls (by first | assumption | rfl) (by assumption) | exact kd_sb (by first | assumption | rfl) (by assumption) | exact kd_sv (by assumption)) rfl rfl (by omega) dX7_passLease_65 ?_
    refine j_callS3r C (c_X7_worthOf (by rw [mset_ne (by omega)]; exact hR.2.2.2.2.1 k hk)) qm_X7_49 qt_X7_worthOf qn_X7 qc_X7_worthOf fit_X7_worthOf ⟨Nat.le_of_ble_eq_true rfl, Nat.le_of_ble_eq_true rfl, Nat.le_of_ble_eq_true rfl, Nat.le_of_ble_eq_true rfl⟩ (Nat.le_of_ble_eq_true rfl) dX7_passLease_66 ?_
    refine j_ist4 C dX7_passLease_69 (Nat.le_of_ble_eq_true rfl) rfl ?_
    refine j_aload_n C dX7_passLease_71 rfl rfl ?_
    refine j_iload_n C dX7_passLease_72 rfl rfl ?_
    refine j_iconst (v := (nI 1)) C dX7_passLease_73 (by decide) ?_
    refine j_iload C dX7_passLease_74 rfl ?_
    refine j_aload_n C dX7_passLease_76 rfl rfl ?_
    refine jg_LeaseBookModel_z C (by first | assumption | rfl | exact kd_sums (by assumption) | exact kd_st1 (by assumption) | exact kd_st2 (by assumption) | exact kd_ls (by first | assumption | rfl) (by assumption) | exact kd_sb (by first | assumption | rfl) (by assumption) | exact kd_sv (by assumption)) qf_X7_7 dX7_passLease_77 ?_
    refine j_iload_n C dX7_passLease_80 rfl rfl ?_
    refine j_iconst (v := (nI 3)) C dX7_passLease_81 (by decide) ?_
    refine j_iaddN C dX7_passLease_82 ?_
    refine j_ialdN C (by first | assumption | rfl | exact kd_sums (by assumption) | exact kd_st1 (by assumption) | exact kd_st2 (by assumption) | exact kd_ls (by first | assumption | rfl) (by assumption) | exact kd_sb (by first | assumption | rfl) (by assumption) | exact kd_sv (by assumption)) rfl rfl (by omega) dX7_passLease_83 ?_
    refine j_isub C dX7_passLease_84 ?_
    refine j_aload_n C dX7_passLease_85 rfl rfl ?_
    refine jg_LeaseBookModel_z C (by first | assumption | rfl | exact kd_sums (by assumption) | exact kd_st1 (by assumption) | exact kd_st2 (by assumption) | exact kd_ls (by first | assumption | rfl) (by assumption) | exact kd_sb (by first | assumption | rfl) (by assumption) | exact kd_sv (by assumption)) qf_X7_7 dX7_passLease_86 ?_
    refine j_iload_n C dX7_passLease_89 rfl rfl ?_
    refine j_ialdN C (by first | assumption | rfl | exact kd_sums (by assumption) | exact kd_st1 (by assumption) | exact kd_st2 (by assumption) | exact kd_ls (by first | assumption | rfl) (by assumption) | exact kd_sb (by first | assumption | rfl) (by assumption) | exact kd_sv (by assumption)) rfl rfl (by omega) dX7_passLease_90 ?_
    refine j_iadd C dX7_passLease_91 ?_
    refine j_callV3v C (oa_X7 (by first | assumption | rfl | exact kd_sums (by assumption) | exact kd_st1 (by assumption) | exact kd_st2 (by assumption) | exact kd_ls (by first | assumption | rfl) (by assumption) | exact kd_sb (by first | assumption | rfl) (by assumption) | exact kd_sv (by assumption))) rfl rfl (c_X7_move hk8 (by omega)) qm_X7_53 qi_X7_move qs_X7_move qn_X7 qc_X7_move fit_X7_move ⟨Nat.le_of_ble_eq_true rfl, Nat.le_of_ble_eq_true rfl, Nat.le_of_ble_eq_true rfl, Nat.le_of_ble_eq_true rfl⟩ (Nat.le_of_ble_eq_true rfl) dX7_passLease_92 ?_
    refine j_aload_n C dX7_passLease_95 rfl rfl ?_
    refine j_iload_n C dX7_passLease_96 rfl rfl ?_
    refine j_iconst (v := (nI 2)) C dX7_passLease_97 (by decide) ?_
    refine j_aload_n C dX7_passLease_98 rfl rfl ?_
    refine jg_LeaseBookModel_z C (by first | assumption | rfl | exact kd_sums (by assumption) | exact kd_st1 (by assumption) | exact kd_st2 (by assumption) | exact kd_ls (by first | assumption | rfl) (by assumption) | exact kd_sb (by first | assumption | rfl) (by assumption) | exact kd_sv (by assumption)) qf_X7_7 dX7_passLease_99 ?_
    refine j_iload_n C dX7_passLease_102 rfl rfl ?_
    refine j_ialdN C (by first | assumption | rfl | exact kd_sums (by assumption) | exact kd_st1 (by assumption) | exact kd_st2 (by assumption) | exact kd_ls (by first | assumption | rfl) (by assumption) | exact kd_sb (by first | assumption | rfl) (by assumption) | exact kd_sv (by assumption)) rfl rfl (by omega) dX7_passLease_103 ?_
    refine j_callV3v C (oa_X7 (by first | assumption | rfl | exact kd_sums (by assumption) | exact kd_st1 (by assumption) | exact kd_st2 (by assumption) | exact kd_ls (by first | assumption | rfl) (by assumption) | exact kd_sb (by first | assumption | rfl) (by assumption) | exact kd_sv (by assumption))) rfl rfl (c_X7_move hk8 (by omega)) qm_X7_53 qi_X7_move qs_X7_move qn_X7 qc_X7_move fit_X7_move ⟨Nat.le_of_ble_eq_true rfl, Nat.le_of_ble_eq_true rfl, Nat.le_of_ble_eq_true rfl, Nat.le_of_ble_eq_true rfl⟩ (Nat.le_of_ble_eq_true rfl) dX7_passLease_104 ?_
    refine j_aload_n C dX7_passLease_107 rfl rfl ?_
    refine j_iload_n C dX7_passLease_108 rfl rfl ?_
    refine j_bipush (v := (nI 6)) C dX7_passLease_109 (by decide) ?_
    refine j_iload_n C dX7_passLease_111 rfl rfl ?_
    refine j_callV3v C (oa_X7 (by first | assumption | rfl | exact kd_sums (by assumption) | exact kd_st1 (by assumption) | exact kd_st2 (by assumption) | exact kd_ls (by first | assumption | rfl) (by assumption) | exact kd_sb (by first | assumption | rfl) (by assumption) | exact kd_sv (by assumption))) rfl rfl (c_X7_move hk8 (by omega)) qm_X7_53 qi_X7_move qs_X7_move qn_X7 qc_X7_move fit_X7_move ⟨Nat.le_of_ble_eq_true rfl, Nat.le_of_ble_eq_true rfl, Nat.le_of_ble_eq_true rfl, Nat.le_of_ble_eq_true rfl⟩ (Nat.le_of_ble_eq_true rfl) dX7_passLease_112 ?_
    refine j_aload_n C dX7_passLease_115 rfl rfl ?_
    refine jg_LeaseBookModel_z C (by first | assumption | rfl | exact kd_sums (by assumption) | exact kd_st1 (by assumption) | exact kd_st2 (by assumption) | exact kd_ls (by first | assumption | rfl) (by assumption) | exact kd_sb (by first | assumption | rfl) (by assumption) | exact kd_sv (by assumption)) qf_X7_7 dX7_passLease_116 ?_
    refine j_iload_n C dX7_passLease_119 rfl rfl ?_
    refine j_iconst (v := (nI 3)) C dX7_passLease_120 (by decide) ?_
    refine j_iaddN C dX7_passLease_121 ?_
    refine j_iload C dX7_passLease_122 rfl ?_
    refine j_iastN C (by first | assumption | rfl | exact kd_sums (by assumption) | exact kd_st1 (by assumption) | exact kd_st2 (by assumption) | exact kd_ls (by first | assumption | rfl) (by assumption) | exact kd_sb (by first | assumption | rfl) (by assumption) | exact kd_sv (by assumption)) rfl rfl (by omega) dX7_passLease_124 ?_
    refine j_aload_n C dX7_passLease_125 rfl rfl ?_
    refine jg_LeaseBookModel_z C (by first | assumption | rfl | exact kd_sums (by assumption) | exact kd_st1 (by assumption) | exact kd_st2 (by assumption) | exact kd_ls (by first | assumption | rfl) (by assumption) | exact kd_sb (by first | assumption | rfl) (by assumption) | exact kd_sv (by assumption)) qf_X7_7 dX7_passLease_126 ?_
    refine j_iload_n C dX7_passLease_129 rfl rfl ?_
    refine j_iconst (v := (nI 4)) C dX7_passLease_130 (by decide) ?_
    refine j_iaddN C dX7_passLease_131 ?_
    refine j_dup2 C dX7_passLease_132 rfl rfl ?_
    refine j_ialdN C (by first | assumption | rfl | exact kd_sums (by assumption) | exact kd_st1 (by assumption) | exact kd_st2 (by assumption) | exact kd_ls (by first | assumption | rfl) (by assumption) | exact kd_sb (by first | assumption | rfl) (by assumption) | exact kd_sv (by assumption)) rfl rfl (by omega) dX7_passLease_133 ?_
    refine j_iload_n C dX7_passLease_134 rfl rfl ?_
    refine j_isub C dX7_passLease_135 ?_
    refine j_iastN C (by first | assumption | rfl | exact kd_sums (by assumption) | exact kd_st1 (by assumption) | exact kd_st2 (by assumption) | exact kd_ls (by first | assumption | rfl) (by assumption) | exact kd_sb (by first | assumption | rfl) (by assumption) | exact kd_sv (by assumption)) rfl rfl (by omega) dX7_passLease_136 ?_
    refine j_aload_n C dX7_passLease_137 rfl rfl ?_
    refine j_iload_n C dX7_passLease_138 rfl rfl ?_
    refine j_callV1v C (oa_X7 (by first | assumption | rfl | exact kd_sums (by assumption) | exact kd_st1 (by assumption) | exact kd_st2 (by assumption) | exact kd_ls (by first | assumption | rfl) (by assumption) | exact kd_sb (by first | assumption | rfl) (by assumption) | exact kd_sv (by assumption))) rfl rfl (c_X7_passSubs hk8 (hR.pl0 hk8)) qm_X7_107 qi_X7_passSubs qs_X7_passSubs qn_X7 qc_X7_passSubs fit_X7_passSubs ⟨Nat.le_of_ble_eq_true rfl, Nat.le_of_ble_eq_true rfl, Nat.le_of_ble_eq_true rfl, Nat.le_of_ble_eq_true rfl⟩ (Nat.le_of_ble_eq_true rfl) dX7_passLease_139 ?_
    exact j_vret C dX7_passLease_142 rfl (by unfold rPL; rw [if_pos (by assumption)]; rfl) (by rfl)
  · replace h5 := b2i_0 h5
    exact j_vret C dX7_passLease_8 rfl (by unfold rPL; rw [if_neg (by assumption)]) (by rfl)
set_option maxHeartbeats 4000000 in
theorem c_X7_moved {l : Launch} {g : GC} {V : Mem} {L : LMem} {k q : Nat} (hk : k < 8) (hq : q < 17) : MC l yX7_moved cX7_moved 3 (some .int) 1 g V L [.ref (ad g 224), .int (nI k), .int (nI q)] (some (.int (rMoved V k q))) V L := by
  refine MC.of [some (.ref (ad g 224)), some (.int (nI k)), some (.int (nI q))] (by decide +kernel) rfl (Nat.le_of_ble_eq_true rfl) (fun p e s m args below meth c C => ?_)
  refine j_aload_n C dX7_moved_0 rfl rfl ?_
  refine jg_LeaseBookModel_z C (by first | assumption | rfl | exact kd_sums (by assumption) | exact kd_st1 (by assumption) | exact kd_st2 (by assumption) | exact kd_ls (by first | assumption | rfl) (by assumption) | exact kd_sb (by first | assumption | rfl) (by assumption) | exact kd_sv (by assumption)) qf_X7_7 dX7_moved_1 ?_
  refine j_iload_n C dX7_moved_4 rfl rfl ?_
  refine j_callS1r C (c_X7_at) qm_X7_32 qt_X7_at qn_X7 qc_X7_at fit_X7_at ⟨Nat.le_of_ble_eq_true rfl, Nat.le_of_ble_eq_true rfl, Nat.le_of_ble_eq_true rfl, Nat.le_of_ble_eq_true rfl⟩ (Nat.le_of_ble_eq_true rfl) dX7_moved_5 ?_
  refine j_iconst (v := (nI 5)) C dX7_moved_8 (by decide) ?_
  refine j_iaddN C dX7_moved_9 ?_
  refine j_iload_n C dX7_moved_10 rfl rfl ?_
  refine j_iaddN C dX7_moved_11 ?_
  refine j_ialdN C (by first | assumption | rfl | exact kd_sums (by assumption) | exact kd_st1 (by assumption) | exact kd_st2 (by assumption) | exact kd_ls (by first | assumption | rfl) (by assumption) | exact kd_sb (by first | assumption | rfl) (by assumption) | exact kd_sv (by assumption)) rfl rfl (by omega) dX7_moved_12 ?_
  exact j_iret C dX7_moved_13 (by rfl) (by rfl) (by rfl)
set_option maxHeartbeats 4000000 in
theorem c_X7_leaseOf {l : Launch} {g : GC} {V : Mem} {L : LMem} {k w nl ns : Nat} (hk : k < 8) (hw : w < 9) (hR : RR nl ns V) : MC l yX7_leaseOf cX7_leaseOf 4 (some .int) 2 g V L [.ref (ad g 224), .int (nI k), .int (nI w)] (some (.int (rLeaseOf V k ns w))) V L := by
  refine MC.of [some (.ref (ad g 224)), some (.int (nI k)), some (.int (nI w)), none] (by decide +kernel) rfl (Nat.le_of_ble_eq_true rfl) (fun p e s m args below meth c C => ?_)
  refine j_iload_n C dX7_leaseOf_0 rfl rfl ?_
  refine j_callS1r C (c_X7_at) qm_X7_32 qt_X7_at qn_X7 qc_X7_at fit_X7_at ⟨Nat.le_of_ble_eq_true rfl, Nat.le_of_ble_eq_true rfl, Nat.le_of_ble_eq_true rfl, Nat.le_of_ble_eq_true rfl⟩ (Nat.le_of_ble_eq_true rfl) dX7_leaseOf_1 ?_
  refine j_ist3 C dX7_leaseOf_4 rfl (Nat.le_of_ble_eq_true rfl) rfl ?_
  refine j_iload_n C dX7_leaseOf_5 rfl rfl ?_
  refine j_iconst (v := (nI 5)) C dX7_leaseOf_6 (by decide) ?_
  refine j_icmp_ge (tgt := 19) C dX7_leaseOf_7 (by decide) (fun h7 => ?_) (fun h7 => ?_)
  · have h5 : 5 ≤ w := i_ge (by omega) (by omega) h7
    refine j_iload_n C dX7_leaseOf_19 rfl rfl ?_
    refine j_bipush (v := (nI 6)) C dX7_leaseOf_20 (by decide) ?_
    refine j_icmp_ne (tgt := 43) C dX7_leaseOf_22 (by decide) (fun h22 => ?_) (fun h22 => ?_)
    · have h6 : ¬ w = 6 := fun q => absurd (by rw [q]) h22
      refine j_aload_n C dX7_leaseOf_43 rfl rfl ?_
      refine j_iload_n C dX7_leaseOf_44 rfl rfl ?_
      refine j_iload_n C dX7_leaseOf_45 rfl rfl ?_
      refine j_callV2r C (oa_X7 (by first | assumption | rfl | exact kd_sums (by assumption) | exact kd_st1 (by assumption) | exact kd_st2 (by assumption) | exact kd_ls (by first | assumption | rfl) (by assumption) | exact kd_sb (by first | assumption | rfl) (by assumption) | exact kd_sv (by assumption))) rfl rfl (c_X7_ofSubs hk hR) qm_X7_96 qi_X7_ofSubs qs_X7_ofSubs qn_X7 qc_X7_ofSubs fit_X7_ofSubs ⟨Nat.le_of_ble_eq_true rfl, Nat.le_of_ble_eq_true rfl, Nat.le_of_ble_eq_true rfl, Nat.le_of_ble_eq_true rfl⟩ (Nat.le_of_ble_eq_true rfl) dX7_leaseOf_46 ?_
      exact j_iret C dX7_leaseOf_49 (by unfold rLeaseOf; rw [if_neg (by omega)]; first | rw [if_pos h6] | rw [if_neg h6]) (by rfl) (by rfl)
    · have h6 : w = 6 := (nI_eq (by omega) (by omega)).mp h22
      refine j_aload_n C dX7_leaseOf_25 rfl rfl ?_
      refine jg_LeaseBookModel_z C (by first | assumption | rfl | exact kd_sums (by assumption) | exact kd_st1 (by assumption) | exact kd_st2 (by assumption) | exact kd_ls (by first | assumption | rfl) (by assumption) | exact kd_sb (by first | assumption | rfl) (by assumption) | exact kd_sv (by assumption)) qf_X7_7 dX7_leaseOf_26 ?_
      refine j_iload_n C dX7_leaseOf_29 rfl rfl ?_
      refine j_iconst (v := (nI 3)) C dX7_leaseOf_30 (by decide) ?_
      refine j_iaddN C dX7_leaseOf_31 ?_
      refine j_ialdN C (by first | assumption | rfl | exact kd_sums (by assumption) | exact kd_st1 (by assumption) | exact kd_st2 (by assumption) | exact kd_ls (by first | assumption | rfl) (by assumption) | exact kd_sb (by first | assumption | rfl) (by assumption) | exact kd_sv (by assumption)) rfl rfl (by omega) dX7_leaseOf_32 ?_
      refine j_aload_n C dX7_leaseOf_33 rfl rfl ?_
      refine j_iload_n C dX7_leaseOf_34 rfl rfl ?_
      refine j_iconst (v := (nI 5)) C dX7_leaseOf_35 (by decide) ?_
      refine j_callV2r C (oa_X7 (by first | assumption | rfl | exact kd_sums (by assumption) | exact kd_st1 (by assumption) | exact kd_st2 (by assumption) | exact kd_ls (by first | assumption | rfl) (by assumption) | exact kd_sb (by first | assumption | rfl) (by assumption) | exact kd_sv (by assumption))) rfl rfl (c_X7_ofSubs hk hR) qm_X7_96 qi_X7_ofSubs qs_X7_ofSubs qn_X7 qc_X7_ofSubs fit_X7_ofSubs ⟨Nat.le_of_ble_eq_true rfl, Nat.le_of_ble_eq_true rfl, Nat.le_of_ble_eq_true rfl, Nat.le_of_ble_eq_true rfl⟩ (Nat.le_of_ble_eq_true rfl) dX7_leaseOf_36 ?_
      refine j_isub C dX7_leaseOf_39 ?_
      refine j_goto (tgt := 49) C dX7_leaseOf_40 (by decide) ?_
      exact j_iret C dX7_leaseOf_49 (by unfold rLeaseOf; rw [if_neg (by omega)]; first | rw [if_pos h6] | rw [if_neg h6]) (by rfl) (by rfl)
  · have h5 : w < 5 := by rcases Nat.lt_or_ge w 5 with q | q; (· exact q); (· first | exact absurd (nI_le q (by omega)) h7 | exact absurd (nI_le q (by omega)) (Int32.not_le.mpr h7))
    refine j_aload_n C dX7_leaseOf_10 rfl rfl ?_
    refine jg_LeaseBookModel_z C (by first | assumption | rfl | exact kd_sums (by assumption) | exact kd_st1 (by assumption) | exact kd_st2 (by assumption) | exact kd_ls (by first | assumption | rfl) (by assumption) | exact kd_sb (by first | assumption | rfl) (by assumption) | exact kd_sv (by assumption)) qf_X7_7 dX7_leaseOf_11 ?_
    refine j_iload_n C dX7_leaseOf_14 rfl rfl ?_
    refine j_iload_n C dX7_leaseOf_15 rfl rfl ?_
    refine j_iaddN C dX7_leaseOf_16 ?_
    refine j_ialdN C (by first | assumption | rfl | exact kd_sums (by assumption) | exact kd_st1 (by assumption) | exact kd_st2 (by assumption) | exact kd_ls (by first | assumption | rfl) (by assumption) | exact kd_sb (by first | assumption | rfl) (by assumption) | exact kd_sv (by assumption)) rfl rfl (by omega) dX7_leaseOf_17 ?_
    exact j_iret C dX7_leaseOf_18 (by unfold rLeaseOf; rw [if_pos h5]) (by rfl) (by rfl)
set_option maxHeartbeats 4000000 in
theorem c_X7_profitOf {l : Launch} {g : GC} {V : Mem} {L : LMem} {k nl ns : Nat} {w : Int32} (hk : k < 8) (hR : RR nl ns V) : MC l yX7_profitOf cX7_profitOf 6 (some .int) 2 g V L [.ref (ad g 224), .int (nI k), .int w] (some (.int (if w = nI 1 then rProf1 V k ns else rProf0 V k))) V L := by
  refine MC.of [some (.ref (ad g 224)), some (.int (nI k)), some (.int w), none, none, none] (by decide +kernel) rfl (Nat.le_of_ble_eq_true rfl) (fun p e s m args below meth c C => ?_)
  refine j_aload_n C dX7_profitOf_0 rfl rfl ?_
  refine j_iload_n C dX7_profitOf_1 rfl rfl ?_
  refine j_bipush (v := (nI 16)) C dX7_profitOf_2 (by decide) ?_
  refine j_callV2r C (oa_X7 (by first | assumption | rfl | exact kd_sums (by assumption) | exact kd_st1 (by assumption) | exact kd_st2 (by assumption) | exact kd_ls (by first | assumption | rfl) (by assumption) | exact kd_sb (by first | assumption | rfl) (by assumption) | exact kd_sv (by assumption))) rfl rfl (c_X7_moved hk (by omega)) qm_X7_143 qi_X7_moved qs_X7_moved qn_X7 qc_X7_moved fit_X7_moved ⟨Nat.le_of_ble_eq_true rfl, Nat.le_of_ble_eq_true rfl, Nat.le_of_ble_eq_true rfl, Nat.le_of_ble_eq_true rfl⟩ (Nat.le_of_ble_eq_true rfl) dX7_profitOf_4 ?_
  refine j_ineg C dX7_profitOf_7 ?_
  refine j_ist3 C dX7_profitOf_8 rfl (Nat.le_of_ble_eq_true rfl) rfl ?_
  refine j_iload_n C dX7_profitOf_9 rfl rfl ?_
  refine j_iconst (v := (nI 1)) C dX7_profitOf_10 (by decide) ?_
  refine j_icmp_ne (tgt := 70) C dX7_profitOf_11 (by decide) (fun h11 => ?_) (fun h11 => ?_)
  · refine j_aload_n C dX7_profitOf_70 rfl rfl ?_
    refine j_iload_n C dX7_profitOf_71 rfl rfl ?_
    refine j_iconst (v := (nI 1)) C dX7_profitOf_72 (by decide) ?_
    refine j_callV2r C (oa_X7 (by first | assumption | rfl | exact kd_sums (by assumption) | exact kd_st1 (by assumption) | exact kd_st2 (by assumption) | exact kd_ls (by first | assumption | rfl) (by assumption) | exact kd_sb (by first | assumption | rfl) (by assumption) | exact kd_sv (by assumption))) rfl rfl (c_X7_moved hk (by omega)) qm_X7_143 qi_X7_moved qs_X7_moved qn_X7 qc_X7_moved fit_X7_moved ⟨Nat.le_of_ble_eq_true rfl, Nat.le_of_ble_eq_true rfl, Nat.le_of_ble_eq_true rfl, Nat.le_of_ble_eq_true rfl⟩ (Nat.le_of_ble_eq_true rfl) dX7_profitOf_73 ?_
    refine j_ineg C dX7_profitOf_76 ?_
    refine j_aload_n C dX7_profitOf_77 rfl rfl ?_
    refine j_iload_n C dX7_profitOf_78 rfl rfl ?_
    refine j_iconst (v := (nI 3)) C dX7_profitOf_79 (by decide) ?_
    refine j_callV2r C (oa_X7 (by first | assumption | rfl | exact kd_sums (by assumption) | exact kd_st1 (by assumption) | exact kd_st2 (by assumption) | exact kd_ls (by first | assumption | rfl) (by assumption) | exact kd_sb (by first | assumption | rfl) (by assumption) | exact kd_sv (by assumption))) rfl rfl (c_X7_moved hk (by omega)) qm_X7_143 qi_X7_moved qs_X7_moved qn_X7 qc_X7_moved fit_X7_moved ⟨Nat.le_of_ble_eq_true rfl, Nat.le_of_ble_eq_true rfl, Nat.le_of_ble_eq_true rfl, Nat.le_of_ble_eq_true rfl⟩ (Nat.le_of_ble_eq_true rfl) dX7_profitOf_80 ?_
    refine j_isub C dX7_profitOf_83 ?_
    refine j_aload_n C dX7_profitOf_84 rfl rfl ?_
    refine j_iload_n C dX7_profitOf_85 rfl rfl ?_
    refine j_iconst (v := (nI 4)) C dX7_profitOf_86 (by decide) ?_
    refine j_callV2r C (oa_X7 (by first | assumption | rfl | exact kd_sums (by assumption) | exact kd_st1 (by assumption) | exact kd_st2 (by assumption) | exact kd_ls (by first | assumption | rfl) (by assumption) | exact kd_sb (by first | assumption | rfl) (by assumption) | exact kd_sv (by assumption))) rfl rfl (c_X7_moved hk (by omega)) qm_X7_143 qi_X7_moved qs_X7_moved qn_X7 qc_X7_moved fit_X7_moved ⟨Nat.le_of_ble_eq_true rfl, Nat.le_of_ble_eq_true rfl, Nat.le_of_ble_eq_true rfl, Nat.le_of_ble_eq_true rfl⟩ (Nat.le_of_ble_eq_true rfl) dX7_profitOf_87 ?_
    refine j_iadd C dX7_profitOf_90 ?_
    refine j_ist4 C dX7_profitOf_91 (Nat.le_of_ble_eq_true rfl) rfl ?_
    refine j_aload_n C dX7_profitOf_93 rfl rfl ?_
    refine j_iload_n C dX7_profitOf_94 rfl rfl ?_
    refine j_bipush (v := (nI 6)) C dX7_profitOf_95 (by decide) ?_
    refine j_callV2r C (oa_X7 (by first | assumption | rfl | exact kd_sums (by assumption) | exact kd_st1 (by assumption) | exact kd_st2 (by assumption) | exact kd_ls (by first | assumption | rfl) (by assumption) | exact kd_sb (by first | assumption | rfl) (by assumption) | exact kd_sv (by assumption))) rfl rfl (c_X7_moved hk (by omega)) qm_X7_143 qi_X7_moved qs_X7_moved qn_X7 qc_X7_moved fit_X7_moved ⟨Nat.le_of_ble_eq_true rfl, Nat.le_of_ble_eq_true rfl, Nat.le_of_ble_eq_true rfl, Nat.le_of_ble_eq_true rfl⟩ (Nat.le_of_ble_eq_true rfl) dX7_profitOf_97 ?_
    refine j_ineg C dX7_profitOf_100 ?_
    refine j_aload_n C dX7_profitOf_101 rfl rfl ?_
    refine j_iload_n C dX7_profitOf_102 rfl rfl ?_
    refine j_bipush (v := (nI 7)) C dX7_profitOf_103 (by decide) ?_
    refine j_callV2r C (oa_X7 (by first | assumption | rfl | exact kd_sums (by assumption) | exact kd_st1 (by assumption) | exact kd_st2 (by assumption) | exact kd_ls (by first | assumption | rfl) (by assumption) | exact kd_sb (by first | assumption | rfl) (by assumption) | exact kd_sv (by assumption))) rfl rfl (c_X7_moved hk (by omega)) qm_X7_143 qi_X7_moved qs_X7_moved qn_X7 qc_X7_moved fit_X7_moved ⟨Nat.le_of_ble_eq_true rfl, Nat.le_of_ble_eq_true rfl, Nat.le_of_ble_eq_true rfl, Nat.le_of_ble_eq_true rfl⟩ (Nat.le_of_ble_eq_true rfl) dX7_profitOf_105 ?_
    refine j_iadd C dX7_profitOf_108 ?_
    refine j_aload_n C dX7_profitOf_109 rfl rfl ?_
    refine j_iload_n C dX7_profitOf_110 rfl rfl ?_
    refine j_bipush (v := (nI 8)) C dX7_profitOf_111 (by decide) ?_
    refine j_callV2r C (oa_X7 (by first | assumption | rfl | exact kd_sums (by assumption) | exact kd_st1 (by assumption) | exact kd_st2 (by assumption) | exact kd_ls (by first | assumption | rfl) (by assumption) | exact kd_sb (by first | assumption | rfl) (by assumption) | exact kd_sv (by assumption))) rfl rfl (c_X7_moved hk (by omega)) qm_X7_143 qi_X7_moved qs_X7_moved qn_X7 qc_X7_moved fit_X7_moved ⟨Nat.le_of_ble_eq_true rfl, Nat.le_of_ble_eq_true rfl, Nat.le_of_ble_eq_true rfl, Nat.le_of_ble_eq_true rfl⟩ (Nat.le_of_ble_eq_true rfl) dX7_profitOf_113 ?_
    refine j_isub C dX7_profitOf_116 ?_
    refine j_aload_n C dX7_profitOf_117 rfl rfl ?_
    refine j_iload_n C dX7_profitOf_118 rfl rfl ?_
    refine j_bipush (v := (nI 9)) C dX7_profitOf_119 (by decide) ?_
    refine j_callV2r C (oa_X7 (by first | assumption | rfl | exact kd_sums (by assumption) | exact kd_st1 (by assumption) | exact kd_st2 (by assumption) | exact kd_ls (by first | assumption | rfl) (by assumption) | exact kd_sb (by first | assumption | rfl) (by assumption) | exact kd_sv (by assumption))) rfl rfl (c_X7_moved hk (by omega)) qm_X7_143 qi_X7_moved qs_X7_moved qn_X7 qc_X7_moved fit_X7_moved ⟨Nat.le_of_ble_eq_true rfl, Nat.le_of_ble_eq_true rfl, Nat.le_of_ble_eq_true rfl, Nat.le_of_ble_eq_true rfl⟩ (Nat.le_of_ble_eq_true rfl) dX7_profitOf_121 ?_
    refine j_isub C dX7_profitOf_124 ?_
    refine j_aload_n C dX7_profitOf_125 rfl rfl ?_
    refine j_iload_n C dX7_profitOf_126 rfl rfl ?_
    refine j_bipush (v := (nI 10)) C dX7_profitOf_127 (by decide) ?_
    refine j_callV2r C (oa_X7 (by first | assumption | rfl | exact kd_sums (by assumption) | exact kd_st1 (by assumption) | exact kd_st2 (by assumption) | exact kd_ls (by first | assumption | rfl) (by assumption) | exact kd_sb (by first | assumption | rfl) (by assumption) | exact kd_sv (by assumption))) rfl rfl (c_X7_moved hk (by omega)) qm_X7_143 qi_X7_moved qs_X7_moved qn_X7 qc_X7_moved fit_X7_moved ⟨Nat.le_of_ble_eq_true rfl, Nat.le_of_ble_eq_true rfl, Nat.le_of_ble_eq_true rfl, Nat.le_of_ble_eq_true rfl⟩ (Nat.le_of_ble_eq_true rfl) dX7_profitOf_129 ?_
    refine j_isub C dX7_profitOf_132 ?_
    refine j_ist5 C dX7_profitOf_133 (Nat.le_of_ble_eq_true rfl) rfl ?_
    refine j_iload_n C dX7_profitOf_135 rfl rfl ?_
    refine j_iload C dX7_profitOf_136 rfl ?_
    refine j_iadd C dX7_profitOf_138 ?_
    refine j_iload C dX7_profitOf_139 rfl ?_
    refine j_iadd C dX7_profitOf_141 ?_
    refine j_aload_n C dX7_profitOf_142 rfl rfl ?_
    refine j_iload_n C dX7_profitOf_143 rfl rfl ?_
    refine j_bipush (v := (nI 11)) C dX7_profitOf_144 (by decide) ?_
    refine j_callV2r C (oa_X7 (by first | assumption | rfl | exact kd_sums (by assumption) | exact kd_st1 (by assumption) | exact kd_st2 (by assumption) | exact kd_ls (by first | assumption | rfl) (by assumption) | exact kd_sb (by first | assumption | rfl) (by assumption) | exact kd_sv (by assumption))) rfl rfl (c_X7_moved hk (by omega)) qm_X7_143 qi_X7_moved qs_X7_moved qn_X7 qc_X7_moved fit_X7_moved ⟨Nat.le_of_ble_eq_true rfl, Nat.le_of_ble_eq_true rfl, Nat.le_of_ble_eq_true rfl, Nat.le_of_ble_eq_true rfl⟩ (Nat.le_of_ble_eq_true rfl) dX7_profitOf_146 ?_
    refine j_iadd C dX7_profitOf_149 ?_
    refine j_aload_n C dX7_profitOf_150 rfl rfl ?_
    refine j_iload_n C dX7_profitOf_151 rfl rfl ?_
    refine j_bipush (v := (nI 12)) C dX7_profitOf_152 (by decide) ?_
    refine j_callV2r C (oa_X7 (by first | assumption | rfl | exact kd_sums (by assumption) | exact kd_st1 (by assumption) | exact kd_st2 (by assumption) | exact kd_ls (by first | assumption | rfl) (by assumption) | exact kd_sb (by first | assumption | rfl) (by assumption) | exact kd_sv (by assumption))) rfl rfl (c_X7_moved hk (by omega)) qm_X7_143 qi_X7_moved qs_X7_moved qn_X7 qc_X7_moved fit_X7_moved ⟨Nat.le_of_ble_eq_true rfl, Nat.le_of_ble_eq_true rfl, Nat.le_of_ble_eq_true rfl, Nat.le_of_ble_eq_true rfl⟩ (Nat.le_of_ble_eq_true rfl) dX7_profitOf_154 ?_
    refine j_iadd C dX7_profitOf_157 ?_
    refine j_aload_n C dX7_profitOf_158 rfl rfl ?_
    refine j_iload_n C dX7_profitOf_159 rfl rfl ?_
    refine j_bipush (v := (nI 14)) C dX7_profitOf_160 (by decide) ?_
    refine j_callV2r C (oa_X7 (by first | assumption | rfl | exact kd_sums (by assumption) | exact kd_st1 (by assumption) | exact kd_st2 (by assumption) | exact kd_ls (by first | assumption | rfl) (by assumption) | exact kd_sb (by first | assumption | rfl) (by assumption) | exact kd_sv (by assumption))) rfl rfl (c_X7_moved hk (by omega)) qm_X7_143 qi_X7_moved qs_X7_moved qn_X7 qc_X7_moved fit_X7_moved ⟨Nat.le_of_ble_eq_true rfl, Nat.le_of_ble_eq_true rfl, Nat.le_of_ble_eq_true rfl, Nat.le_of_ble_eq_true rfl⟩ (Nat.le_of_ble_eq_true rfl) dX7_profitOf_162 ?_
    refine j_isub C dX7_profitOf_165 ?_
    exact j_iret C dX7_profitOf_166 (by rw [if_neg h11]; rfl) (by rfl) (by rfl)
  · refine j_iload_n C dX7_profitOf_14 rfl rfl ?_
    refine j_aload_n C dX7_profitOf_15 rfl rfl ?_
    refine jg_LeaseBookModel_z C (by first | assumption | rfl | exact kd_sums (by assumption) | exact kd_st1 (by assumption) | exact kd_st2 (by assumption) | exact kd_ls (by first | assumption | rfl) (by assumption) | exact kd_sb (by first | assumption | rfl) (by assumption) | exact kd_sv (by assumption)) qf_X7_7 dX7_profitOf_16 ?_
    refine j_iload_n C dX7_profitOf_19 rfl rfl ?_
    refine j_callS1r C (c_X7_at) qm_X7_32 qt_X7_at qn_X7 qc_X7_at fit_X7_at ⟨Nat.le_of_ble_eq_true rfl, Nat.le_of_ble_eq_true rfl, Nat.le_of_ble_eq_true rfl, Nat.le_of_ble_eq_true rfl⟩ (Nat.le_of_ble_eq_true rfl) dX7_profitOf_20 ?_
    refine j_iconst (v := (nI 4)) C dX7_profitOf_23 (by decide) ?_
    refine j_iaddN C dX7_profitOf_24 ?_
    refine j_ialdN C (by first | assumption | rfl | exact kd_sums (by assumption) | exact kd_st1 (by assumption) | exact kd_st2 (by assumption) | exact kd_ls (by first | assumption | rfl) (by assumption) | exact kd_sb (by first | assumption | rfl) (by assumption) | exact kd_sv (by assumption)) rfl rfl (by omega) dX7_profitOf_25 ?_
    refine j_iadd C dX7_profitOf_26 ?_
    refine j_aload_n C dX7_profitOf_27 rfl rfl ?_
    refine j_iload_n C dX7_profitOf_28 rfl rfl ?_
    refine j_iconst (v := (nI 5)) C dX7_profitOf_29 (by decide) ?_
    refine j_callV2r C (oa_X7 (by first | assumption | rfl | exact kd_sums (by assumption) | exact kd_st1 (by assumption) | exact kd_st2 (by assumption) | exact kd_ls (by first | assumption | rfl) (by assumption) | exact kd_sb (by first | assumption | rfl) (by assumption) | exact kd_sv (by assumption))) rfl rfl (c_X7_ofSubs hk hR) qm_X7_96 qi_X7_ofSubs qs_X7_ofSubs qn_X7 qc_X7_ofSubs fit_X7_ofSubs ⟨Nat.le_of_ble_eq_true rfl, Nat.le_of_ble_eq_true rfl, Nat.le_of_ble_eq_true rfl, Nat.le_of_ble_eq_true rfl⟩ (Nat.le_of_ble_eq_true rfl) dX7_profitOf_30 ?_
    refine j_iadd C dX7_profitOf_33 ?_
    refine j_aload_n C dX7_profitOf_34 rfl rfl ?_
    refine jg_LeaseBookModel_z C (by first | assumption | rfl | exact kd_sums (by assumption) | exact kd_st1 (by assumption) | exact kd_st2 (by assumption) | exact kd_ls (by first | assumption | rfl) (by assumption) | exact kd_sb (by first | assumption | rfl) (by assumption) | exact kd_sv (by assumption)) qf_X7_7 dX7_profitOf_35 ?_
    refine j_iload_n C dX7_profitOf_38 rfl rfl ?_
    refine j_callS1r C (c_X7_at) qm_X7_32 qt_X7_at qn_X7 qc_X7_at fit_X7_at ⟨Nat.le_of_ble_eq_true rfl, Nat.le_of_ble_eq_true rfl, Nat.le_of_ble_eq_true rfl, Nat.le_of_ble_eq_true rfl⟩ (Nat.le_of_ble_eq_true rfl) dX7_profitOf_39 ?_
    refine j_iconst (v := (nI 3)) C dX7_profitOf_42 (by decide) ?_
    refine j_iaddN C dX7_profitOf_43 ?_
    refine j_ialdN C (by first | assumption | rfl | exact kd_sums (by assumption) | exact kd_st1 (by assumption) | exact kd_st2 (by assumption) | exact kd_ls (by first | assumption | rfl) (by assumption) | exact kd_sb (by first | assumption | rfl) (by assumption) | exact kd_sv (by assumption)) rfl rfl (by omega) dX7_profitOf_44 ?_
    refine j_isub C dX7_profitOf_45 ?_
    refine j_aload_n C dX7_profitOf_46 rfl rfl ?_
    refine j_iload_n C dX7_profitOf_47 rfl rfl ?_
    refine j_bipush (v := (nI 13)) C dX7_profitOf_48 (by decide) ?_
    refine j_callV2r C (oa_X7 (by first | assumption | rfl | exact kd_sums (by assumption) | exact kd_st1 (by assumption) | exact kd_st2 (by assumption) | exact kd_ls (by first | assumption | rfl) (by assumption) | exact kd_sb (by first | assumption | rfl) (by assumption) | exact kd_sv (by assumption))) rfl rfl (c_X7_moved hk (by omega)) qm_X7_143 qi_X7_moved qs_X7_moved qn_X7 qc_X7_moved fit_X7_moved ⟨Nat.le_of_ble_eq_true rfl, Nat.le_of_ble_eq_true rfl, Nat.le_of_ble_eq_true rfl, Nat.le_of_ble_eq_true rfl⟩ (Nat.le_of_ble_eq_true rfl) dX7_profitOf_50 ?_
    refine j_iadd C dX7_profitOf_53 ?_
    refine j_aload_n C dX7_profitOf_54 rfl rfl ?_
    refine j_iload_n C dX7_profitOf_55 rfl rfl ?_
    refine j_iconst (v := (nI 2)) C dX7_profitOf_56 (by decide) ?_
    refine j_callV2r C (oa_X7 (by first | assumption | rfl | exact kd_sums (by assumption) | exact kd_st1 (by assumption) | exact kd_st2 (by assumption) | exact kd_ls (by first | assumption | rfl) (by assumption) | exact kd_sb (by first | assumption | rfl) (by assumption) | exact kd_sv (by assumption))) rfl rfl (c_X7_moved hk (by omega)) qm_X7_143 qi_X7_moved qs_X7_moved qn_X7 qc_X7_moved fit_X7_moved ⟨Nat.le_of_ble_eq_true rfl, Nat.le_of_ble_eq_true rfl, Nat.le_of_ble_eq_true rfl, Nat.le_of_ble_eq_true rfl⟩ (Nat.le_of_ble_eq_true rfl) dX7_profitOf_57 ?_
    refine j_isub C dX7_profitOf_60 ?_
    refine j_aload_n C dX7_profitOf_61 rfl rfl ?_
    refine j_iload_n C dX7_profitOf_62 rfl rfl ?_
    refine j_bipush (v := (nI 15)) C dX7_profitOf_63 (by decide) ?_
    refine j_callV2r C (oa_X7 (by first | assumption | rfl | exact kd_sums (by assumption) | exact kd_st1 (by assumption) | exact kd_st2 (by assumption) | exact kd_ls (by first | assumption | rfl) (by assumption) | exact kd_sb (by first | assumption | rfl) (by assumption) | exact kd_sv (by assumption))) rfl rfl (c_X7_moved hk (by omega)) qm_X7_143 qi_X7_moved qs_X7_moved qn_X7 qc_X7_moved fit_X7_moved ⟨Nat.le_of_ble_eq_true rfl, Nat.le_of_ble_eq_true rfl, Nat.le_of_ble_eq_true rfl, Nat.le_of_ble_eq_true rfl⟩ (Nat.le_of_ble_eq_true rfl) dX7_profitOf_65 ?_
    refine j_isub C dX7_profitOf_68 ?_
    exact j_iret C dX7_profitOf_69 (by rw [if_pos h11]; rfl) (by rfl) (by rfl)
set_option maxHeartbeats 4000000 in
theorem lp_X7_running {p : Program} {l : Launch} {e : Env} {s : State} {m : MethodId} {args : Array Value} {below : List Frame} {meth : Method} {c : Code} {g : GC} {Q : State → Prop} {V : Mem} {L : LMem} {nl ns : Nat} (C : Cx p s args m meth c cX7_running 3 yX7_running.cls (some .int) g) (hR : RR nl ns V) (kx : J p l e (RM 2) s m args below meth c 3 g 0 0 Q V L 36 [some (.ref (ad g 224)), some (.int (rRunning V (nl))), some (.int (nI (nl)))] []) : ∀ j i : Nat, i + j = nl → J p l e (RM 2) s m args below meth c 3 g 0 0 Q V L 4 [some (.ref (ad g 224)), some (.int (rRunning V i)), some (.int (nI i))] [] := by
  intro j
  induction j with
  | zero =>
    intro i hi
    have hi : nl = i := by omega
    subst hi
    refine j_iload_n C dX7_running_4 rfl rfl ?_
    refine j_aload_n C dX7_running_5 rfl rfl ?_
    refine jg_LeaseBookModel_z C (by first | assumption | rfl | exact kd_sums (by assumption) | exact kd_st1 (by assumption) | exact kd_st2 (by assumption) | exact kd_ls (by first | assumption | rfl) (by assumption) | exact kd_sb (by first | assumption | rfl) (by assumption) | exact kd_sv (by assumption)) qf_X7_7 dX7_running_6 ?_
    refine j_iconst (v := (nI 0)) C dX7_running_9 (by decide) ?_
    refine j_ialdN C (by first | assumption | rfl | exact kd_sums (by assumption) | exact kd_st1 (by assumption) | exact kd_st2 (by assumption) | exact kd_ls (by first | assumption | rfl) (by assumption) | exact kd_sb (by first | assumption | rfl) (by assumption) | exact kd_sv (by assumption)) rfl rfl (by omega) dX7_running_10 ?_
    refine j_tope (y := nI nl) (by exact hR.2.2.1) ?_
    refine j_icmp_ge (tgt := 36) C dX7_running_11 (by decide) (fun h11 => ?_) (fun h11 => absurd (nI_le (by omega) (by have := hR.1; omega)) h11)
    exact kx
  | succ j ih =>
    intro i hi
    have h8 := hR.1
    refine j_iload_n C dX7_running_4 rfl rfl ?_
    refine j_aload_n C dX7_running_5 rfl rfl ?_
    refine jg_LeaseBookModel_z C (by first | assumption | rfl | exact kd_sums (by assumption) | exact kd_st1 (by assumption) | exact kd_st2 (by assumption) | exact kd_ls (by first | assumption | rfl) (by assumption) | exact kd_sb (by first | assumption | rfl) (by assumption) | exact kd_sv (by assumption)) qf_X7_7 dX7_running_6 ?_
    refine j_iconst (v := (nI 0)) C dX7_running_9 (by decide) ?_
    refine j_ialdN C (by first | assumption | rfl | exact kd_sums (by assumption) | exact kd_st1 (by assumption) | exact kd_st2 (by assumption) | exact kd_ls (by first | assumption | rfl) (by assumption) | exact kd_sb (by first | assumption | rfl) (by assumption) | exact kd_sv (by assumption)) rfl rfl (by omega) dX7_running_10 ?_
    refine j_tope (y := nI nl) (by exact hR.2.2.1) ?_
    refine j_icmp_ge (tgt := 36) C dX7_running_11 (by decide) (fun h11 => absurd h11 (nI_ge (by omega) (by omega))) (fun h11 => ?_)
    refine j_iload_n C dX7_running_14 rfl rfl ?_
    refine j_aload_n C dX7_running_15 rfl rfl ?_
    refine j_iload_n C dX7_running_16 rfl rfl ?_
    refine j_callV1r C (oa_X7 (by first | assumption | rfl | exact kd_sums (by assumption) | exact kd_st1 (by assumption) | exact kd_st2 (by assumption) | exact kd_ls (by first | assumption | rfl) (by assumption) | exact kd_sb (by first | assumption | rfl) (by assumption) | exact kd_sv (by assumption))) rfl rfl (c_X7_runs (by omega)) qm_X7_87 qi_X7_runs qs_X7_runs qn_X7 qc_X7_runs fit_X7_runs ⟨Nat.le_of_ble_eq_true rfl, Nat.le_of_ble_eq_true rfl, Nat.le_of_ble_eq_true rfl, Nat.le_of_ble_eq_true rfl⟩ (Nat.le_of_ble_eq_true rfl) dX7_running_17 ?_
    refine j_if_eq (tgt := 27) C dX7_running_20 (by decide) (fun h20 => ?_) (fun h20 => ?_)
    · replace h20 := b2i_0 h20
      refine j_iconst (v := (nI 0)) C dX7_running_27 (by decide) ?_
      refine j_iadd C dX7_running_28 ?_
      refine j_ist1 C dX7_running_29 rfl (Nat.le_of_ble_eq_true rfl) rfl ?_
      refine j_incN2 (q := 1) C dX7_running_30 (by decide) (Nat.le_of_ble_eq_true rfl) rfl ?_
      refine j_goto (tgt := 4) C dX7_running_33 (by decide) ?_
      refine j_mem (V' := V) (L' := L) (by rfl) rfl ?_
      exact j_dr (lv' := [some (.ref (ad g 224)), some (.int (rRunning V (i + 1))), some (.int (nI (i + 1)))]) (And.intro rfl (And.intro (by simp only [rRunning]; first | rw [if_pos h20] | rw [if_neg h20]) (And.intro rfl True.intro))) (ih (i + 1) (by omega))
    · replace h20 := b2i_1 h20
      refine j_iconst (v := (nI 1)) C dX7_running_23 (by decide) ?_
      refine j_goto (tgt := 28) C dX7_running_24 (by decide) ?_
      refine j_iadd C dX7_running_28 ?_
      refine j_ist1 C dX7_running_29 rfl (Nat.le_of_ble_eq_true rfl) rfl ?_
      refine j_incN2 (q := 1) C dX7_running_30 (by decide) (Nat.le_of_ble_eq_true rfl) rfl ?_
      refine j_goto (tgt := 4) C dX7_running_33 (by decide) ?_
      refine j_mem (V' := V) (L' := L) (by rfl) rfl ?_
      exact j_dr (lv' := [some (.ref (ad g 224)), some (.int (rRunning V (i + 1))), some (.int (nI (i + 1)))]) (And.intro rfl (And.intro (by simp only [rRunning]; first | rw [if_pos h20] | rw [if_neg h20]) (And.intro rfl True.intro))) (ih (i + 1) (by omega))
set_option maxHeartbeats 4000000 in
theorem c_X7_running {l : Launch} {g : GC} {V : Mem} {L : LMem} {nl ns : Nat} (hR : RR nl ns V) : MC l yX7_running cX7_running 3 (some .int) 2 g V L [.ref (ad g 224)] (some (.int (rRunning V nl))) V L := by
  refine MC.of [some (.ref (ad g 224)), none, none] (by decide +kernel) rfl (Nat.le_of_ble_eq_true rfl) (fun p e s m args below meth c C => ?_)
  refine j_iconst (v := (nI 0)) C dX7_running_0 (by decide) ?_
  refine j_ist1 C dX7_running_1 rfl (Nat.le_of_ble_eq_true rfl) rfl ?_
  refine j_iconst (v := (nI 0)) C dX7_running_2 (by decide) ?_
  refine j_ist2 C dX7_running_3 rfl (Nat.le_of_ble_eq_true rfl) rfl ?_
  refine lp_X7_running C hR ?_ nl 0 (by omega)
  refine j_iload_n C dX7_running_36 rfl rfl ?_
  exact j_iret C dX7_running_37 (by rfl) (by rfl) (by rfl)
set_option maxHeartbeats 4000000 in
theorem lp_X7_ofLeases {p : Program} {l : Launch} {e : Env} {s : State} {m : MethodId} {args : Array Value} {below : List Frame} {meth : Method} {c : Code} {g : GC} {Q : State → Prop} {V : Mem} {L : LMem} {nl ns w : Nat} (C : Cx p s args m meth c cX7_ofLeases 4 yX7_ofLeases.cls (some .int) g) (hw : w < 9) (hR : RR nl ns V) (kx : J p l e (RM 3) s m args below meth c 4 g 0 0 Q V L 29 [some (.ref (ad g 224)), some (.int (nI w)), some (.int (rOfL V ns w (nl))), some (.int (nI (nl)))] []) : ∀ j i : Nat, i + j = nl → J p l e (RM 3) s m args below meth c 4 g 0 0 Q V L 4 [some (.ref (ad g 224)), some (.int (nI w)), some (.int (rOfL V ns w i)), some (.int (nI i))] [] := by
  intro j
  induction j with
  | zero =>
    intro i hi
    have hi : nl = i := by omega
    subst hi
    refine j_iload_n C dX7_ofLeases_4 rfl rfl ?_
    refine j_aload_n C dX7_ofLeases_5 rfl rfl ?_
    refine jg_LeaseBookModel_z C (by first | assumption | rfl | exact kd_sums (by assumption) | exact kd_st1 (by assumption) | exact kd_st2 (by assumption) | exact kd_ls (by first | assumption | rfl) (by assumption) | exact kd_sb (by first | assumption | rfl) (by assumption) | exact kd_sv (by assumption)) qf_X7_7 dX7_ofLeases_6 ?_
    refine j_iconst (v := (nI 0)) C dX7_ofLeases_9 (by decide) ?_
    refine j_ialdN C (by first | assumption | rfl | exact kd_sums (by assumption) | exact kd_st1 (by assumption) | exact kd_st2 (by assumption) | exact kd_ls (by first | assumption | rfl) (by assumption) | exact kd_sb (by first | assumption | rfl) (by assumption) | exact kd_sv (by assumption)) rfl rfl (by omega) dX7_ofLeases_10 ?_
    refine j_tope (y := nI nl) (by exact hR.2.2.1) ?_
    refine j_icmp_ge (tgt := 29) C dX7_ofLeases_11 (by decide) (fun h11 => ?_) (fun h11 => absurd (nI_le (by omega) (by have := hR.1; omega)) h11)
    exact kx
  | succ j ih =>
    intro i hi
    have h8 := hR.1
    refine j_iload_n C dX7_ofLeases_4 rfl rfl ?_
    refine j_aload_n C dX7_ofLeases_5 rfl rfl ?_
    refine jg_LeaseBookModel_z C (by first | assumption | rfl | exact kd_sums (by assumption) | exact kd_st1 (by assumption) | exact kd_st2 (by assumption) | exact kd_ls (by first | assumption | rfl) (by assumption) | exact kd_sb (by first | assumption | rfl) (by assumption) | exact kd_sv (by assumption)) qf_X7_7 dX7_ofLeases_6 ?_
    refine j_iconst (v := (nI 0)) C dX7_ofLeases_9 (by decide) ?_
    refine j_ialdN C (by first | assumption | rfl | exact kd_sums (by assumption) | exact kd_st1 (by assumption) | exact kd_st2 (by assumption) | exact kd_ls (by first | assumption | rfl) (by assumption) | exact kd_sb (by first | assumption | rfl) (by assumption) | exact kd_sv (by assumption)) rfl rfl (by omega) dX7_ofLeases_10 ?_
    refine j_tope (y := nI nl) (by exact hR.2.2.1) ?_
    refine j_icmp_ge (tgt := 29) C dX7_ofLeases_11 (by decide) (fun h11 => absurd h11 (nI_ge (by omega) (by omega))) (fun h11 => ?_)
    refine j_iload_n C dX7_ofLeases_14 rfl rfl ?_
    refine j_aload_n C dX7_ofLeases_15 rfl rfl ?_
    refine j_iload_n C dX7_ofLeases_16 rfl rfl ?_
    refine j_iload_n C dX7_ofLeases_17 rfl rfl ?_
    refine j_callV2r C (oa_X7 (by first | assumption | rfl | exact kd_sums (by assumption) | exact kd_st1 (by assumption) | exact kd_st2 (by assumption) | exact kd_ls (by first | assumption | rfl) (by assumption) | exact kd_sb (by first | assumption | rfl) (by assumption) | exact kd_sv (by assumption))) rfl rfl (c_X7_leaseOf (by omega) hw hR) qm_X7_140 qi_X7_leaseOf qs_X7_leaseOf qn_X7 qc_X7_leaseOf fit_X7_leaseOf ⟨Nat.le_of_ble_eq_true rfl, Nat.le_of_ble_eq_true rfl, Nat.le_of_ble_eq_true rfl, Nat.le_of_ble_eq_true rfl⟩ (Nat.le_of_ble_eq_true rfl) dX7_ofLeases_18 ?_
    refine j_iadd C dX7_ofLeases_21 ?_
    refine j_ist2 C dX7_ofLeases_22 rfl (Nat.le_of_ble_eq_true rfl) rfl ?_
    refine j_incN3 (q := 1) C dX7_ofLeases_23 (by decide) (Nat.le_of_ble_eq_true rfl) rfl ?_
    refine j_goto (tgt := 4) C dX7_ofLeases_26 (by decide) ?_
    refine j_mem (V' := V) (L' := L) (by rfl) rfl ?_
    exact j_dr (lv' := [some (.ref (ad g 224)), some (.int (nI w)), some (.int (rOfL V ns w (i + 1))), some (.int (nI (i + 1)))]) (And.intro rfl (And.intro rfl (And.intro rfl (And.intro rfl True.intro)))) (ih (i + 1) (by omega))
set_option maxHeartbeats 4000000 in
theorem c_X7_ofLeases {l : Launch} {g : GC} {V : Mem} {L : LMem} {nl ns w : Nat} (hw : w < 9) (hR : RR nl ns V) : MC l yX7_ofLeases cX7_ofLeases 4 (some .int) 3 g V L [.ref (ad g 224), .int (nI w)] (some (.int (rOfL V ns w nl))) V L := by
  refine MC.of [some (.ref (ad g 224)), some (.int (nI w)), none, none] (by decide +kernel) rfl (Nat.le_of_ble_eq_true rfl) (fun p e s m args below meth c C => ?_)
  refine j_iconst (v := (nI 0)) C dX7_ofLeases_0 (by decide) ?_
  refine j_ist2 C dX7_ofLeases_1 rfl (Nat.le_of_ble_eq_true rfl) rfl ?_
  refine j_iconst (v := (nI 0)) C dX7_ofLeases_2 (by decide) ?_
  refine j_ist3 C dX7_ofLeases_3 rfl (Nat.le_of_ble_eq_true rfl) rfl ?_
  refine lp_X7_ofLeases C hw hR ?_ nl 0 (by omega)
  refine j_iload_n C dX7_ofLeases_29 rfl rfl ?_
  exact j_iret C dX7_ofLeases_30 (by rfl) (by rfl) (by rfl)
set_option maxHeartbeats 4000000 in
theorem lp_X7_profits {p : Program} {l : Launch} {e : Env} {s : State} {m : MethodId} {args : Array Value} {below : List Frame} {meth : Method} {c : Code} {g : GC} {Q : State → Prop} {V : Mem} {L : LMem} {nl ns : Nat} (C : Cx p s args m meth c cX7_profits 3 yX7_profits.cls (some .int) g) (hR : RR nl ns V) (kx : J p l e (RM 3) s m args below meth c 3 g 0 0 Q V L 29 [some (.ref (ad g 224)), some (.int (rProfs V (nl))), some (.int (nI (nl)))] []) : ∀ j i : Nat, i + j = nl → J p l e (RM 3) s m args below meth c 3 g 0 0 Q V L 4 [some (.ref (ad g 224)), some (.int (rProfs V i)), some (.int (nI i))] [] := by
  intro j
  induction j with
  | zero =>
    intro i hi
    have hi : nl = i := by omega
    subst hi
    refine j_iload_n C dX7_profits_4 rfl rfl ?_
    refine j_aload_n C dX7_profits_5 rfl rfl ?_
    refine jg_LeaseBookModel_z C (by first | assumption | rfl | exact kd_sums (by assumption) | exact kd_st1 (by assumption) | exact kd_st2 (by assumption) | exact kd_ls (by first | assumption | rfl) (by assumption) | exact kd_sb (by first | assumption | rfl) (by assumption) | exact kd_sv (by assumption)) qf_X7_7 dX7_profits_6 ?_
    refine j_iconst (v := (nI 0)) C dX7_profits_9 (by decide) ?_
    refine j_ialdN C (by first | assumption | rfl | exact kd_sums (by assumption) | exact kd_st1 (by assumption) | exact kd_st2 (by assumption) | exact kd_ls (by first | assumption | rfl) (by assumption) | exact kd_sb (by first | assumption | rfl) (by assumption) | exact kd_sv (by assumption)) rfl rfl (by omega) dX7_profits_10 ?_
    refine j_tope (y := nI nl) (by exact hR.2.2.1) ?_
    refine j_icmp_ge (tgt := 29) C dX7_profits_11 (by decide) (fun h11 => ?_) (fun h11 => absurd (nI_le (by omega) (by have := hR.1; omega)) h11)
    exact kx
  | succ j ih =>
    intro i hi
    have h8 := hR.1
    refine j_iload_n C dX7_profits_4 rfl rfl ?_
    refine j_aload_n C dX7_profits_5 rfl rfl ?_
    refine jg_LeaseBookModel_z C (by first | assumption | rfl | exact kd_sums (by assumption) | exact kd_st1 (by assumption) | exact kd_st2 (by assumption) | exact kd_ls (by first | assumption | rfl) (by assumption) | exact kd_sb (by first | assumption | rfl) (by assumption) | exact kd_sv (by assumption)) qf_X7_7 dX7_profits_6 ?_
    refine j_iconst (v := (nI 0)) C dX7_profits_9 (by decide) ?_
    refine j_ialdN C (by first | assumption | rfl | exact kd_sums (by assumption) | exact kd_st1 (by assumption) | exact kd_st2 (by assumption) | exact kd_ls (by first | assumption | rfl) (by assumption) | exact kd_sb (by first | assumption | rfl) (by assumption) | exact kd_sv (by assumption)) rfl rfl (by omega) dX7_profits_10 ?_
    refine j_tope (y := nI nl) (by exact hR.2.2.1) ?_
    refine j_icmp_ge (tgt := 29) C dX7_profits_11 (by decide) (fun h11 => absurd h11 (nI_ge (by omega) (by omega))) (fun h11 => ?_)
    refine j_iload_n C dX7_profits_14 rfl rfl ?_
    refine j_aload_n C dX7_profits_15 rfl rfl ?_
    refine j_iload_n C dX7_profits_16 rfl rfl ?_
    refine j_iconst (v := (nI 0)) C dX7_profits_17 (by decide) ?_
    refine j_callV2r C (oa_X7 (by first | assumption | rfl | exact kd_sums (by assumption) | exact kd_st1 (by assumption) | exact kd_st2 (by assumption) | exact kd_ls (by first | assumption | rfl) (by assumption) | exact kd_sb (by first | assumption | rfl) (by assumption) | exact kd_sv (by assumption))) rfl rfl (c_X7_profitOf (by omega) hR) qm_X7_146 qi_X7_profitOf qs_X7_profitOf qn_X7 qc_X7_profitOf fit_X7_profitOf ⟨Nat.le_of_ble_eq_true rfl, Nat.le_of_ble_eq_true rfl, Nat.le_of_ble_eq_true rfl, Nat.le_of_ble_eq_true rfl⟩ (Nat.le_of_ble_eq_true rfl) dX7_profits_18 ?_
    refine j_tope (y := rProf0 V i) (by rw [if_neg (by decide)]) ?_
    refine j_iadd C dX7_profits_21 ?_
    refine j_ist1 C dX7_profits_22 rfl (Nat.le_of_ble_eq_true rfl) rfl ?_
    refine j_incN2 (q := 1) C dX7_profits_23 (by decide) (Nat.le_of_ble_eq_true rfl) rfl ?_
    refine j_goto (tgt := 4) C dX7_profits_26 (by decide) ?_
    refine j_mem (V' := V) (L' := L) (by rfl) rfl ?_
    exact j_dr (lv' := [some (.ref (ad g 224)), some (.int (rProfs V (i + 1))), some (.int (nI (i + 1)))]) (And.intro rfl (And.intro rfl (And.intro rfl True.intro))) (ih (i + 1) (by omega))
set_option maxHeartbeats 4000000 in
theorem c_X7_profits {l : Launch} {g : GC} {V : Mem} {L : LMem} {nl ns : Nat} (hR : RR nl ns V) : MC l yX7_profits cX7_profits 3 (some .int) 3 g V L [.ref (ad g 224)] (some (.int (rProfs V nl))) V L := by
  refine MC.of [some (.ref (ad g 224)), none, none] (by decide +kernel) rfl (Nat.le_of_ble_eq_true rfl) (fun p e s m args below meth c C => ?_)
  refine j_iconst (v := (nI 0)) C dX7_profits_0 (by decide) ?_
  refine j_ist1 C dX7_profits_1 rfl (Nat.le_of_ble_eq_true rfl) rfl ?_
  refine j_iconst (v := (nI 0)) C dX7_profits_2 (by decide) ?_
  refine j_ist2 C dX7_profits_3 rfl (Nat.le_of_ble_eq_true rfl) rfl ?_
  refine lp_X7_profits C hR ?_ nl 0 (by omega)
  refine j_iload_n C dX7_profits_29 rfl rfl ?_
  exact j_iret C dX7_profits_30 (by rfl) (by rfl) (by rfl)
