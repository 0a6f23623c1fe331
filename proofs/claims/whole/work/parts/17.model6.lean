/-! THE MODEL'S PUBLIC METHODS, 1 (laid by wip/whole/p17.py) -/
set_option maxHeartbeats 4000000 in
theorem c_X7_open_1 {l : Launch} {g : GC} {V : Mem} {L : LMem} {p1 n r c0 : Int32} (hbad : ¬ (money p1 ∧ termR n ∧ rateR r ∧ money c0)) : MC l yX7_open cX7_open 5 (some .int) 6 g V L [.ref (ad g 224), .int p1, .int n, .int r, .int c0] (some (.int 0)) (thr 1 (thr 0 V)) L := by
  refine MC.of [some (.ref (ad g 224)), some (.int p1), some (.int n), some (.int r), some (.int c0)] (by decide +kernel) rfl (Nat.le_of_ble_eq_true rfl) (fun p e s m args below meth c C => ?_)
  skip
  refine j_aload_n C dX7_open_0 rfl rfl ?_
  refine j_iconst (v := (nI 0)) C dX7_open_1 (by decide) ?_
  refine jp_LeaseBookModel_thrown C (by first | assumption | rfl | exact kd_sums (by assumption) | exact kd_st1 (by assumption) | exact kd_st2 (by assumption) | exact kd_ls (by first | assumption | rfl) (by assumption) | exact kd_sb (by first | assumption | rfl) (by assumption) | exact kd_sv (by assumption)) qf_X7_25 dX7_open_2 ?_
  refine j_iload_n C dX7_open_5 rfl rfl ?_
  refine j_callS1r C (c_X7_isMoney) qm_X7_57 qt_X7_isMoney qn_X7 qc_X7_isMoney fit_X7_isMoney ⟨Nat.le_of_ble_eq_true rfl, Nat.le_of_ble_eq_true rfl, Nat.le_of_ble_eq_true rfl, Nat.le_of_ble_eq_true rfl⟩ (Nat.le_of_ble_eq_true rfl) dX7_open_6 ?_
  refine j_if_eq (tgt := 34) C dX7_open_9 (by decide) (fun h9 => ?_) (fun h9 => ?_)
  · replace h9 := b2i_0 h9
    refine j_aload_n C dX7_open_34 rfl rfl ?_
    refine j_iconst (v := (nI 1)) C dX7_open_35 (by decide) ?_
    refine j_callV1r C (oa_X7 (by first | assumption | rfl | exact kd_sums (by assumption) | exact kd_st1 (by assumption) | exact kd_st2 (by assumption) | exact kd_ls (by first | assumption | rfl) (by assumption) | exact kd_sb (by first | assumption | rfl) (by assumption) | exact kd_sv (by assumption))) rfl rfl (c_X7_fails) qm_X7_67 qi_X7_fails qs_X7_fails qn_X7 qc_X7_fails fit_X7_fails ⟨Nat.le_of_ble_eq_true rfl, Nat.le_of_ble_eq_true rfl, Nat.le_of_ble_eq_true rfl, Nat.le_of_ble_eq_true rfl⟩ (Nat.le_of_ble_eq_true rfl) dX7_open_36 ?_
    exact j_iret C dX7_open_39 (by rfl) (by rfl) (by rfl)
  · replace h9 := b2i_1 h9
    refine j_iload_n C dX7_open_12 rfl rfl ?_
    refine j_callS1r C (c_X7_isTerm) qm_X7_61 qt_X7_isTerm qn_X7 qc_X7_isTerm fit_X7_isTerm ⟨Nat.le_of_ble_eq_true rfl, Nat.le_of_ble_eq_true rfl, Nat.le_of_ble_eq_true rfl, Nat.le_of_ble_eq_true rfl⟩ (Nat.le_of_ble_eq_true rfl) dX7_open_13 ?_
    refine j_if_eq (tgt := 34) C dX7_open_16 (by decide) (fun h16 => ?_) (fun h16 => ?_)
    · replace h16 := b2i_0 h16
      refine j_aload_n C dX7_open_34 rfl rfl ?_
      refine j_iconst (v := (nI 1)) C dX7_open_35 (by decide) ?_
      refine j_callV1r C (oa_X7 (by first | assumption | rfl | exact kd_sums (by assumption) | exact kd_st1 (by assumption) | exact kd_st2 (by assumption) | exact kd_ls (by first | assumption | rfl) (by assumption) | exact kd_sb (by first | assumption | rfl) (by assumption) | exact kd_sv (by assumption))) rfl rfl (c_X7_fails) qm_X7_67 qi_X7_fails qs_X7_fails qn_X7 qc_X7_fails fit_X7_fails ⟨Nat.le_of_ble_eq_true rfl, Nat.le_of_ble_eq_true rfl, Nat.le_of_ble_eq_true rfl, Nat.le_of_ble_eq_true rfl⟩ (Nat.le_of_ble_eq_true rfl) dX7_open_36 ?_
      exact j_iret C dX7_open_39 (by rfl) (by rfl) (by rfl)
    · replace h16 := b2i_1 h16
      refine j_iload_n C dX7_open_19 rfl rfl ?_
      refine j_callS1r C (c_X7_isRate) qm_X7_64 qt_X7_isRate qn_X7 qc_X7_isRate fit_X7_isRate ⟨Nat.le_of_ble_eq_true rfl, Nat.le_of_ble_eq_true rfl, Nat.le_of_ble_eq_true rfl, Nat.le_of_ble_eq_true rfl⟩ (Nat.le_of_ble_eq_true rfl) dX7_open_20 ?_
      refine j_if_eq (tgt := 34) C dX7_open_23 (by decide) (fun h23 => ?_) (fun h23 => ?_)
      · replace h23 := b2i_0 h23
        refine j_aload_n C dX7_open_34 rfl rfl ?_
        refine j_iconst (v := (nI 1)) C dX7_open_35 (by decide) ?_
        refine j_callV1r C (oa_X7 (by first | assumption | rfl | exact kd_sums (by assumption) | exact kd_st1 (by assumption) | exact kd_st2 (by assumption) | exact kd_ls (by first | assumption | rfl) (by assumption) | exact kd_sb (by first | assumption | rfl) (by assumption) | exact kd_sv (by assumption))) rfl rfl (c_X7_fails) qm_X7_67 qi_X7_fails qs_X7_fails qn_X7 qc_X7_fails fit_X7_fails ⟨Nat.le_of_ble_eq_true rfl, Nat.le_of_ble_eq_true rfl, Nat.le_of_ble_eq_true rfl, Nat.le_of_ble_eq_true rfl⟩ (Nat.le_of_ble_eq_true rfl) dX7_open_36 ?_
        exact j_iret C dX7_open_39 (by rfl) (by rfl) (by rfl)
      · replace h23 := b2i_1 h23
        refine j_iload C dX7_open_26 rfl ?_
        refine j_callS1r C (c_X7_isMoney) qm_X7_57 qt_X7_isMoney qn_X7 qc_X7_isMoney fit_X7_isMoney ⟨Nat.le_of_ble_eq_true rfl, Nat.le_of_ble_eq_true rfl, Nat.le_of_ble_eq_true rfl, Nat.le_of_ble_eq_true rfl⟩ (Nat.le_of_ble_eq_true rfl) dX7_open_28 ?_
        refine j_if_ne (tgt := 40) C dX7_open_31 (by decide) (fun h31 => ?_) (fun h31 => ?_)
        · replace h31 := b2i_1 h31
          refine j_aload_n C dX7_open_40 rfl rfl ?_
          refine jg_LeaseBookModel_z C (by first | assumption | rfl | exact kd_sums (by assumption) | exact kd_st1 (by assumption) | exact kd_st2 (by assumption) | exact kd_ls (by first | assumption | rfl) (by assumption) | exact kd_sb (by first | assumption | rfl) (by assumption) | exact kd_sv (by assumption)) qf_X7_7 dX7_open_41 ?_
          refine j_iconst (v := (nI 0)) C dX7_open_44 (by decide) ?_
          refine j_ialdN C (by first | assumption | rfl | exact kd_sums (by assumption) | exact kd_st1 (by assumption) | exact kd_st2 (by assumption) | exact kd_ls (by first | assumption | rfl) (by assumption) | exact kd_sb (by first | assumption | rfl) (by assumption) | exact kd_sv (by assumption)) rfl rfl (by omega) dX7_open_45 ?_
          refine j_bipush (v := (nI 8)) C dX7_open_46 (by decide) ?_
          refine j_icmp_ne (tgt := 57) C dX7_open_48 (by decide) (fun h48 => ?_) (fun h48 => ?_)
          · exfalso
            first | contradiction | exact absurd (isL hV0 hk) (by assumption) | exact absurd ⟨by assumption, by assumption⟩ hbad | exact absurd ⟨by assumption, by assumption, by assumption⟩ hbad | exact absurd ⟨by assumption, by assumption, by assumption, by assumption⟩ hbad
          · exfalso
            first | contradiction | exact absurd (isL hV0 hk) (by assumption) | exact absurd ⟨by assumption, by assumption⟩ hbad | exact absurd ⟨by assumption, by assumption, by assumption⟩ hbad | exact absurd ⟨by assumption, by assumption, by assumption, by assumption⟩ hbad
        · replace h31 := b2i_0 h31
          refine j_aload_n C dX7_open_34 rfl rfl ?_
          refine j_iconst (v := (nI 1)) C dX7_open_35 (by decide) ?_
          refine j_callV1r C (oa_X7 (by first | assumption | rfl | exact kd_sums (by assumption) | exact kd_st1 (by assumption) | exact kd_st2 (by assumption) | exact kd_ls (by first | assumption | rfl) (by assumption) | exact kd_sb (by first | assumption | rfl) (by assumption) | exact kd_sv (by assumption))) rfl rfl (c_X7_fails) qm_X7_67 qi_X7_fails qs_X7_fails qn_X7 qc_X7_fails fit_X7_fails ⟨Nat.le_of_ble_eq_true rfl, Nat.le_of_ble_eq_true rfl, Nat.le_of_ble_eq_true rfl, Nat.le_of_ble_eq_true rfl⟩ (Nat.le_of_ble_eq_true rfl) dX7_open_36 ?_
          exact j_iret C dX7_open_39 (by rfl) (by rfl) (by rfl)
set_option maxHeartbeats 4000000 in
theorem c_X7_open_2 {l : Launch} {g : GC} {V : Mem} {L : LMem} {p1 n r c0 : Int32} (h1 : money p1) (h2 : termR n) (h3 : rateR r) (h4 : money c0) (hz : V 225 0 = nI 8) : MC l yX7_open cX7_open 5 (some .int) 6 g V L [.ref (ad g 224), .int p1, .int n, .int r, .int c0] (some (.int 0)) (thr 2 (thr 0 V)) L := by
  refine MC.of [some (.ref (ad g 224)), some (.int p1), some (.int n), some (.int r), some (.int c0)] (by decide +kernel) rfl (Nat.le_of_ble_eq_true rfl) (fun p e s m args below meth c C => ?_)
  skip
  refine j_aload_n C dX7_open_0 rfl rfl ?_
  refine j_iconst (v := (nI 0)) C dX7_open_1 (by decide) ?_
  refine jp_LeaseBookModel_thrown C (by first | assumption | rfl | exact kd_sums (by assumption) | exact kd_st1 (by assumption) | exact kd_st2 (by assumption) | exact kd_ls (by first | assumption | rfl) (by assumption) | exact kd_sb (by first | assumption | rfl) (by assumption) | exact kd_sv (by assumption)) qf_X7_25 dX7_open_2 ?_
  refine j_iload_n C dX7_open_5 rfl rfl ?_
  refine j_callS1r C (c_X7_isMoney) qm_X7_57 qt_X7_isMoney qn_X7 qc_X7_isMoney fit_X7_isMoney ⟨Nat.le_of_ble_eq_true rfl, Nat.le_of_ble_eq_true rfl, Nat.le_of_ble_eq_true rfl, Nat.le_of_ble_eq_true rfl⟩ (Nat.le_of_ble_eq_true rfl) dX7_open_6 ?_
  refine j_if_eq (tgt := 34) C dX7_open_9 (by decide) (fun h9 => ?_) (fun h9 => ?_)
  · replace h9 := b2i_0 h9
    exfalso
    first | contradiction | exact absurd (isL hV0 hk) (by assumption) | exact absurd ⟨by assumption, by assumption⟩ hbad | exact absurd ⟨by assumption, by assumption, by assumption⟩ hbad | exact absurd ⟨by assumption, by assumption, by assumption, by assumption⟩ hbad | exact absurd hz (by assumption)
  · replace h9 := b2i_1 h9
    refine j_iload_n C dX7_open_12 rfl rfl ?_
    refine j_callS1r C (c_X7_isTerm) qm_X7_61 qt_X7_isTerm qn_X7 qc_X7_isTerm fit_X7_isTerm ⟨Nat.le_of_ble_eq_true rfl, Nat.le_of_ble_eq_true rfl, Nat.le_of_ble_eq_true rfl, Nat.le_of_ble_eq_true rfl⟩ (Nat.le_of_ble_eq_true rfl) dX7_open_13 ?_
    refine j_if_eq (tgt := 34) C dX7_open_16 (by decide) (fun h16 => ?_) (fun h16 => ?_)
    · replace h16 := b2i_0 h16
      exfalso
      first | contradiction | exact absurd (isL hV0 hk) (by assumption) | exact absurd ⟨by assumption, by assumption⟩ hbad | exact absurd ⟨by assumption, by assumption, by assumption⟩ hbad | exact absurd ⟨by assumption, by assumption, by assumption, by assumption⟩ hbad | exact absurd hz (by assumption)
    · replace h16 := b2i_1 h16
      refine j_iload_n C dX7_open_19 rfl rfl ?_
      refine j_callS1r C (c_X7_isRate) qm_X7_64 qt_X7_isRate qn_X7 qc_X7_isRate fit_X7_isRate ⟨Nat.le_of_ble_eq_true rfl, Nat.le_of_ble_eq_true rfl, Nat.le_of_ble_eq_true rfl, Nat.le_of_ble_eq_true rfl⟩ (Nat.le_of_ble_eq_true rfl) dX7_open_20 ?_
      refine j_if_eq (tgt := 34) C dX7_open_23 (by decide) (fun h23 => ?_) (fun h23 => ?_)
      · replace h23 := b2i_0 h23
        exfalso
        first | contradiction | exact absurd (isL hV0 hk) (by assumption) | exact absurd ⟨by assumption, by assumption⟩ hbad | exact absurd ⟨by assumption, by assumption, by assumption⟩ hbad | exact absurd ⟨by assumption, by assumption, by assumption, by assumption⟩ hbad | exact absurd hz (by assumption)
      · replace h23 := b2i_1 h23
        refine j_iload C dX7_open_26 rfl ?_
        refine j_callS1r C (c_X7_isMoney) qm_X7_57 qt_X7_isMoney qn_X7 qc_X7_isMoney fit_X7_isMoney ⟨Nat.le_of_ble_eq_true rfl, Nat.le_of_ble_eq_true rfl, Nat.le_of_ble_eq_true rfl, Nat.le_of_ble_eq_true rfl⟩ (Nat.le_of_ble_eq_true rfl) dX7_open_28 ?_
        refine j_if_ne (tgt := 40) C dX7_open_31 (by decide) (fun h31 => ?_) (fun h31 => ?_)
        · replace h31 := b2i_1 h31
          refine j_aload_n C dX7_open_40 rfl rfl ?_
          refine jg_LeaseBookModel_z C (by first | assumption | rfl | exact kd_sums (by assumption) | exact kd_st1 (by assumption) | exact kd_st2 (by assumption) | exact kd_ls (by first | assumption | rfl) (by assumption) | exact kd_sb (by first | assumption | rfl) (by assumption) | exact kd_sv (by assumption)) qf_X7_7 dX7_open_41 ?_
          refine j_iconst (v := (nI 0)) C dX7_open_44 (by decide) ?_
          refine j_ialdN C (by first | assumption | rfl | exact kd_sums (by assumption) | exact kd_st1 (by assumption) | exact kd_st2 (by assumption) | exact kd_ls (by first | assumption | rfl) (by assumption) | exact kd_sb (by first | assumption | rfl) (by assumption) | exact kd_sv (by assumption)) rfl rfl (by omega) dX7_open_45 ?_
          refine j_bipush (v := (nI 8)) C dX7_open_46 (by decide) ?_
          refine j_icmp_ne (tgt := 57) C dX7_open_48 (by decide) (fun h48 => ?_) (fun h48 => ?_)
          · exfalso
            first | contradiction | exact absurd (isL hV0 hk) (by assumption) | exact absurd ⟨by assumption, by assumption⟩ hbad | exact absurd ⟨by assumption, by assumption, by assumption⟩ hbad | exact absurd ⟨by assumption, by assumption, by assumption, by assumption⟩ hbad | exact absurd hz (by assumption)
          · refine j_aload_n C dX7_open_51 rfl rfl ?_
            refine j_iconst (v := (nI 2)) C dX7_open_52 (by decide) ?_
            refine j_callV1r C (oa_X7 (by first | assumption | rfl | exact kd_sums (by assumption) | exact kd_st1 (by assumption) | exact kd_st2 (by assumption) | exact kd_ls (by first | assumption | rfl) (by assumption) | exact kd_sb (by first | assumption | rfl) (by assumption) | exact kd_sv (by assumption))) rfl rfl (c_X7_fails) qm_X7_67 qi_X7_fails qs_X7_fails qn_X7 qc_X7_fails fit_X7_fails ⟨Nat.le_of_ble_eq_true rfl, Nat.le_of_ble_eq_true rfl, Nat.le_of_ble_eq_true rfl, Nat.le_of_ble_eq_true rfl⟩ (Nat.le_of_ble_eq_true rfl) dX7_open_53 ?_
            exact j_iret C dX7_open_56 (by rfl) (by rfl) (by rfl)
        · replace h31 := b2i_0 h31
          exfalso
          first | contradiction | exact absurd (isL hV0 hk) (by assumption) | exact absurd ⟨by assumption, by assumption⟩ hbad | exact absurd ⟨by assumption, by assumption, by assumption⟩ hbad | exact absurd ⟨by assumption, by assumption, by assumption, by assumption⟩ hbad | exact absurd hz (by assumption)
set_option maxHeartbeats 4000000 in
theorem c_X7_open_ok {l : Launch} {g : GC} {V : Mem} {L : LMem} {p1 n r c0 : Int32} {nl ns : Nat} (hR : RR nl ns V) {sv : Nat} (hsv : V 224 3 = nI sv) (hs6 : sv ≤ 6) (h1 : money p1) (h2 : termR n) (h3 : rateR r) (h4 : money c0) (hl : nl < 8) : MC l yX7_open cX7_open 5 (some .int) 6 g V L [.ref (ad g 224), .int p1, .int n, .int r, .int c0] (some (.int (rOpn nl p1 n r c0 (rSave sv (thr 0 V)) 225 0 - nI 1))) (rOpn nl p1 n r c0 (rSave sv (thr 0 V))) L := by
  refine MC.of [some (.ref (ad g 224)), some (.int p1), some (.int n), some (.int r), some (.int c0)] (by decide +kernel) rfl (Nat.le_of_ble_eq_true rfl) (fun p e s m args below meth c C => ?_)
  have hV0 : RR nl ns (mset V 224 6 (nI 0)) := hR.put (Or.inl (by decide))
  have hS : RR nl ns (rSave sv (mset V 224 6 (nI 0))) := hV0.row (rSave_row (by decide) (by decide))
  refine j_aload_n C dX7_open_0 rfl rfl ?_
  refine j_iconst (v := (nI 0)) C dX7_open_1 (by decide) ?_
  refine jp_LeaseBookModel_thrown C (by first | assumption | rfl | exact kd_sums (by assumption) | exact kd_st1 (by assumption) | exact kd_st2 (by assumption) | exact kd_ls (by first | assumption | rfl) (by assumption) | exact kd_sb (by first | assumption | rfl) (by assumption) | exact kd_sv (by assumption)) qf_X7_25 dX7_open_2 ?_
  refine j_iload_n C dX7_open_5 rfl rfl ?_
  refine j_callS1r C (c_X7_isMoney) qm_X7_57 qt_X7_isMoney qn_X7 qc_X7_isMoney fit_X7_isMoney ⟨Nat.le_of_ble_eq_true rfl, Nat.le_of_ble_eq_true rfl, Nat.le_of_ble_eq_true rfl, Nat.le_of_ble_eq_true rfl⟩ (Nat.le_of_ble_eq_true rfl) dX7_open_6 ?_
  refine j_if_eq (tgt := 34) C dX7_open_9 (by decide) (fun h9 => ?_) (fun h9 => ?_)
  · replace h9 := b2i_0 h9
    exfalso
    first | contradiction | exact absurd (isL hV0 hk) (by assumption) | exact absurd ⟨by assumption, by assumption⟩ hbad | exact absurd ⟨by assumption, by assumption, by assumption⟩ hbad | exact absurd ⟨by assumption, by assumption, by assumption, by assumption⟩ hbad | exact absurd (hR.2.2.1.symm.trans (by assumption)) (fun q => absurd ((nI_eq (by omega) (by omega)).mp q) (by omega))
  · replace h9 := b2i_1 h9
    refine j_iload_n C dX7_open_12 rfl rfl ?_
    refine j_callS1r C (c_X7_isTerm) qm_X7_61 qt_X7_isTerm qn_X7 qc_X7_isTerm fit_X7_isTerm ⟨Nat.le_of_ble_eq_true rfl, Nat.le_of_ble_eq_true rfl, Nat.le_of_ble_eq_true rfl, Nat.le_of_ble_eq_true rfl⟩ (Nat.le_of_ble_eq_true rfl) dX7_open_13 ?_
    refine j_if_eq (tgt := 34) C dX7_open_16 (by decide) (fun h16 => ?_) (fun h16 => ?_)
    · replace h16 := b2i_0 h16
      exfalso
      first | contradiction | exact absurd (isL hV0 hk) (by assumption) | exact absurd ⟨by assumption, by assumption⟩ hbad | exact absurd ⟨by assumption, by assumption, by assumption⟩ hbad | exact absurd ⟨by assumption, by assumption, by assumption, by assumption⟩ hbad | exact absurd (hR.2.2.1.symm.trans (by assumption)) (fun q => absurd ((nI_eq (by omega) (by omega)).mp q) (by omega))
    · replace h16 := b2i_1 h16
      refine j_iload_n C dX7_open_19 rfl rfl ?_
      refine j_callS1r C (c_X7_isRate) qm_X7_64 qt_X7_isRate qn_X7 qc_X7_isRate fit_X7_isRate ⟨Nat.le_of_ble_eq_true rfl, Nat.le_of_ble_eq_true rfl, Nat.le_of_ble_eq_true rfl, Nat.le_of_ble_eq_true rfl⟩ (Nat.le_of_ble_eq_true rfl) dX7_open_20 ?_
      refine j_if_eq (tgt := 34) C dX7_open_23 (by decide) (fun h23 => ?_) (fun h23 => ?_)
      · replace h23 := b2i_0 h23
        exfalso
        first | contradiction | exact absurd (isL hV0 hk) (by assumption) | exact absurd ⟨by assumption, by assumption⟩ hbad | exact absurd ⟨by assumption, by assumption, by assumption⟩ hbad | exact absurd ⟨by assumption, by assumption, by assumption, by assumption⟩ hbad | exact absurd (hR.2.2.1.symm.trans (by assumption)) (fun q => absurd ((nI_eq (by omega) (by omega)).mp q) (by omega))
      · replace h23 := b2i_1 h23
        refine j_iload C dX7_open_26 rfl ?_
        refine j_callS1r C (c_X7_isMoney) qm_X7_57 qt_X7_isMoney qn_X7 qc_X7_isMoney fit_X7_isMoney ⟨Nat.le_of_ble_eq_true rfl, Nat.le_of_ble_eq_true rfl, Nat.le_of_ble_eq_true rfl, Nat.le_of_ble_eq_true rfl⟩ (Nat.le_of_ble_eq_true rfl) dX7_open_28 ?_
        refine j_if_ne (tgt := 40) C dX7_open_31 (by decide) (fun h31 => ?_) (fun h31 => ?_)
        · replace h31 := b2i_1 h31
          refine j_aload_n C dX7_open_40 rfl rfl ?_
          refine jg_LeaseBookModel_z C (by first | assumption | rfl | exact kd_sums (by assumption) | exact kd_st1 (by assumption) | exact kd_st2 (by assumption) | exact kd_ls (by first | assumption | rfl) (by assumption) | exact kd_sb (by first | assumption | rfl) (by assumption) | exact kd_sv (by assumption)) qf_X7_7 dX7_open_41 ?_
          refine j_iconst (v := (nI 0)) C dX7_open_44 (by decide) ?_
          refine j_ialdN C (by first | assumption | rfl | exact kd_sums (by assumption) | exact kd_st1 (by assumption) | exact kd_st2 (by assumption) | exact kd_ls (by first | assumption | rfl) (by assumption) | exact kd_sb (by first | assumption | rfl) (by assumption) | exact kd_sv (by assumption)) rfl rfl (by omega) dX7_open_45 ?_
          refine j_bipush (v := (nI 8)) C dX7_open_46 (by decide) ?_
          refine j_icmp_ne (tgt := 57) C dX7_open_48 (by decide) (fun h48 => ?_) (fun h48 => ?_)
          · refine j_aload_n C dX7_open_57 rfl rfl ?_
            refine j_callV0v C (oa_X7 (by first | assumption | rfl | exact kd_sums (by assumption) | exact kd_st1 (by assumption) | exact kd_st2 (by assumption) | exact kd_ls (by first | assumption | rfl) (by assumption) | exact kd_sb (by first | assumption | rfl) (by assumption) | exact kd_sv (by assumption))) rfl rfl (c_X7_save (sv := sv) (by rw [mset_ne (by omega)]; exact hsv) hs6) qm_X7_70 qi_X7_save qs_X7_save qn_X7 qc_X7_save fit_X7_save ⟨Nat.le_of_ble_eq_true rfl, Nat.le_of_ble_eq_true rfl, Nat.le_of_ble_eq_true rfl, Nat.le_of_ble_eq_true rfl⟩ (Nat.le_of_ble_eq_true rfl) dX7_open_58 ?_
            refine j_aload_n C dX7_open_61 rfl rfl ?_
            refine j_iload_n C dX7_open_62 rfl rfl ?_
            refine j_iload_n C dX7_open_63 rfl rfl ?_
            refine j_iload_n C dX7_open_64 rfl rfl ?_
            refine j_iload C dX7_open_65 rfl ?_
            refine j_callV4v C (oa_X7 (by first | assumption | rfl | exact kd_sums (by assumption) | exact kd_st1 (by assumption) | exact kd_st2 (by assumption) | exact kd_ls (by first | assumption | rfl) (by assumption) | exact kd_sb (by first | assumption | rfl) (by assumption) | exact kd_sv (by assumption))) rfl rfl (c_X7_openNow hS.2.2.1 hl h3) qm_X7_73 qi_X7_openNow qs_X7_openNow qn_X7 qc_X7_openNow fit_X7_openNow ⟨Nat.le_of_ble_eq_true rfl, Nat.le_of_ble_eq_true rfl, Nat.le_of_ble_eq_true rfl, Nat.le_of_ble_eq_true rfl⟩ (Nat.le_of_ble_eq_true rfl) dX7_open_67 ?_
            refine j_aload_n C dX7_open_70 rfl rfl ?_
            refine jg_LeaseBookModel_z C (by first | assumption | rfl | exact kd_sums (by assumption) | exact kd_st1 (by assumption) | exact kd_st2 (by assumption) | exact kd_ls (by first | assumption | rfl) (by assumption) | exact kd_sb (by first | assumption | rfl) (by assumption) | exact kd_sv (by assumption)) qf_X7_7 dX7_open_71 ?_
            refine j_iconst (v := (nI 0)) C dX7_open_74 (by decide) ?_
            refine j_ialdN C (by first | assumption | rfl | exact kd_sums (by assumption) | exact kd_st1 (by assumption) | exact kd_st2 (by assumption) | exact kd_ls (by first | assumption | rfl) (by assumption) | exact kd_sb (by first | assumption | rfl) (by assumption) | exact kd_sv (by assumption)) rfl rfl (by omega) dX7_open_75 ?_
            refine j_iconst (v := (nI 1)) C dX7_open_76 (by decide) ?_
            refine j_isub C dX7_open_77 ?_
            exact j_iret C dX7_open_78 (by rfl) (by rfl) (by rfl)
          · exfalso
            first | contradiction | exact absurd (isL hV0 hk) (by assumption) | exact absurd ⟨by assumption, by assumption⟩ hbad | exact absurd ⟨by assumption, by assumption, by assumption⟩ hbad | exact absurd ⟨by assumption, by assumption, by assumption, by assumption⟩ hbad | exact absurd (hR.2.2.1.symm.trans (by assumption)) (fun q => absurd ((nI_eq (by omega) (by omega)).mp q) (by omega))
        · replace h31 := b2i_0 h31
          exfalso
          first | contradiction | exact absurd (isL hV0 hk) (by assumption) | exact absurd ⟨by assumption, by assumption⟩ hbad | exact absurd ⟨by assumption, by assumption, by assumption⟩ hbad | exact absurd ⟨by assumption, by assumption, by assumption, by assumption⟩ hbad | exact absurd (hR.2.2.1.symm.trans (by assumption)) (fun q => absurd ((nI_eq (by omega) (by omega)).mp q) (by omega))
set_option maxHeartbeats 4000000 in
theorem c_X7_term_1 {l : Launch} {g : GC} {V : Mem} {L : LMem} {x : Int32} {n r : Int32} (hbad : ¬ (nI 0 ≤ x ∧ x ≤ V 225 0 - nI 1)) : MC l yX7_term cX7_term 4 (some .int) 6 g V L [.ref (ad g 224), .int x, .int n, .int r] (some (.int 0)) (thr 1 (thr 0 V)) L := by
  refine MC.of [some (.ref (ad g 224)), some (.int x), some (.int n), some (.int r)] (by decide +kernel) rfl (Nat.le_of_ble_eq_true rfl) (fun p e s m args below meth c C => ?_)
  skip
  refine j_aload_n C dX7_term_0 rfl rfl ?_
  refine j_iconst (v := (nI 0)) C dX7_term_1 (by decide) ?_
  refine jp_LeaseBookModel_thrown C (by first | assumption | rfl | exact kd_sums (by assumption) | exact kd_st1 (by assumption) | exact kd_st2 (by assumption) | exact kd_ls (by first | assumption | rfl) (by assumption) | exact kd_sb (by first | assumption | rfl) (by assumption) | exact kd_sv (by assumption)) qf_X7_25 dX7_term_2 ?_
  refine j_aload_n C dX7_term_5 rfl rfl ?_
  refine j_iload_n C dX7_term_6 rfl rfl ?_
  refine j_callV1r C (oa_X7 (by first | assumption | rfl | exact kd_sums (by assumption) | exact kd_st1 (by assumption) | exact kd_st2 (by assumption) | exact kd_ls (by first | assumption | rfl) (by assumption) | exact kd_sb (by first | assumption | rfl) (by assumption) | exact kd_sv (by assumption))) rfl rfl (c_X7_isLease) qm_X7_84 qi_X7_isLease qs_X7_isLease qn_X7 qc_X7_isLease fit_X7_isLease ⟨Nat.le_of_ble_eq_true rfl, Nat.le_of_ble_eq_true rfl, Nat.le_of_ble_eq_true rfl, Nat.le_of_ble_eq_true rfl⟩ (Nat.le_of_ble_eq_true rfl) dX7_term_7 ?_
  refine j_if_ne (tgt := 19) C dX7_term_10 (by decide) (fun h10 => ?_) (fun h10 => ?_)
  · replace h10 := b2i_1 h10
    exfalso
    first | contradiction | exact absurd (isL hV0 hk) (by assumption) | exact absurd ⟨by assumption, by assumption⟩ hbad | exact absurd ⟨by assumption, by assumption, by assumption⟩ hbad | exact absurd ⟨by assumption, by assumption, by assumption, by assumption⟩ hbad | exact absurd (by assumption) hbad
  · replace h10 := b2i_0 h10
    refine j_aload_n C dX7_term_13 rfl rfl ?_
    refine j_iconst (v := (nI 1)) C dX7_term_14 (by decide) ?_
    refine j_callV1r C (oa_X7 (by first | assumption | rfl | exact kd_sums (by assumption) | exact kd_st1 (by assumption) | exact kd_st2 (by assumption) | exact kd_ls (by first | assumption | rfl) (by assumption) | exact kd_sb (by first | assumption | rfl) (by assumption) | exact kd_sv (by assumption))) rfl rfl (c_X7_fails) qm_X7_67 qi_X7_fails qs_X7_fails qn_X7 qc_X7_fails fit_X7_fails ⟨Nat.le_of_ble_eq_true rfl, Nat.le_of_ble_eq_true rfl, Nat.le_of_ble_eq_true rfl, Nat.le_of_ble_eq_true rfl⟩ (Nat.le_of_ble_eq_true rfl) dX7_term_15 ?_
    exact j_iret C dX7_term_18 (by rfl) (by rfl) (by rfl)
set_option maxHeartbeats 4000000 in
theorem c_X7_term_2 {l : Launch} {g : GC} {V : Mem} {L : LMem} {k nl ns : Nat} (hk : k < nl) (hR : RR nl ns V) {n r : Int32} (hbad : ¬ (termR n ∧ rateR r)) : MC l yX7_term cX7_term 4 (some .int) 6 g V L [.ref (ad g 224), .int (nI k), .int n, .int r] (some (.int 0)) (thr 2 (thr 0 V)) L := by
  refine MC.of [some (.ref (ad g 224)), some (.int (nI k)), some (.int n), some (.int r)] (by decide +kernel) rfl (Nat.le_of_ble_eq_true rfl) (fun p e s m args below meth c C => ?_)
  have hV0 : RR nl ns (mset V 224 6 (nI 0)) := hR.put (Or.inl (by decide))
  have hk8 : k < 8 := Nat.lt_of_lt_of_le hk hR.1
  refine j_aload_n C dX7_term_0 rfl rfl ?_
  refine j_iconst (v := (nI 0)) C dX7_term_1 (by decide) ?_
  refine jp_LeaseBookModel_thrown C (by first | assumption | rfl | exact kd_sums (by assumption) | exact kd_st1 (by assumption) | exact kd_st2 (by assumption) | exact kd_ls (by first | assumption | rfl) (by assumption) | exact kd_sb (by first | assumption | rfl) (by assumption) | exact kd_sv (by assumption)) qf_X7_25 dX7_term_2 ?_
  refine j_aload_n C dX7_term_5 rfl rfl ?_
  refine j_iload_n C dX7_term_6 rfl rfl ?_
  refine j_callV1r C (oa_X7 (by first | assumption | rfl | exact kd_sums (by assumption) | exact kd_st1 (by assumption) | exact kd_st2 (by assumption) | exact kd_ls (by first | assumption | rfl) (by assumption) | exact kd_sb (by first | assumption | rfl) (by assumption) | exact kd_sv (by assumption))) rfl rfl (c_X7_isLease) qm_X7_84 qi_X7_isLease qs_X7_isLease qn_X7 qc_X7_isLease fit_X7_isLease ⟨Nat.le_of_ble_eq_true rfl, Nat.le_of_ble_eq_true rfl, Nat.le_of_ble_eq_true rfl, Nat.le_of_ble_eq_true rfl⟩ (Nat.le_of_ble_eq_true rfl) dX7_term_7 ?_
  refine j_if_ne (tgt := 19) C dX7_term_10 (by decide) (fun h10 => ?_) (fun h10 => ?_)
  · replace h10 := b2i_1 h10
    refine j_iload_n C dX7_term_19 rfl rfl ?_
    refine j_callS1r C (c_X7_isTerm) qm_X7_61 qt_X7_isTerm qn_X7 qc_X7_isTerm fit_X7_isTerm ⟨Nat.le_of_ble_eq_true rfl, Nat.le_of_ble_eq_true rfl, Nat.le_of_ble_eq_true rfl, Nat.le_of_ble_eq_true rfl⟩ (Nat.le_of_ble_eq_true rfl) dX7_term_20 ?_
    refine j_if_eq (tgt := 33) C dX7_term_23 (by decide) (fun h23 => ?_) (fun h23 => ?_)
    · replace h23 := b2i_0 h23
      refine j_aload_n C dX7_term_33 rfl rfl ?_
      refine j_iconst (v := (nI 2)) C dX7_term_34 (by decide) ?_
      refine j_callV1r C (oa_X7 (by first | assumption | rfl | exact kd_sums (by assumption) | exact kd_st1 (by assumption) | exact kd_st2 (by assumption) | exact kd_ls (by first | assumption | rfl) (by assumption) | exact kd_sb (by first | assumption | rfl) (by assumption) | exact kd_sv (by assumption))) rfl rfl (c_X7_fails) qm_X7_67 qi_X7_fails qs_X7_fails qn_X7 qc_X7_fails fit_X7_fails ⟨Nat.le_of_ble_eq_true rfl, Nat.le_of_ble_eq_true rfl, Nat.le_of_ble_eq_true rfl, Nat.le_of_ble_eq_true rfl⟩ (Nat.le_of_ble_eq_true rfl) dX7_term_35 ?_
      exact j_iret C dX7_term_38 (by rfl) (by rfl) (by rfl)
    · replace h23 := b2i_1 h23
      refine j_iload_n C dX7_term_26 rfl rfl ?_
      refine j_callS1r C (c_X7_isRate) qm_X7_64 qt_X7_isRate qn_X7 qc_X7_isRate fit_X7_isRate ⟨Nat.le_of_ble_eq_true rfl, Nat.le_of_ble_eq_true rfl, Nat.le_of_ble_eq_true rfl, Nat.le_of_ble_eq_true rfl⟩ (Nat.le_of_ble_eq_true rfl) dX7_term_27 ?_
      refine j_if_ne (tgt := 39) C dX7_term_30 (by decide) (fun h30 => ?_) (fun h30 => ?_)
      · replace h30 := b2i_1 h30
        exfalso
        first | contradiction | exact absurd (isL hV0 hk) (by assumption) | exact absurd ⟨by assumption, by assumption⟩ hbad | exact absurd ⟨by assumption, by assumption, by assumption⟩ hbad | exact absurd ⟨by assumption, by assumption, by assumption, by assumption⟩ hbad | exact absurd (by assumption) hbad
      · replace h30 := b2i_0 h30
        refine j_aload_n C dX7_term_33 rfl rfl ?_
        refine j_iconst (v := (nI 2)) C dX7_term_34 (by decide) ?_
        refine j_callV1r C (oa_X7 (by first | assumption | rfl | exact kd_sums (by assumption) | exact kd_st1 (by assumption) | exact kd_st2 (by assumption) | exact kd_ls (by first | assumption | rfl) (by assumption) | exact kd_sb (by first | assumption | rfl) (by assumption) | exact kd_sv (by assumption))) rfl rfl (c_X7_fails) qm_X7_67 qi_X7_fails qs_X7_fails qn_X7 qc_X7_fails fit_X7_fails ⟨Nat.le_of_ble_eq_true rfl, Nat.le_of_ble_eq_true rfl, Nat.le_of_ble_eq_true rfl, Nat.le_of_ble_eq_true rfl⟩ (Nat.le_of_ble_eq_true rfl) dX7_term_35 ?_
        exact j_iret C dX7_term_38 (by rfl) (by rfl) (by rfl)
  · replace h10 := b2i_0 h10
    exfalso
    first | contradiction | exact absurd (isL hV0 hk) (by assumption) | exact absurd ⟨by assumption, by assumption⟩ hbad | exact absurd ⟨by assumption, by assumption, by assumption⟩ hbad | exact absurd ⟨by assumption, by assumption, by assumption, by assumption⟩ hbad | exact absurd (by assumption) hbad
set_option maxHeartbeats 4000000 in
theorem c_X7_term_3 {l : Launch} {g : GC} {V : Mem} {L : LMem} {k nl ns : Nat} (hk : k < nl) (hR : RR nl ns V) {n r : Int32} (h1 : termR n) (h2 : rateR r) (h3 : ¬ 0 < V 225 (3 + 22 * k + 1)) : MC l yX7_term cX7_term 4 (some .int) 6 g V L [.ref (ad g 224), .int (nI k), .int n, .int r] (some (.int 0)) (thr 3 (thr 0 V)) L := by
  refine MC.of [some (.ref (ad g 224)), some (.int (nI k)), some (.int n), some (.int r)] (by decide +kernel) rfl (Nat.le_of_ble_eq_true rfl) (fun p e s m args below meth c C => ?_)
  have hV0 : RR nl ns (mset V 224 6 (nI 0)) := hR.put (Or.inl (by decide))
  have hk8 : k < 8 := Nat.lt_of_lt_of_le hk hR.1
  refine j_aload_n C dX7_term_0 rfl rfl ?_
  refine j_iconst (v := (nI 0)) C dX7_term_1 (by decide) ?_
  refine jp_LeaseBookModel_thrown C (by first | assumption | rfl | exact kd_sums (by assumption) | exact kd_st1 (by assumption) | exact kd_st2 (by assumption) | exact kd_ls (by first | assumption | rfl) (by assumption) | exact kd_sb (by first | assumption | rfl) (by assumption) | exact kd_sv (by assumption)) qf_X7_25 dX7_term_2 ?_
  refine j_aload_n C dX7_term_5 rfl rfl ?_
  refine j_iload_n C dX7_term_6 rfl rfl ?_
  refine j_callV1r C (oa_X7 (by first | assumption | rfl | exact kd_sums (by assumption) | exact kd_st1 (by assumption) | exact kd_st2 (by assumption) | exact kd_ls (by first | assumption | rfl) (by assumption) | exact kd_sb (by first | assumption | rfl) (by assumption) | exact kd_sv (by assumption))) rfl rfl (c_X7_isLease) qm_X7_84 qi_X7_isLease qs_X7_isLease qn_X7 qc_X7_isLease fit_X7_isLease ⟨Nat.le_of_ble_eq_true rfl, Nat.le_of_ble_eq_true rfl, Nat.le_of_ble_eq_true rfl, Nat.le_of_ble_eq_true rfl⟩ (Nat.le_of_ble_eq_true rfl) dX7_term_7 ?_
  refine j_if_ne (tgt := 19) C dX7_term_10 (by decide) (fun h10 => ?_) (fun h10 => ?_)
  · replace h10 := b2i_1 h10
    refine j_iload_n C dX7_term_19 rfl rfl ?_
    refine j_callS1r C (c_X7_isTerm) qm_X7_61 qt_X7_isTerm qn_X7 qc_X7_isTerm fit_X7_isTerm ⟨Nat.le_of_ble_eq_true rfl, Nat.le_of_ble_eq_true rfl, Nat.le_of_ble_eq_true rfl, Nat.le_of_ble_eq_true rfl⟩ (Nat.le_of_ble_eq_true rfl) dX7_term_20 ?_
    refine j_if_eq (tgt := 33) C dX7_term_23 (by decide) (fun h23 => ?_) (fun h23 => ?_)
    · replace h23 := b2i_0 h23
      exfalso
      first | contradiction | exact absurd (isL hV0 hk) (by assumption) | exact absurd ⟨by assumption, by assumption⟩ hbad | exact absurd ⟨by assumption, by assumption, by assumption⟩ hbad | exact absurd ⟨by assumption, by assumption, by assumption, by assumption⟩ hbad
    · replace h23 := b2i_1 h23
      refine j_iload_n C dX7_term_26 rfl rfl ?_
      refine j_callS1r C (c_X7_isRate) qm_X7_64 qt_X7_isRate qn_X7 qc_X7_isRate fit_X7_isRate ⟨Nat.le_of_ble_eq_true rfl, Nat.le_of_ble_eq_true rfl, Nat.le_of_ble_eq_true rfl, Nat.le_of_ble_eq_true rfl⟩ (Nat.le_of_ble_eq_true rfl) dX7_term_27 ?_
      refine j_if_ne (tgt := 39) C dX7_term_30 (by decide) (fun h30 => ?_) (fun h30 => ?_)
      · replace h30 := b2i_1 h30
        refine j_aload_n C dX7_term_39 rfl rfl ?_
        refine j_iload_n C dX7_term_40 rfl rfl ?_
        refine j_callV1r C (oa_X7 (by first | assumption | rfl | exact kd_sums (by assumption) | exact kd_st1 (by assumption) | exact kd_st2 (by assumption) | exact kd_ls (by first | assumption | rfl) (by assumption) | exact kd_sb (by first | assumption | rfl) (by assumption) | exact kd_sv (by assumption))) rfl rfl (c_X7_runs hk8) qm_X7_87 qi_X7_runs qs_X7_runs qn_X7 qc_X7_runs fit_X7_runs ⟨Nat.le_of_ble_eq_true rfl, Nat.le_of_ble_eq_true rfl, Nat.le_of_ble_eq_true rfl, Nat.le_of_ble_eq_true rfl⟩ (Nat.le_of_ble_eq_true rfl) dX7_term_41 ?_
        refine j_if_ne (tgt := 53) C dX7_term_44 (by decide) (fun h44 => ?_) (fun h44 => ?_)
        · replace h44 := b2i_1 h44
          exfalso
          first | contradiction | exact absurd (isL hV0 hk) (by assumption) | exact absurd ⟨by assumption, by assumption⟩ hbad | exact absurd ⟨by assumption, by assumption, by assumption⟩ hbad | exact absurd ⟨by assumption, by assumption, by assumption, by assumption⟩ hbad
        · replace h44 := b2i_0 h44
          refine j_aload_n C dX7_term_47 rfl rfl ?_
          refine j_iconst (v := (nI 3)) C dX7_term_48 (by decide) ?_
          refine j_callV1r C (oa_X7 (by first | assumption | rfl | exact kd_sums (by assumption) | exact kd_st1 (by assumption) | exact kd_st2 (by assumption) | exact kd_ls (by first | assumption | rfl) (by assumption) | exact kd_sb (by first | assumption | rfl) (by assumption) | exact kd_sv (by assumption))) rfl rfl (c_X7_fails) qm_X7_67 qi_X7_fails qs_X7_fails qn_X7 qc_X7_fails fit_X7_fails ⟨Nat.le_of_ble_eq_true rfl, Nat.le_of_ble_eq_true rfl, Nat.le_of_ble_eq_true rfl, Nat.le_of_ble_eq_true rfl⟩ (Nat.le_of_ble_eq_true rfl) dX7_term_49 ?_
          exact j_iret C dX7_term_52 (by rfl) (by rfl) (by rfl)
      · replace h30 := b2i_0 h30
        exfalso
        first | contradiction | exact absurd (isL hV0 hk) (by assumption) | exact absurd ⟨by assumption, by assumption⟩ hbad | exact absurd ⟨by assumption, by assumption, by assumption⟩ hbad | exact absurd ⟨by assumption, by assumption, by assumption, by assumption⟩ hbad
  · replace h10 := b2i_0 h10
    exfalso
    first | contradiction | exact absurd (isL hV0 hk) (by assumption) | exact absurd ⟨by assumption, by assumption⟩ hbad | exact absurd ⟨by assumption, by assumption, by assumption⟩ hbad | exact absurd ⟨by assumption, by assumption, by assumption, by assumption⟩ hbad
set_option maxHeartbeats 4000000 in
theorem c_X7_term_ok {l : Launch} {g : GC} {V : Mem} {L : LMem} {k nl ns : Nat} (hk : k < nl) (hR : RR nl ns V) {n r : Int32} (h1 : termR n) (h2 : rateR r) (h3 : 0 < V 225 (3 + 22 * k + 1)) {sv : Nat} (hsv : V 224 3 = nI sv) (hs6 : sv ≤ 6) : MC l yX7_term cX7_term 4 (some .int) 6 g V L [.ref (ad g 224), .int (nI k), .int n, .int r] (some (.int (rMeas k ((rSave sv (thr 0 V)) 225 (3 + 22 * k)) n r ns (rSave sv (thr 0 V)) 225 (3 + 22 * k + 3)))) (rMeas k ((rSave sv (thr 0 V)) 225 (3 + 22 * k)) n r ns (rSave sv (thr 0 V))) L := by
  refine MC.of [some (.ref (ad g 224)), some (.int (nI k)), some (.int n), some (.int r)] (by decide +kernel) rfl (Nat.le_of_ble_eq_true rfl) (fun p e s m args below meth c C => ?_)
  have hV0 : RR nl ns (mset V 224 6 (nI 0)) := hR.put (Or.inl (by decide))
  have hk8 : k < 8 := Nat.lt_of_lt_of_le hk hR.1
  have hS : RR nl ns (rSave sv (mset V 224 6 (nI 0))) := hV0.row (rSave_row (by decide) (by decide))
  refine j_aload_n C dX7_term_0 rfl rfl ?_
  refine j_iconst (v := (nI 0)) C dX7_term_1 (by decide) ?_
  refine jp_LeaseBookModel_thrown C (by first | assumption | rfl | exact kd_sums (by assumption) | exact kd_st1 (by assumption) | exact kd_st2 (by assumption) | exact kd_ls (by first | assumption | rfl) (by assumption) | exact kd_sb (by first | assumption | rfl) (by assumption) | exact kd_sv (by assumption)) qf_X7_25 dX7_term_2 ?_
  refine j_aload_n C dX7_term_5 rfl rfl ?_
  refine j_iload_n C dX7_term_6 rfl rfl ?_
  refine j_callV1r C (oa_X7 (by first | assumption | rfl | exact kd_sums (by assumption) | exact kd_st1 (by assumption) | exact kd_st2 (by assumption) | exact kd_ls (by first | assumption | rfl) (by assumption) | exact kd_sb (by first | assumption | rfl) (by assumption) | exact kd_sv (by assumption))) rfl rfl (c_X7_isLease) qm_X7_84 qi_X7_isLease qs_X7_isLease qn_X7 qc_X7_isLease fit_X7_isLease ⟨Nat.le_of_ble_eq_true rfl, Nat.le_of_ble_eq_true rfl, Nat.le_of_ble_eq_true rfl, Nat.le_of_ble_eq_true rfl⟩ (Nat.le_of_ble_eq_true rfl) dX7_term_7 ?_
  refine j_if_ne (tgt := 19) C dX7_term_10 (by decide) (fun h10 => ?_) (fun h10 => ?_)
  · replace h10 := b2i_1 h10
    refine j_iload_n C dX7_term_19 rfl rfl ?_
    refine j_callS1r C (c_X7_isTerm) qm_X7_61 qt_X7_isTerm qn_X7 qc_X7_isTerm fit_X7_isTerm ⟨Nat.le_of_ble_eq_true rfl, Nat.le_of_ble_eq_true rfl, Nat.le_of_ble_eq_true rfl, Nat.le_of_ble_eq_true rfl⟩ (Nat.le_of_ble_eq_true rfl) dX7_term_20 ?_
    refine j_if_eq (tgt := 33) C dX7_term_23 (by decide) (fun h23 => ?_) (fun h23 => ?_)
    · replace h23 := b2i_0 h23
      exfalso
      first | contradiction | exact absurd (isL hV0 hk) (by assumption) | exact absurd ⟨by assumption, by assumption⟩ hbad | exact absurd ⟨by assumption, by assumption, by assumption⟩ hbad | exact absurd ⟨by assumption, by assumption, by assumption, by assumption⟩ hbad
    · replace h23 := b2i_1 h23
      refine j_iload_n C dX7_term_26 rfl rfl ?_
      refine j_callS1r C (c_X7_isRate) qm_X7_64 qt_X7_isRate qn_X7 qc_X7_isRate fit_X7_isRate ⟨Nat.le_of_ble_eq_true rfl, Nat.le_of_ble_eq_true rfl, Nat.le_of_ble_eq_true rfl, Nat.le_of_ble_eq_true rfl⟩ (Nat.le_of_ble_eq_true rfl) dX7_term_27 ?_
      refine j_if_ne (tgt := 39) C dX7_term_30 (by decide) (fun h30 => ?_) (fun h30 => ?_)
      · replace h30 := b2i_1 h30
        refine j_aload_n C dX7_term_39 rfl rfl ?_
        refine j_iload_n C dX7_term_40 rfl rfl ?_
        refine j_callV1r C (oa_X7 (by first | assumption | rfl | exact kd_sums (by assumption) | exact kd_st1 (by assumption) | exact kd_st2 (by assumption) | exact kd_ls (by first | assumption | rfl) (by assumption) | exact kd_sb (by first | assumption | rfl) (by assumption) | exact kd_sv (by assumption))) rfl rfl (c_X7_runs hk8) qm_X7_87 qi_X7_runs qs_X7_runs qn_X7 qc_X7_runs fit_X7_runs ⟨Nat.le_of_ble_eq_true rfl, Nat.le_of_ble_eq_true rfl, Nat.le_of_ble_eq_true rfl, Nat.le_of_ble_eq_true rfl⟩ (Nat.le_of_ble_eq_true rfl) dX7_term_41 ?_
        refine j_if_ne (tgt := 53) C dX7_term_44 (by decide) (fun h44 => ?_) (fun h44 => ?_)
        · replace h44 := b2i_1 h44
          refine j_aload_n C dX7_term_53 rfl rfl ?_
          refine j_callV0v C (oa_X7 (by first | assumption | rfl | exact kd_sums (by assumption) | exact kd_st1 (by assumption) | exact kd_st2 (by assumption) | exact kd_ls (by first | assumption | rfl) (by assumption) | exact kd_sb (by first | assumption | rfl) (by assumption) | exact kd_sv (by assumption))) rfl rfl (c_X7_save (sv := sv) (by rw [mset_ne (by omega)]; exact hsv) hs6) qm_X7_70 qi_X7_save qs_X7_save qn_X7 qc_X7_save fit_X7_save ⟨Nat.le_of_ble_eq_true rfl, Nat.le_of_ble_eq_true rfl, Nat.le_of_ble_eq_true rfl, Nat.le_of_ble_eq_true rfl⟩ (Nat.le_of_ble_eq_true rfl) dX7_term_54 ?_
          refine j_aload_n C dX7_term_57 rfl rfl ?_
          refine j_iload_n C dX7_term_58 rfl rfl ?_
          refine j_aload_n C dX7_term_59 rfl rfl ?_
          refine jg_LeaseBookModel_z C (by first | assumption | rfl | exact kd_sums (by assumption) | exact kd_st1 (by assumption) | exact kd_st2 (by assumption) | exact kd_ls (by first | assumption | rfl) (by assumption) | exact kd_sb (by first | assumption | rfl) (by assumption) | exact kd_sv (by assumption)) qf_X7_7 dX7_term_60 ?_
          refine j_iload_n C dX7_term_63 rfl rfl ?_
          refine j_callS1r C (c_X7_at) qm_X7_32 qt_X7_at qn_X7 qc_X7_at fit_X7_at ⟨Nat.le_of_ble_eq_true rfl, Nat.le_of_ble_eq_true rfl, Nat.le_of_ble_eq_true rfl, Nat.le_of_ble_eq_true rfl⟩ (Nat.le_of_ble_eq_true rfl) dX7_term_64 ?_
          refine j_ialdN C (by first | assumption | rfl | exact kd_sums (by assumption) | exact kd_st1 (by assumption) | exact kd_st2 (by assumption) | exact kd_ls (by first | assumption | rfl) (by assumption) | exact kd_sb (by first | assumption | rfl) (by assumption) | exact kd_sv (by assumption)) rfl rfl (by omega) dX7_term_67 ?_
          refine j_iload_n C dX7_term_68 rfl rfl ?_
          refine j_iload_n C dX7_term_69 rfl rfl ?_
          refine j_callV4v C (oa_X7 (by first | assumption | rfl | exact kd_sums (by assumption) | exact kd_st1 (by assumption) | exact kd_st2 (by assumption) | exact kd_ls (by first | assumption | rfl) (by assumption) | exact kd_sb (by first | assumption | rfl) (by assumption) | exact kd_sv (by assumption))) rfl rfl (c_X7_measure hk8 hS h2) qm_X7_90 qi_X7_measure qs_X7_measure qn_X7 qc_X7_measure fit_X7_measure ⟨Nat.le_of_ble_eq_true rfl, Nat.le_of_ble_eq_true rfl, Nat.le_of_ble_eq_true rfl, Nat.le_of_ble_eq_true rfl⟩ (Nat.le_of_ble_eq_true rfl) dX7_term_70 ?_
          refine j_aload_n C dX7_term_73 rfl rfl ?_
          refine jg_LeaseBookModel_z C (by first | assumption | rfl | exact kd_sums (by assumption) | exact kd_st1 (by assumption) | exact kd_st2 (by assumption) | exact kd_ls (by first | assumption | rfl) (by assumption) | exact kd_sb (by first | assumption | rfl) (by assumption) | exact kd_sv (by assumption)) qf_X7_7 dX7_term_74 ?_
          refine j_iload_n C dX7_term_77 rfl rfl ?_
          refine j_callS1r C (c_X7_at) qm_X7_32 qt_X7_at qn_X7 qc_X7_at fit_X7_at ⟨Nat.le_of_ble_eq_true rfl, Nat.le_of_ble_eq_true rfl, Nat.le_of_ble_eq_true rfl, Nat.le_of_ble_eq_true rfl⟩ (Nat.le_of_ble_eq_true rfl) dX7_term_78 ?_
          refine j_iconst (v := (nI 3)) C dX7_term_81 (by decide) ?_
          refine j_iaddN C dX7_term_82 ?_
          refine j_ialdN C (by first | assumption | rfl | exact kd_sums (by assumption) | exact kd_st1 (by assumption) | exact kd_st2 (by assumption) | exact kd_ls (by first | assumption | rfl) (by assumption) | exact kd_sb (by first | assumption | rfl) (by assumption) | exact kd_sv (by assumption)) rfl rfl (by omega) dX7_term_83 ?_
          exact j_iret C dX7_term_84 (by rfl) (by rfl) (by rfl)
        · replace h44 := b2i_0 h44
          exfalso
          first | contradiction | exact absurd (isL hV0 hk) (by assumption) | exact absurd ⟨by assumption, by assumption⟩ hbad | exact absurd ⟨by assumption, by assumption, by assumption⟩ hbad | exact absurd ⟨by assumption, by assumption, by assumption, by assumption⟩ hbad
      · replace h30 := b2i_0 h30
        exfalso
        first | contradiction | exact absurd (isL hV0 hk) (by assumption) | exact absurd ⟨by assumption, by assumption⟩ hbad | exact absurd ⟨by assumption, by assumption, by assumption⟩ hbad | exact absurd ⟨by assumption, by assumption, by assumption, by assumption⟩ hbad
  · replace h10 := b2i_0 h10
    exfalso
    first | contradiction | exact absurd (isL hV0 hk) (by assumption) | exact absurd ⟨by assumption, by assumption⟩ hbad | exact absurd ⟨by assumption, by assumption, by assumption⟩ hbad | exact absurd ⟨by assumption, by assumption, by assumption, by assumption⟩ hbad
set_option maxHeartbeats 4000000 in
theorem c_X7_rent_1 {l : Launch} {g : GC} {V : Mem} {L : LMem} {x : Int32} {p1 : Int32} (hbad : ¬ (nI 0 ≤ x ∧ x ≤ V 225 0 - nI 1)) : MC l yX7_rent cX7_rent 3 (some .int) 6 g V L [.ref (ad g 224), .int x, .int p1] (some (.int 0)) (thr 1 (thr 0 V)) L := by
  refine MC.of [some (.ref (ad g 224)), some (.int x), some (.int p1)] (by decide +kernel) rfl (Nat.le_of_ble_eq_true rfl) (fun p e s m args below meth c C => ?_)
  skip
  refine j_aload_n C dX7_rent_0 rfl rfl ?_
  refine j_iconst (v := (nI 0)) C dX7_rent_1 (by decide) ?_
  refine jp_LeaseBookModel_thrown C (by first | assumption | rfl | exact kd_sums (by assumption) | exact kd_st1 (by assumption) | exact kd_st2 (by assumption) | exact kd_ls (by first | assumption | rfl) (by assumption) | exact kd_sb (by first | assumption | rfl) (by assumption) | exact kd_sv (by assumption)) qf_X7_25 dX7_rent_2 ?_
  refine j_aload_n C dX7_rent_5 rfl rfl ?_
  refine j_iload_n C dX7_rent_6 rfl rfl ?_
  refine j_callV1r C (oa_X7 (by first | assumption | rfl | exact kd_sums (by assumption) | exact kd_st1 (by assumption) | exact kd_st2 (by assumption) | exact kd_ls (by first | assumption | rfl) (by assumption) | exact kd_sb (by first | assumption | rfl) (by assumption) | exact kd_sv (by assumption))) rfl rfl (c_X7_isLease) qm_X7_84 qi_X7_isLease qs_X7_isLease qn_X7 qc_X7_isLease fit_X7_isLease ⟨Nat.le_of_ble_eq_true rfl, Nat.le_of_ble_eq_true rfl, Nat.le_of_ble_eq_true rfl, Nat.le_of_ble_eq_true rfl⟩ (Nat.le_of_ble_eq_true rfl) dX7_rent_7 ?_
  refine j_if_ne (tgt := 19) C dX7_rent_10 (by decide) (fun h10 => ?_) (fun h10 => ?_)
  · replace h10 := b2i_1 h10
    exfalso
    first | contradiction | exact absurd (isL hV0 hk) (by assumption) | exact absurd ⟨by assumption, by assumption⟩ hbad | exact absurd ⟨by assumption, by assumption, by assumption⟩ hbad | exact absurd ⟨by assumption, by assumption, by assumption, by assumption⟩ hbad | exact absurd (by assumption) hbad
  · replace h10 := b2i_0 h10
    refine j_aload_n C dX7_rent_13 rfl rfl ?_
    refine j_iconst (v := (nI 1)) C dX7_rent_14 (by decide) ?_
    refine j_callV1r C (oa_X7 (by first | assumption | rfl | exact kd_sums (by assumption) | exact kd_st1 (by assumption) | exact kd_st2 (by assumption) | exact kd_ls (by first | assumption | rfl) (by assumption) | exact kd_sb (by first | assumption | rfl) (by assumption) | exact kd_sv (by assumption))) rfl rfl (c_X7_fails) qm_X7_67 qi_X7_fails qs_X7_fails qn_X7 qc_X7_fails fit_X7_fails ⟨Nat.le_of_ble_eq_true rfl, Nat.le_of_ble_eq_true rfl, Nat.le_of_ble_eq_true rfl, Nat.le_of_ble_eq_true rfl⟩ (Nat.le_of_ble_eq_true rfl) dX7_rent_15 ?_
    exact j_iret C dX7_rent_18 (by rfl) (by rfl) (by rfl)
set_option maxHeartbeats 4000000 in
theorem c_X7_rent_2 {l : Launch} {g : GC} {V : Mem} {L : LMem} {k nl ns : Nat} (hk : k < nl) (hR : RR nl ns V) {p1 : Int32} (hbad : ¬ (money p1)) : MC l yX7_rent cX7_rent 3 (some .int) 6 g V L [.ref (ad g 224), .int (nI k), .int p1] (some (.int 0)) (thr 2 (thr 0 V)) L := by
  refine MC.of [some (.ref (ad g 224)), some (.int (nI k)), some (.int p1)] (by decide +kernel) rfl (Nat.le_of_ble_eq_true rfl) (fun p e s m args below meth c C => ?_)
  have hV0 : RR nl ns (mset V 224 6 (nI 0)) := hR.put (Or.inl (by decide))
  have hk8 : k < 8 := Nat.lt_of_lt_of_le hk hR.1
  refine j_aload_n C dX7_rent_0 rfl rfl ?_
  refine j_iconst (v := (nI 0)) C dX7_rent_1 (by decide) ?_
  refine jp_LeaseBookModel_thrown C (by first | assumption | rfl | exact kd_sums (by assumption) | exact kd_st1 (by assumption) | exact kd_st2 (by assumption) | exact kd_ls (by first | assumption | rfl) (by assumption) | exact kd_sb (by first | assumption | rfl) (by assumption) | exact kd_sv (by assumption)) qf_X7_25 dX7_rent_2 ?_
  refine j_aload_n C dX7_rent_5 rfl rfl ?_
  refine j_iload_n C dX7_rent_6 rfl rfl ?_
  refine j_callV1r C (oa_X7 (by first | assumption | rfl | exact kd_sums (by assumption) | exact kd_st1 (by assumption) | exact kd_st2 (by assumption) | exact kd_ls (by first | assumption | rfl) (by assumption) | exact kd_sb (by first | assumption | rfl) (by assumption) | exact kd_sv (by assumption))) rfl rfl (c_X7_isLease) qm_X7_84 qi_X7_isLease qs_X7_isLease qn_X7 qc_X7_isLease fit_X7_isLease ⟨Nat.le_of_ble_eq_true rfl, Nat.le_of_ble_eq_true rfl, Nat.le_of_ble_eq_true rfl, Nat.le_of_ble_eq_true rfl⟩ (Nat.le_of_ble_eq_true rfl) dX7_rent_7 ?_
  refine j_if_ne (tgt := 19) C dX7_rent_10 (by decide) (fun h10 => ?_) (fun h10 => ?_)
  · replace h10 := b2i_1 h10
    refine j_iload_n C dX7_rent_19 rfl rfl ?_
    refine j_callS1r C (c_X7_isMoney) qm_X7_57 qt_X7_isMoney qn_X7 qc_X7_isMoney fit_X7_isMoney ⟨Nat.le_of_ble_eq_true rfl, Nat.le_of_ble_eq_true rfl, Nat.le_of_ble_eq_true rfl, Nat.le_of_ble_eq_true rfl⟩ (Nat.le_of_ble_eq_true rfl) dX7_rent_20 ?_
    refine j_if_ne (tgt := 32) C dX7_rent_23 (by decide) (fun h23 => ?_) (fun h23 => ?_)
    · replace h23 := b2i_1 h23
      exfalso
      first | contradiction | exact absurd (isL hV0 hk) (by assumption) | exact absurd ⟨by assumption, by assumption⟩ hbad | exact absurd ⟨by assumption, by assumption, by assumption⟩ hbad | exact absurd ⟨by assumption, by assumption, by assumption, by assumption⟩ hbad | exact absurd (by assumption) hbad
    · replace h23 := b2i_0 h23
      refine j_aload_n C dX7_rent_26 rfl rfl ?_
      refine j_iconst (v := (nI 2)) C dX7_rent_27 (by decide) ?_
      refine j_callV1r C (oa_X7 (by first | assumption | rfl | exact kd_sums (by assumption) | exact kd_st1 (by assumption) | exact kd_st2 (by assumption) | exact kd_ls (by first | assumption | rfl) (by assumption) | exact kd_sb (by first | assumption | rfl) (by assumption) | exact kd_sv (by assumption))) rfl rfl (c_X7_fails) qm_X7_67 qi_X7_fails qs_X7_fails qn_X7 qc_X7_fails fit_X7_fails ⟨Nat.le_of_ble_eq_true rfl, Nat.le_of_ble_eq_true rfl, Nat.le_of_ble_eq_true rfl, Nat.le_of_ble_eq_true rfl⟩ (Nat.le_of_ble_eq_true rfl) dX7_rent_28 ?_
      exact j_iret C dX7_rent_31 (by rfl) (by rfl) (by rfl)
  · replace h10 := b2i_0 h10
    exfalso
    first | contradiction | exact absurd (isL hV0 hk) (by assumption) | exact absurd ⟨by assumption, by assumption⟩ hbad | exact absurd ⟨by assumption, by assumption, by assumption⟩ hbad | exact absurd ⟨by assumption, by assumption, by assumption, by assumption⟩ hbad | exact absurd (by assumption) hbad
set_option maxHeartbeats 4000000 in
theorem c_X7_rent_3 {l : Launch} {g : GC} {V : Mem} {L : LMem} {k nl ns : Nat} (hk : k < nl) (hR : RR nl ns V) {p1 : Int32} (h1 : money p1) (h3 : ¬ 0 < V 225 (3 + 22 * k + 1)) : MC l yX7_rent cX7_rent 3 (some .int) 6 g V L [.ref (ad g 224), .int (nI k), .int p1] (some (.int 0)) (thr 3 (thr 0 V)) L := by
  refine MC.of [some (.ref (ad g 224)), some (.int (nI k)), some (.int p1)] (by decide +kernel) rfl (Nat.le_of_ble_eq_true rfl) (fun p e s m args below meth c C => ?_)
  have hV0 : RR nl ns (mset V 224 6 (nI 0)) := hR.put (Or.inl (by decide))
  have hk8 : k < 8 := Nat.lt_of_lt_of_le hk hR.1
  refine j_aload_n C dX7_rent_0 rfl rfl ?_
  refine j_iconst (v := (nI 0)) C dX7_rent_1 (by decide) ?_
  refine jp_LeaseBookModel_thrown C (by first | assumption | rfl | exact kd_sums (by assumption) | exact kd_st1 (by assumption) | exact kd_st2 (by assumption) | exact kd_ls (by first | assumption | rfl) (by assumption) | exact kd_sb (by first | assumption | rfl) (by assumption) | exact kd_sv (by assumption)) qf_X7_25 dX7_rent_2 ?_
  refine j_aload_n C dX7_rent_5 rfl rfl ?_
  refine j_iload_n C dX7_rent_6 rfl rfl ?_
  refine j_callV1r C (oa_X7 (by first | assumption | rfl | exact kd_sums (by assumption) | exact kd_st1 (by assumption) | exact kd_st2 (by assumption) | exact kd_ls (by first | assumption | rfl) (by assumption) | exact kd_sb (by first | assumption | rfl) (by assumption) | exact kd_sv (by assumption))) rfl rfl (c_X7_isLease) qm_X7_84 qi_X7_isLease qs_X7_isLease qn_X7 qc_X7_isLease fit_X7_isLease ⟨Nat.le_of_ble_eq_true rfl, Nat.le_of_ble_eq_true rfl, Nat.le_of_ble_eq_true rfl, Nat.le_of_ble_eq_true rfl⟩ (Nat.le_of_ble_eq_true rfl) dX7_rent_7 ?_
  refine j_if_ne (tgt := 19) C dX7_rent_10 (by decide) (fun h10 => ?_) (fun h10 => ?_)
  · replace h10 := b2i_1 h10
    refine j_iload_n C dX7_rent_19 rfl rfl ?_
    refine j_callS1r C (c_X7_isMoney) qm_X7_57 qt_X7_isMoney qn_X7 qc_X7_isMoney fit_X7_isMoney ⟨Nat.le_of_ble_eq_true rfl, Nat.le_of_ble_eq_true rfl, Nat.le_of_ble_eq_true rfl, Nat.le_of_ble_eq_true rfl⟩ (Nat.le_of_ble_eq_true rfl) dX7_rent_20 ?_
    refine j_if_ne (tgt := 32) C dX7_rent_23 (by decide) (fun h23 => ?_) (fun h23 => ?_)
    · replace h23 := b2i_1 h23
      refine j_aload_n C dX7_rent_32 rfl rfl ?_
      refine j_iload_n C dX7_rent_33 rfl rfl ?_
      refine j_callV1r C (oa_X7 (by first | assumption | rfl | exact kd_sums (by assumption) | exact kd_st1 (by assumption) | exact kd_st2 (by assumption) | exact kd_ls (by first | assumption | rfl) (by assumption) | exact kd_sb (by first | assumption | rfl) (by assumption) | exact kd_sv (by assumption))) rfl rfl (c_X7_runs hk8) qm_X7_87 qi_X7_runs qs_X7_runs qn_X7 qc_X7_runs fit_X7_runs ⟨Nat.le_of_ble_eq_true rfl, Nat.le_of_ble_eq_true rfl, Nat.le_of_ble_eq_true rfl, Nat.le_of_ble_eq_true rfl⟩ (Nat.le_of_ble_eq_true rfl) dX7_rent_34 ?_
      refine j_if_ne (tgt := 46) C dX7_rent_37 (by decide) (fun h37 => ?_) (fun h37 => ?_)
      · replace h37 := b2i_1 h37
        exfalso
        first | contradiction | exact absurd (isL hV0 hk) (by assumption) | exact absurd ⟨by assumption, by assumption⟩ hbad | exact absurd ⟨by assumption, by assumption, by assumption⟩ hbad | exact absurd ⟨by assumption, by assumption, by assumption, by assumption⟩ hbad
      · replace h37 := b2i_0 h37
        refine j_aload_n C dX7_rent_40 rfl rfl ?_
        refine j_iconst (v := (nI 3)) C dX7_rent_41 (by decide) ?_
        refine j_callV1r C (oa_X7 (by first | assumption | rfl | exact kd_sums (by assumption) | exact kd_st1 (by assumption) | exact kd_st2 (by assumption) | exact kd_ls (by first | assumption | rfl) (by assumption) | exact kd_sb (by first | assumption | rfl) (by assumption) | exact kd_sv (by assumption))) rfl rfl (c_X7_fails) qm_X7_67 qi_X7_fails qs_X7_fails qn_X7 qc_X7_fails fit_X7_fails ⟨Nat.le_of_ble_eq_true rfl, Nat.le_of_ble_eq_true rfl, Nat.le_of_ble_eq_true rfl, Nat.le_of_ble_eq_true rfl⟩ (Nat.le_of_ble_eq_true rfl) dX7_rent_42 ?_
        exact j_iret C dX7_rent_45 (by rfl) (by rfl) (by rfl)
    · replace h23 := b2i_0 h23
      exfalso
      first | contradiction | exact absurd (isL hV0 hk) (by assumption) | exact absurd ⟨by assumption, by assumption⟩ hbad | exact absurd ⟨by assumption, by assumption, by assumption⟩ hbad | exact absurd ⟨by assumption, by assumption, by assumption, by assumption⟩ hbad
  · replace h10 := b2i_0 h10
    exfalso
    first | contradiction | exact absurd (isL hV0 hk) (by assumption) | exact absurd ⟨by assumption, by assumption⟩ hbad | exact absurd ⟨by assumption, by assumption, by assumption⟩ hbad | exact absurd ⟨by assumption, by assumption, by assumption, by assumption⟩ hbad
set_option maxHeartbeats 4000000 in
theorem c_X7_rent_ok {l : Launch} {g : GC} {V : Mem} {L : LMem} {k nl ns : Nat} (hk : k < nl) (hR : RR nl ns V) {p1 : Int32} (h1 : money p1) (h3 : 0 < V 225 (3 + 22 * k + 1)) {sv : Nat} (hsv : V 224 3 = nI sv) (hs6 : sv ≤ 6) : MC l yX7_rent cX7_rent 3 (some .int) 6 g V L [.ref (ad g 224), .int (nI k), .int p1] (some (.int (rMeas k p1 ((rSave sv (thr 0 V)) 225 (3 + 22 * k + 1)) ((rSave sv (thr 0 V)) 225 (3 + 22 * k + 2)) ns (rSave sv (thr 0 V)) 225 (3 + 22 * k + 3)))) (rMeas k p1 ((rSave sv (thr 0 V)) 225 (3 + 22 * k + 1)) ((rSave sv (thr 0 V)) 225 (3 + 22 * k + 2)) ns (rSave sv (thr 0 V))) L := by
  refine MC.of [some (.ref (ad g 224)), some (.int (nI k)), some (.int p1)] (by decide +kernel) rfl (Nat.le_of_ble_eq_true rfl) (fun p e s m args below meth c C => ?_)
  have hV0 : RR nl ns (mset V 224 6 (nI 0)) := hR.put (Or.inl (by decide))
  have hk8 : k < 8 := Nat.lt_of_lt_of_le hk hR.1
  have hS : RR nl ns (rSave sv (mset V 224 6 (nI 0))) := hV0.row (rSave_row (by decide) (by decide))
  refine j_aload_n C dX7_rent_0 rfl rfl ?_
  refine j_iconst (v := (nI 0)) C dX7_rent_1 (by decide) ?_
  refine jp_LeaseBookModel_thrown C (by first | assumption | rfl | exact kd_sums (by assumption) | exact kd_st1 (by assumption) | exact kd_st2 (by assumption) | exact kd_ls (by first | assumption | rfl) (by assumption) | exact kd_sb (by first | assumption | rfl) (by assumption) | exact kd_sv (by assumption)) qf_X7_25 dX7_rent_2 ?_
  refine j_aload_n C dX7_rent_5 rfl rfl ?_
  refine j_iload_n C dX7_rent_6 rfl rfl ?_
  refine j_callV1r C (oa_X7 (by first | assumption | rfl | exact kd_sums (by assumption) | exact kd_st1 (by assumption) | exact kd_st2 (by assumption) | exact kd_ls (by first | assumption | rfl) (by assumption) | exact kd_sb (by first | assumption | rfl) (by assumption) | exact kd_sv (by assumption))) rfl rfl (c_X7_isLease) qm_X7_84 qi_X7_isLease qs_X7_isLease qn_X7 qc_X7_isLease fit_X7_isLease ⟨Nat.le_of_ble_eq_true rfl, Nat.le_of_ble_eq_true rfl, Nat.le_of_ble_eq_true rfl, Nat.le_of_ble_eq_true rfl⟩ (Nat.le_of_ble_eq_true rfl) dX7_rent_7 ?_
  refine j_if_ne (tgt := 19) C dX7_rent_10 (by decide) (fun h10 => ?_) (fun h10 => ?_)
  · replace h10 := b2i_1 h10
    refine j_iload_n C dX7_rent_19 rfl rfl ?_
    refine j_callS1r C (c_X7_isMoney) qm_X7_57 qt_X7_isMoney qn_X7 qc_X7_isMoney fit_X7_isMoney ⟨Nat.le_of_ble_eq_true rfl, Nat.le_of_ble_eq_true rfl, Nat.le_of_ble_eq_true rfl, Nat.le_of_ble_eq_true rfl⟩ (Nat.le_of_ble_eq_true rfl) dX7_rent_20 ?_
    refine j_if_ne (tgt := 32) C dX7_rent_23 (by decide) (fun h23 => ?_) (fun h23 => ?_)
    · replace h23 := b2i_1 h23
      refine j_aload_n C dX7_rent_32 rfl rfl ?_
      refine j_iload_n C dX7_rent_33 rfl rfl ?_
      refine j_callV1r C (oa_X7 (by first | assumption | rfl | exact kd_sums (by assumption) | exact kd_st1 (by assumption) | exact kd_st2 (by assumption) | exact kd_ls (by first | assumption | rfl) (by assumption) | exact kd_sb (by first | assumption | rfl) (by assumption) | exact kd_sv (by assumption))) rfl rfl (c_X7_runs hk8) qm_X7_87 qi_X7_runs qs_X7_runs qn_X7 qc_X7_runs fit_X7_runs ⟨Nat.le_of_ble_eq_true rfl, Nat.le_of_ble_eq_true rfl, Nat.le_of_ble_eq_true rfl, Nat.le_of_ble_eq_true rfl⟩ (Nat.le_of_ble_eq_true rfl) dX7_rent_34 ?_
      refine j_if_ne (tgt := 46) C dX7_rent_37 (by decide) (fun h37 => ?_) (fun h37 => ?_)
      · replace h37 := b2i_1 h37
        refine j_aload_n C dX7_rent_46 rfl rfl ?_
        refine j_callV0v C (oa_X7 (by first | assumption | rfl | exact kd_sums (by assumption) | exact kd_st1 (by assumption) | exact kd_st2 (by assumption) | exact kd_ls (by first | assumption | rfl) (by assumption) | exact kd_sb (by first | assumption | rfl) (by assumption) | exact kd_sv (by assumption))) rfl rfl (c_X7_save (sv := sv) (by rw [mset_ne (by omega)]; exact hsv) hs6) qm_X7_70 qi_X7_save qs_X7_save qn_X7 qc_X7_save fit_X7_save ⟨Nat.le_of_ble_eq_true rfl, Nat.le_of_ble_eq_true rfl, Nat.le_of_ble_eq_true rfl, Nat.le_of_ble_eq_true rfl⟩ (Nat.le_of_ble_eq_true rfl) dX7_rent_47 ?_
        refine j_aload_n C dX7_rent_50 rfl rfl ?_
        refine j_iload_n C dX7_rent_51 rfl rfl ?_
        refine j_iload_n C dX7_rent_52 rfl rfl ?_
        refine j_aload_n C dX7_rent_53 rfl rfl ?_
        refine jg_LeaseBookModel_z C (by first | assumption | rfl | exact kd_sums (by assumption) | exact kd_st1 (by assumption) | exact kd_st2 (by assumption) | exact kd_ls (by first | assumption | rfl) (by assumption) | exact kd_sb (by first | assumption | rfl) (by assumption) | exact kd_sv (by assumption)) qf_X7_7 dX7_rent_54 ?_
        refine j_iload_n C dX7_rent_57 rfl rfl ?_
        refine j_callS1r C (c_X7_at) qm_X7_32 qt_X7_at qn_X7 qc_X7_at fit_X7_at ⟨Nat.le_of_ble_eq_true rfl, Nat.le_of_ble_eq_true rfl, Nat.le_of_ble_eq_true rfl, Nat.le_of_ble_eq_true rfl⟩ (Nat.le_of_ble_eq_true rfl) dX7_rent_58 ?_
        refine j_iconst (v := (nI 1)) C dX7_rent_61 (by decide) ?_
        refine j_iaddN C dX7_rent_62 ?_
        refine j_ialdN C (by first | assumption | rfl | exact kd_sums (by assumption) | exact kd_st1 (by assumption) | exact kd_st2 (by assumption) | exact kd_ls (by first | assumption | rfl) (by assumption) | exact kd_sb (by first | assumption | rfl) (by assumption) | exact kd_sv (by assumption)) rfl rfl (by omega) dX7_rent_63 ?_
        refine j_aload_n C dX7_rent_64 rfl rfl ?_
        refine jg_LeaseBookModel_z C (by first | assumption | rfl | exact kd_sums (by assumption) | exact kd_st1 (by assumption) | exact kd_st2 (by assumption) | exact kd_ls (by first | assumption | rfl) (by assumption) | exact kd_sb (by first | assumption | rfl) (by assumption) | exact kd_sv (by assumption)) qf_X7_7 dX7_rent_65 ?_
        refine j_iload_n C dX7_rent_68 rfl rfl ?_
        refine j_callS1r C (c_X7_at) qm_X7_32 qt_X7_at qn_X7 qc_X7_at fit_X7_at ⟨Nat.le_of_ble_eq_true rfl, Nat.le_of_ble_eq_true rfl, Nat.le_of_ble_eq_true rfl, Nat.le_of_ble_eq_true rfl⟩ (Nat.le_of_ble_eq_true rfl) dX7_rent_69 ?_
        refine j_iconst (v := (nI 2)) C dX7_rent_72 (by decide) ?_
        refine j_iaddN C dX7_rent_73 ?_
        refine j_ialdN C (by first | assumption | rfl | exact kd_sums (by assumption) | exact kd_st1 (by assumption) | exact kd_st2 (by assumption) | exact kd_ls (by first | assumption | rfl) (by assumption) | exact kd_sb (by first | assumption | rfl) (by assumption) | exact kd_sv (by assumption)) rfl rfl (by omega) dX7_rent_74 ?_
        refine j_callV4v C (oa_X7 (by first | assumption | rfl | exact kd_sums (by assumption) | exact kd_st1 (by assumption) | exact kd_st2 (by assumption) | exact kd_ls (by first | assumption | rfl) (by assumption) | exact kd_sb (by first | assumption | rfl) (by assumption) | exact kd_sv (by assumption))) rfl rfl (c_X7_measure hk8 hS (hS.2.2.2.2.1 k hk)) qm_X7_90 qi_X7_measure qs_X7_measure qn_X7 qc_X7_measure fit_X7_measure ⟨Nat.le_of_ble_eq_true rfl, Nat.le_of_ble_eq_true rfl, Nat.le_of_ble_eq_true rfl, Nat.le_of_ble_eq_true rfl⟩ (Nat.le_of_ble_eq_true rfl) dX7_rent_75 ?_
        refine j_aload_n C dX7_rent_78 rfl rfl ?_
        refine jg_LeaseBookModel_z C (by first | assumption | rfl | exact kd_sums (by assumption) | exact kd_st1 (by assumption) | exact kd_st2 (by assumption) | exact kd_ls (by first | assumption | rfl) (by assumption) | exact kd_sb (by first | assumption | rfl) (by assumption) | exact kd_sv (by assumption)) qf_X7_7 dX7_rent_79 ?_
        refine j_iload_n C dX7_rent_82 rfl rfl ?_
        refine j_callS1r C (c_X7_at) qm_X7_32 qt_X7_at qn_X7 qc_X7_at fit_X7_at ⟨Nat.le_of_ble_eq_true rfl, Nat.le_of_ble_eq_true rfl, Nat.le_of_ble_eq_true rfl, Nat.le_of_ble_eq_true rfl⟩ (Nat.le_of_ble_eq_true rfl) dX7_rent_83 ?_
        refine j_iconst (v := (nI 3)) C dX7_rent_86 (by decide) ?_
        refine j_iaddN C dX7_rent_87 ?_
        refine j_ialdN C (by first | assumption | rfl | exact kd_sums (by assumption) | exact kd_st1 (by assumption) | exact kd_st2 (by assumption) | exact kd_ls (by first | assumption | rfl) (by assumption) | exact kd_sb (by first | assumption | rfl) (by assumption) | exact kd_sv (by assumption)) rfl rfl (by omega) dX7_rent_88 ?_
        exact j_iret C dX7_rent_89 (by rfl) (by rfl) (by rfl)
      · replace h37 := b2i_0 h37
        exfalso
        first | contradiction | exact absurd (isL hV0 hk) (by assumption) | exact absurd ⟨by assumption, by assumption⟩ hbad | exact absurd ⟨by assumption, by assumption, by assumption⟩ hbad | exact absurd ⟨by assumption, by assumption, by assumption, by assumption⟩ hbad
    · replace h23 := b2i_0 h23
      exfalso
      first | contradiction | exact absurd (isL hV0 hk) (by assumption) | exact absurd ⟨by assumption, by assumption⟩ hbad | exact absurd ⟨by assumption, by assumption, by assumption⟩ hbad | exact absurd ⟨by assumption, by assumption, by assumption, by assumption⟩ hbad
  · replace h10 := b2i_0 h10
    exfalso
    first | contradiction | exact absurd (isL hV0 hk) (by assumption) | exact absurd ⟨by assumption, by assumption⟩ hbad | exact absurd ⟨by assumption, by assumption, by assumption⟩ hbad | exact absurd ⟨by assumption, by assumption, by assumption, by assumption⟩ hbad
set_option maxHeartbeats 4000000 in
theorem c_X7_endPart_1 {l : Launch} {g : GC} {V : Mem} {L : LMem} {x : Int32} {t fee : Int32} (hbad : ¬ (nI 0 ≤ x ∧ x ≤ V 225 0 - nI 1)) : MC l yX7_endPart cX7_endPart 8 (some .int) 6 g V L [.ref (ad g 224), .int x, .int t, .int fee] (some (.int 0)) (thr 1 (thr 0 V)) L := by
  refine MC.of [some (.ref (ad g 224)), some (.int x), some (.int t), some (.int fee), none, none, none, none] (by decide +kernel) rfl (Nat.le_of_ble_eq_true rfl) (fun p e s m args below meth c C => ?_)
  skip
  refine j_aload_n C dX7_endPart_0 rfl rfl ?_
  refine j_iconst (v := (nI 0)) C dX7_endPart_1 (by decide) ?_
  refine jp_LeaseBookModel_thrown C (by first | assumption | rfl | exact kd_sums (by assumption) | exact kd_st1 (by assumption) | exact kd_st2 (by assumption) | exact kd_ls (by first | assumption | rfl) (by assumption) | exact kd_sb (by first | assumption | rfl) (by assumption) | exact kd_sv (by assumption)) qf_X7_25 dX7_endPart_2 ?_
  refine j_aload_n C dX7_endPart_5 rfl rfl ?_
  refine j_iload_n C dX7_endPart_6 rfl rfl ?_
  refine j_callV1r C (oa_X7 (by first | assumption | rfl | exact kd_sums (by assumption) | exact kd_st1 (by assumption) | exact kd_st2 (by assumption) | exact kd_ls (by first | assumption | rfl) (by assumption) | exact kd_sb (by first | assumption | rfl) (by assumption) | exact kd_sv (by assumption))) rfl rfl (c_X7_isLease) qm_X7_84 qi_X7_isLease qs_X7_isLease qn_X7 qc_X7_isLease fit_X7_isLease ⟨Nat.le_of_ble_eq_true rfl, Nat.le_of_ble_eq_true rfl, Nat.le_of_ble_eq_true rfl, Nat.le_of_ble_eq_true rfl⟩ (Nat.le_of_ble_eq_true rfl) dX7_endPart_7 ?_
  refine j_if_ne (tgt := 19) C dX7_endPart_10 (by decide) (fun h10 => ?_) (fun h10 => ?_)
  · replace h10 := b2i_1 h10
    exfalso
    first | contradiction | exact absurd (isL hV0 hk) (by assumption) | exact absurd ⟨by assumption, by assumption⟩ hbad | exact absurd ⟨by assumption, by assumption, by assumption⟩ hbad | exact absurd ⟨by assumption, by assumption, by assumption, by assumption⟩ hbad | exact absurd (by assumption) hbad
  · replace h10 := b2i_0 h10
    refine j_aload_n C dX7_endPart_13 rfl rfl ?_
    refine j_iconst (v := (nI 1)) C dX7_endPart_14 (by decide) ?_
    refine j_callV1r C (oa_X7 (by first | assumption | rfl | exact kd_sums (by assumption) | exact kd_st1 (by assumption) | exact kd_st2 (by assumption) | exact kd_ls (by first | assumption | rfl) (by assumption) | exact kd_sb (by first | assumption | rfl) (by assumption) | exact kd_sv (by assumption))) rfl rfl (c_X7_fails) qm_X7_67 qi_X7_fails qs_X7_fails qn_X7 qc_X7_fails fit_X7_fails ⟨Nat.le_of_ble_eq_true rfl, Nat.le_of_ble_eq_true rfl, Nat.le_of_ble_eq_true rfl, Nat.le_of_ble_eq_true rfl⟩ (Nat.le_of_ble_eq_true rfl) dX7_endPart_15 ?_
    exact j_iret C dX7_endPart_18 (by rfl) (by rfl) (by rfl)
set_option maxHeartbeats 4000000 in
theorem c_X7_endPart_2 {l : Launch} {g : GC} {V : Mem} {L : LMem} {k nl ns : Nat} (hk : k < nl) (hR : RR nl ns V) {t fee : Int32} (hbad : ¬ (partR t ∧ money fee)) : MC l yX7_endPart cX7_endPart 8 (some .int) 6 g V L [.ref (ad g 224), .int (nI k), .int t, .int fee] (some (.int 0)) (thr 2 (thr 0 V)) L := by
  refine MC.of [some (.ref (ad g 224)), some (.int (nI k)), some (.int t), some (.int fee), none, none, none, none] (by decide +kernel) rfl (Nat.le_of_ble_eq_true rfl) (fun p e s m args below meth c C => ?_)
  have hV0 : RR nl ns (mset V 224 6 (nI 0)) := hR.put (Or.inl (by decide))
  have hk8 : k < 8 := Nat.lt_of_lt_of_le hk hR.1
  refine j_aload_n C dX7_endPart_0 rfl rfl ?_
  refine j_iconst (v := (nI 0)) C dX7_endPart_1 (by decide) ?_
  refine jp_LeaseBookModel_thrown C (by first | assumption | rfl | exact kd_sums (by assumption) | exact kd_st1 (by assumption) | exact kd_st2 (by assumption) | exact kd_ls (by first | assumption | rfl) (by assumption) | exact kd_sb (by first | assumption | rfl) (by assumption) | exact kd_sv (by assumption)) qf_X7_25 dX7_endPart_2 ?_
  refine j_aload_n C dX7_endPart_5 rfl rfl ?_
  refine j_iload_n C dX7_endPart_6 rfl rfl ?_
  refine j_callV1r C (oa_X7 (by first | assumption | rfl | exact kd_sums (by assumption) | exact kd_st1 (by assumption) | exact kd_st2 (by assumption) | exact kd_ls (by first | assumption | rfl) (by assumption) | exact kd_sb (by first | assumption | rfl) (by assumption) | exact kd_sv (by assumption))) rfl rfl (c_X7_isLease) qm_X7_84 qi_X7_isLease qs_X7_isLease qn_X7 qc_X7_isLease fit_X7_isLease ⟨Nat.le_of_ble_eq_true rfl, Nat.le_of_ble_eq_true rfl, Nat.le_of_ble_eq_true rfl, Nat.le_of_ble_eq_true rfl⟩ (Nat.le_of_ble_eq_true rfl) dX7_endPart_7 ?_
  refine j_if_ne (tgt := 19) C dX7_endPart_10 (by decide) (fun h10 => ?_) (fun h10 => ?_)
  · replace h10 := b2i_1 h10
    refine j_iload_n C dX7_endPart_19 rfl rfl ?_
    refine j_callS1r C (c_X7_isPart) qm_X7_93 qt_X7_isPart qn_X7 qc_X7_isPart fit_X7_isPart ⟨Nat.le_of_ble_eq_true rfl, Nat.le_of_ble_eq_true rfl, Nat.le_of_ble_eq_true rfl, Nat.le_of_ble_eq_true rfl⟩ (Nat.le_of_ble_eq_true rfl) dX7_endPart_20 ?_
    refine j_if_eq (tgt := 33) C dX7_endPart_23 (by decide) (fun h23 => ?_) (fun h23 => ?_)
    · replace h23 := b2i_0 h23
      refine j_aload_n C dX7_endPart_33 rfl rfl ?_
      refine j_iconst (v := (nI 2)) C dX7_endPart_34 (by decide) ?_
      refine j_callV1r C (oa_X7 (by first | assumption | rfl | exact kd_sums (by assumption) | exact kd_st1 (by assumption) | exact kd_st2 (by assumption) | exact kd_ls (by first | assumption | rfl) (by assumption) | exact kd_sb (by first | assumption | rfl) (by assumption) | exact kd_sv (by assumption))) rfl rfl (c_X7_fails) qm_X7_67 qi_X7_fails qs_X7_fails qn_X7 qc_X7_fails fit_X7_fails ⟨Nat.le_of_ble_eq_true rfl, Nat.le_of_ble_eq_true rfl, Nat.le_of_ble_eq_true rfl, Nat.le_of_ble_eq_true rfl⟩ (Nat.le_of_ble_eq_true rfl) dX7_endPart_35 ?_
      exact j_iret C dX7_endPart_38 (by rfl) (by rfl) (by rfl)
    · replace h23 := b2i_1 h23
      refine j_iload_n C dX7_endPart_26 rfl rfl ?_
      refine j_callS1r C (c_X7_isMoney) qm_X7_57 qt_X7_isMoney qn_X7 qc_X7_isMoney fit_X7_isMoney ⟨Nat.le_of_ble_eq_true rfl, Nat.le_of_ble_eq_true rfl, Nat.le_of_ble_eq_true rfl, Nat.le_of_ble_eq_true rfl⟩ (Nat.le_of_ble_eq_true rfl) dX7_endPart_27 ?_
      refine j_if_ne (tgt := 39) C dX7_endPart_30 (by decide) (fun h30 => ?_) (fun h30 => ?_)
      · replace h30 := b2i_1 h30
        exfalso
        first | contradiction | exact absurd (isL hV0 hk) (by assumption) | exact absurd ⟨by assumption, by assumption⟩ hbad | exact absurd ⟨by assumption, by assumption, by assumption⟩ hbad | exact absurd ⟨by assumption, by assumption, by assumption, by assumption⟩ hbad | exact absurd (by assumption) hbad
      · replace h30 := b2i_0 h30
        refine j_aload_n C dX7_endPart_33 rfl rfl ?_
        refine j_iconst (v := (nI 2)) C dX7_endPart_34 (by decide) ?_
        refine j_callV1r C (oa_X7 (by first | assumption | rfl | exact kd_sums (by assumption) | exact kd_st1 (by assumption) | exact kd_st2 (by assumption) | exact kd_ls (by first | assumption | rfl) (by assumption) | exact kd_sb (by first | assumption | rfl) (by assumption) | exact kd_sv (by assumption))) rfl rfl (c_X7_fails) qm_X7_67 qi_X7_fails qs_X7_fails qn_X7 qc_X7_fails fit_X7_fails ⟨Nat.le_of_ble_eq_true rfl, Nat.le_of_ble_eq_true rfl, Nat.le_of_ble_eq_true rfl, Nat.le_of_ble_eq_true rfl⟩ (Nat.le_of_ble_eq_true rfl) dX7_endPart_35 ?_
        exact j_iret C dX7_endPart_38 (by rfl) (by rfl) (by rfl)
  · replace h10 := b2i_0 h10
    exfalso
    first | contradiction | exact absurd (isL hV0 hk) (by assumption) | exact absurd ⟨by assumption, by assumption⟩ hbad | exact absurd ⟨by assumption, by assumption, by assumption⟩ hbad | exact absurd ⟨by assumption, by assumption, by assumption, by assumption⟩ hbad | exact absurd (by assumption) hbad
set_option maxHeartbeats 4000000 in
theorem c_X7_endPart_3 {l : Launch} {g : GC} {V : Mem} {L : LMem} {k nl ns : Nat} (hk : k < nl) (hR : RR nl ns V) {t fee : Int32} (h1 : partR t) (h2 : money fee) (h3 : ¬ (0 < V 225 (3 + 22 * k + 1) ∧ ¬ 0 < rSubs (thr 0 V) k (nI 8) ns)) : MC l yX7_endPart cX7_endPart 8 (some .int) 6 g V L [.ref (ad g 224), .int (nI k), .int t, .int fee] (some (.int 0)) (thr 3 (thr 0 V)) L := by
  refine MC.of [some (.ref (ad g 224)), some (.int (nI k)), some (.int t), some (.int fee), none, none, none, none] (by decide +kernel) rfl (Nat.le_of_ble_eq_true rfl) (fun p e s m args below meth c C => ?_)
  have hV0 : RR nl ns (mset V 224 6 (nI 0)) := hR.put (Or.inl (by decide))
  have hk8 : k < 8 := Nat.lt_of_lt_of_le hk hR.1
  refine j_aload_n C dX7_endPart_0 rfl rfl ?_
  refine j_iconst (v := (nI 0)) C dX7_endPart_1 (by decide) ?_
  refine jp_LeaseBookModel_thrown C (by first | assumption | rfl | exact kd_sums (by assumption) | exact kd_st1 (by assumption) | exact kd_st2 (by assumption) | exact kd_ls (by first | assumption | rfl) (by assumption) | exact kd_sb (by first | assumption | rfl) (by assumption) | exact kd_sv (by assumption)) qf_X7_25 dX7_endPart_2 ?_
  refine j_aload_n C dX7_endPart_5 rfl rfl ?_
  refine j_iload_n C dX7_endPart_6 rfl rfl ?_
  refine j_callV1r C (oa_X7 (by first | assumption | rfl | exact kd_sums (by assumption) | exact kd_st1 (by assumption) | exact kd_st2 (by assumption) | exact kd_ls (by first | assumption | rfl) (by assumption) | exact kd_sb (by first | assumption | rfl) (by assumption) | exact kd_sv (by assumption))) rfl rfl (c_X7_isLease) qm_X7_84 qi_X7_isLease qs_X7_isLease qn_X7 qc_X7_isLease fit_X7_isLease ⟨Nat.le_of_ble_eq_true rfl, Nat.le_of_ble_eq_true rfl, Nat.le_of_ble_eq_true rfl, Nat.le_of_ble_eq_true rfl⟩ (Nat.le_of_ble_eq_true rfl) dX7_endPart_7 ?_
  refine j_if_ne (tgt := 19) C dX7_endPart_10 (by decide) (fun h10 => ?_) (fun h10 => ?_)
  · replace h10 := b2i_1 h10
    refine j_iload_n C dX7_endPart_19 rfl rfl ?_
    refine j_callS1r C (c_X7_isPart) qm_X7_93 qt_X7_isPart qn_X7 qc_X7_isPart fit_X7_isPart ⟨Nat.le_of_ble_eq_true rfl, Nat.le_of_ble_eq_true rfl, Nat.le_of_ble_eq_true rfl, Nat.le_of_ble_eq_true rfl⟩ (Nat.le_of_ble_eq_true rfl) dX7_endPart_20 ?_
    refine j_if_eq (tgt := 33) C dX7_endPart_23 (by decide) (fun h23 => ?_) (fun h23 => ?_)
    · replace h23 := b2i_0 h23
      exfalso
      first | contradiction | exact absurd (isL hV0 hk) (by assumption) | exact absurd ⟨by assumption, by assumption⟩ hbad | exact absurd ⟨by assumption, by assumption, by assumption⟩ hbad | exact absurd ⟨by assumption, by assumption, by assumption, by assumption⟩ hbad | exact absurd ⟨by assumption, Int32.not_lt.mpr (by assumption)⟩ h3
    · replace h23 := b2i_1 h23
      refine j_iload_n C dX7_endPart_26 rfl rfl ?_
      refine j_callS1r C (c_X7_isMoney) qm_X7_57 qt_X7_isMoney qn_X7 qc_X7_isMoney fit_X7_isMoney ⟨Nat.le_of_ble_eq_true rfl, Nat.le_of_ble_eq_true rfl, Nat.le_of_ble_eq_true rfl, Nat.le_of_ble_eq_true rfl⟩ (Nat.le_of_ble_eq_true rfl) dX7_endPart_27 ?_
      refine j_if_ne (tgt := 39) C dX7_endPart_30 (by decide) (fun h30 => ?_) (fun h30 => ?_)
      · replace h30 := b2i_1 h30
        refine j_aload_n C dX7_endPart_39 rfl rfl ?_
        refine j_iload_n C dX7_endPart_40 rfl rfl ?_
        refine j_callV1r C (oa_X7 (by first | assumption | rfl | exact kd_sums (by assumption) | exact kd_st1 (by assumption) | exact kd_st2 (by assumption) | exact kd_ls (by first | assumption | rfl) (by assumption) | exact kd_sb (by first | assumption | rfl) (by assumption) | exact kd_sv (by assumption))) rfl rfl (c_X7_runs hk8) qm_X7_87 qi_X7_runs qs_X7_runs qn_X7 qc_X7_runs fit_X7_runs ⟨Nat.le_of_ble_eq_true rfl, Nat.le_of_ble_eq_true rfl, Nat.le_of_ble_eq_true rfl, Nat.le_of_ble_eq_true rfl⟩ (Nat.le_of_ble_eq_true rfl) dX7_endPart_41 ?_
        refine j_if_eq (tgt := 57) C dX7_endPart_44 (by decide) (fun h44 => ?_) (fun h44 => ?_)
        · replace h44 := b2i_0 h44
          refine j_aload_n C dX7_endPart_57 rfl rfl ?_
          refine j_iconst (v := (nI 3)) C dX7_endPart_58 (by decide) ?_
          refine j_callV1r C (oa_X7 (by first | assumption | rfl | exact kd_sums (by assumption) | exact kd_st1 (by assumption) | exact kd_st2 (by assumption) | exact kd_ls (by first | assumption | rfl) (by assumption) | exact kd_sb (by first | assumption | rfl) (by assumption) | exact kd_sv (by assumption))) rfl rfl (c_X7_fails) qm_X7_67 qi_X7_fails qs_X7_fails qn_X7 qc_X7_fails fit_X7_fails ⟨Nat.le_of_ble_eq_true rfl, Nat.le_of_ble_eq_true rfl, Nat.le_of_ble_eq_true rfl, Nat.le_of_ble_eq_true rfl⟩ (Nat.le_of_ble_eq_true rfl) dX7_endPart_59 ?_
          exact j_iret C dX7_endPart_62 (by rfl) (by rfl) (by rfl)
        · replace h44 := b2i_1 h44
          refine j_aload_n C dX7_endPart_47 rfl rfl ?_
          refine j_iload_n C dX7_endPart_48 rfl rfl ?_
          refine j_bipush (v := (nI 8)) C dX7_endPart_49 (by decide) ?_
          refine j_callV2r C (oa_X7 (by first | assumption | rfl | exact kd_sums (by assumption) | exact kd_st1 (by assumption) | exact kd_st2 (by assumption) | exact kd_ls (by first | assumption | rfl) (by assumption) | exact kd_sb (by first | assumption | rfl) (by assumption) | exact kd_sv (by assumption))) rfl rfl (c_X7_ofSubs hk8 hV0) qm_X7_96 qi_X7_ofSubs qs_X7_ofSubs qn_X7 qc_X7_ofSubs fit_X7_ofSubs ⟨Nat.le_of_ble_eq_true rfl, Nat.le_of_ble_eq_true rfl, Nat.le_of_ble_eq_true rfl, Nat.le_of_ble_eq_true rfl⟩ (Nat.le_of_ble_eq_true rfl) dX7_endPart_51 ?_
          refine j_if_le (tgt := 63) C dX7_endPart_54 (by decide) (fun h54 => ?_) (fun h54 => ?_)
          · exfalso
            first | contradiction | exact absurd (isL hV0 hk) (by assumption) | exact absurd ⟨by assumption, by assumption⟩ hbad | exact absurd ⟨by assumption, by assumption, by assumption⟩ hbad | exact absurd ⟨by assumption, by assumption, by assumption, by assumption⟩ hbad | exact absurd ⟨by assumption, Int32.not_lt.mpr (by assumption)⟩ h3
          · refine j_aload_n C dX7_endPart_57 rfl rfl ?_
            refine j_iconst (v := (nI 3)) C dX7_endPart_58 (by decide) ?_
            refine j_callV1r C (oa_X7 (by first | assumption | rfl | exact kd_sums (by assumption) | exact kd_st1 (by assumption) | exact kd_st2 (by assumption) | exact kd_ls (by first | assumption | rfl) (by assumption) | exact kd_sb (by first | assumption | rfl) (by assumption) | exact kd_sv (by assumption))) rfl rfl (c_X7_fails) qm_X7_67 qi_X7_fails qs_X7_fails qn_X7 qc_X7_fails fit_X7_fails ⟨Nat.le_of_ble_eq_true rfl, Nat.le_of_ble_eq_true rfl, Nat.le_of_ble_eq_true rfl, Nat.le_of_ble_eq_true rfl⟩ (Nat.le_of_ble_eq_true rfl) dX7_endPart_59 ?_
            exact j_iret C dX7_endPart_62 (by rfl) (by rfl) (by rfl)
      · replace h30 := b2i_0 h30
        exfalso
        first | contradiction | exact absurd (isL hV0 hk) (by assumption) | exact absurd ⟨by assumption, by assumption⟩ hbad | exact absurd ⟨by assumption, by assumption, by assumption⟩ hbad | exact absurd ⟨by assumption, by assumption, by assumption, by assumption⟩ hbad | exact absurd ⟨by assumption, Int32.not_lt.mpr (by assumption)⟩ h3
  · replace h10 := b2i_0 h10
    exfalso
    first | contradiction | exact absurd (isL hV0 hk) (by assumption) | exact absurd ⟨by assumption, by assumption⟩ hbad | exact absurd ⟨by assumption, by assumption, by assumption⟩ hbad | exact absurd ⟨by assumption, by assumption, by assumption, by assumption⟩ hbad | exact absurd ⟨by assumption, Int32.not_lt.mpr (by assumption)⟩ h3
set_option maxHeartbeats 4000000 in
theorem c_X7_endPart_ok {l : Launch} {g : GC} {V : Mem} {L : LMem} {k nl ns : Nat} (hk : k < nl) (hR : RR nl ns V) {t fee : Int32} (h1 : partR t) (h2 : money fee) (h3 : 0 < V 225 (3 + 22 * k + 1)) (h4 : ¬ 0 < rSubs (thr 0 V) k (nI 8) ns) {sv : Nat} (hsv : V 224 3 = nI sv) (hs6 : sv ≤ 6) : MC l yX7_endPart cX7_endPart 8 (some .int) 6 g V L [.ref (ad g 224), .int (nI k), .int t, .int fee] (some (.int (rEndR k t fee (rSave sv (thr 0 V))))) (rEnd k t fee (rSave sv (thr 0 V))) L := by
  refine MC.of [some (.ref (ad g 224)), some (.int (nI k)), some (.int t), some (.int fee), none, none, none, none] (by decide +kernel) rfl (Nat.le_of_ble_eq_true rfl) (fun p e s m args below meth c C => ?_)
  have hV0 : RR nl ns (mset V 224 6 (nI 0)) := hR.put (Or.inl (by decide))
  have hk8 : k < 8 := Nat.lt_of_lt_of_le hk hR.1
  have hS : RR nl ns (rSave sv (mset V 224 6 (nI 0))) := hV0.row (rSave_row (by decide) (by decide))
  refine j_aload_n C dX7_endPart_0 rfl rfl ?_
  refine j_iconst (v := (nI 0)) C dX7_endPart_1 (by decide) ?_
  refine jp_LeaseBookModel_thrown C (by first | assumption | rfl | exact kd_sums (by assumption) | exact kd_st1 (by assumption) | exact kd_st2 (by assumption) | exact kd_ls (by first | assumption | rfl) (by assumption) | exact kd_sb (by first | assumption | rfl) (by assumption) | exact kd_sv (by assumption)) qf_X7_25 dX7_endPart_2 ?_
  refine j_aload_n C dX7_endPart_5 rfl rfl ?_
  refine j_iload_n C dX7_endPart_6 rfl rfl ?_
  refine j_callV1r C (oa_X7 (by first | assumption | rfl | exact kd_sums (by assumption) | exact kd_st1 (by assumption) | exact kd_st2 (by assumption) | exact kd_ls (by first | assumption | rfl) (by assumption) | exact kd_sb (by first | assumption | rfl) (by assumption) | exact kd_sv (by assumption))) rfl rfl (c_X7_isLease) qm_X7_84 qi_X7_isLease qs_X7_isLease qn_X7 qc_X7_isLease fit_X7_isLease ⟨Nat.le_of_ble_eq_true rfl, Nat.le_of_ble_eq_true rfl, Nat.le_of_ble_eq_true rfl, Nat.le_of_ble_eq_true rfl⟩ (Nat.le_of_ble_eq_true rfl) dX7_endPart_7 ?_
  refine j_if_ne (tgt := 19) C dX7_endPart_10 (by decide) (fun h10 => ?_) (fun h10 => ?_)
  · replace h10 := b2i_1 h10
    refine j_iload_n C dX7_endPart_19 rfl rfl ?_
    refine j_callS1r C (c_X7_isPart) qm_X7_93 qt_X7_isPart qn_X7 qc_X7_isPart fit_X7_isPart ⟨Nat.le_of_ble_eq_true rfl, Nat.le_of_ble_eq_true rfl, Nat.le_of_ble_eq_true rfl, Nat.le_of_ble_eq_true rfl⟩ (Nat.le_of_ble_eq_true rfl) dX7_endPart_20 ?_
    refine j_if_eq (tgt := 33) C dX7_endPart_23 (by decide) (fun h23 => ?_) (fun h23 => ?_)
    · replace h23 := b2i_0 h23
      exfalso
      first | contradiction | exact absurd (isL hV0 hk) (by assumption) | exact absurd ⟨by assumption, by assumption⟩ hbad | exact absurd ⟨by assumption, by assumption, by assumption⟩ hbad | exact absurd ⟨by assumption, by assumption, by assumption, by assumption⟩ hbad | exact absurd (by assumption) (show ¬ rSubs (thr 0 V) k (nI 8) ns ≤ 0 from by assumption) | exact absurd (Int32.not_le.mp (by assumption)) h4 | exact absurd (by assumption) h4
    · replace h23 := b2i_1 h23
      refine j_iload_n C dX7_endPart_26 rfl rfl ?_
      refine j_callS1r C (c_X7_isMoney) qm_X7_57 qt_X7_isMoney qn_X7 qc_X7_isMoney fit_X7_isMoney ⟨Nat.le_of_ble_eq_true rfl, Nat.le_of_ble_eq_true rfl, Nat.le_of_ble_eq_true rfl, Nat.le_of_ble_eq_true rfl⟩ (Nat.le_of_ble_eq_true rfl) dX7_endPart_27 ?_
      refine j_if_ne (tgt := 39) C dX7_endPart_30 (by decide) (fun h30 => ?_) (fun h30 => ?_)
      · replace h30 := b2i_1 h30
        refine j_aload_n C dX7_endPart_39 rfl rfl ?_
        refine j_iload_n C dX7_endPart_40 rfl rfl ?_
        refine j_callV1r C (oa_X7 (by first | assumption | rfl | exact kd_sums (by assumption) | exact kd_st1 (by assumption) | exact kd_st2 (by assumption) | exact kd_ls (by first | assumption | rfl) (by assumption) | exact kd_sb (by first | assumption | rfl) (by assumption) | exact kd_sv (by assumption))) rfl rfl (c_X7_runs hk8) qm_X7_87 qi_X7_runs qs_X7_runs qn_X7 qc_X7_runs fit_X7_runs ⟨Nat.le_of_ble_eq_true rfl, Nat.le_of_ble_eq_true rfl, Nat.le_of_ble_eq_true rfl, Nat.le_of_ble_eq_true rfl⟩ (Nat.le_of_ble_eq_true rfl) dX7_endPart_41 ?_
        refine j_if_eq (tgt := 57) C dX7_endPart_44 (by decide) (fun h44 => ?_) (fun h44 => ?_)
        · replace h44 := b2i_0 h44
          exfalso
          first | contradiction | exact absurd (isL hV0 hk) (by assumption) | exact absurd ⟨by assumption, by assumption⟩ hbad | exact absurd ⟨by assumption, by assumption, by assumption⟩ hbad | exact absurd ⟨by assumption, by assumption, by assumption, by assumption⟩ hbad | exact absurd (by assumption) (show ¬ rSubs (thr 0 V) k (nI 8) ns ≤ 0 from by assumption) | exact absurd (Int32.not_le.mp (by assumption)) h4 | exact absurd (by assumption) h4
        · replace h44 := b2i_1 h44
          refine j_aload_n C dX7_endPart_47 rfl rfl ?_
          refine j_iload_n C dX7_endPart_48 rfl rfl ?_
          refine j_bipush (v := (nI 8)) C dX7_endPart_49 (by decide) ?_
          refine j_callV2r C (oa_X7 (by first | assumption | rfl | exact kd_sums (by assumption) | exact kd_st1 (by assumption) | exact kd_st2 (by assumption) | exact kd_ls (by first | assumption | rfl) (by assumption) | exact kd_sb (by first | assumption | rfl) (by assumption) | exact kd_sv (by assumption))) rfl rfl (c_X7_ofSubs hk8 hV0) qm_X7_96 qi_X7_ofSubs qs_X7_ofSubs qn_X7 qc_X7_ofSubs fit_X7_ofSubs ⟨Nat.le_of_ble_eq_true rfl, Nat.le_of_ble_eq_true rfl, Nat.le_of_ble_eq_true rfl, Nat.le_of_ble_eq_true rfl⟩ (Nat.le_of_ble_eq_true rfl) dX7_endPart_51 ?_
          refine j_if_le (tgt := 63) C dX7_endPart_54 (by decide) (fun h54 => ?_) (fun h54 => ?_)
          · refine j_aload_n C dX7_endPart_63 rfl rfl ?_
            refine j_callV0v C (oa_X7 (by first | assumption | rfl | exact kd_sums (by assumption) | exact kd_st1 (by assumption) | exact kd_st2 (by assumption) | exact kd_ls (by first | assumption | rfl) (by assumption) | exact kd_sb (by first | assumption | rfl) (by assumption) | exact kd_sv (by assumption))) rfl rfl (c_X7_save (sv := sv) (by rw [mset_ne (by omega)]; exact hsv) hs6) qm_X7_70 qi_X7_save qs_X7_save qn_X7 qc_X7_save fit_X7_save ⟨Nat.le_of_ble_eq_true rfl, Nat.le_of_ble_eq_true rfl, Nat.le_of_ble_eq_true rfl, Nat.le_of_ble_eq_true rfl⟩ (Nat.le_of_ble_eq_true rfl) dX7_endPart_64 ?_
            refine j_iload_n C dX7_endPart_67 rfl rfl ?_
            refine j_callS1r C (c_X7_at) qm_X7_32 qt_X7_at qn_X7 qc_X7_at fit_X7_at ⟨Nat.le_of_ble_eq_true rfl, Nat.le_of_ble_eq_true rfl, Nat.le_of_ble_eq_true rfl, Nat.le_of_ble_eq_true rfl⟩ (Nat.le_of_ble_eq_true rfl) dX7_endPart_68 ?_
            refine j_ist4 C dX7_endPart_71 (Nat.le_of_ble_eq_true rfl) rfl ?_
            refine j_aload_n C dX7_endPart_73 rfl rfl ?_
            refine jg_LeaseBookModel_z C (by first | assumption | rfl | exact kd_sums (by assumption) | exact kd_st1 (by assumption) | exact kd_st2 (by assumption) | exact kd_ls (by first | assumption | rfl) (by assumption) | exact kd_sb (by first | assumption | rfl) (by assumption) | exact kd_sv (by assumption)) qf_X7_7 dX7_endPart_74 ?_
            refine j_iload C dX7_endPart_77 rfl ?_
            refine j_iconst (v := (nI 4)) C dX7_endPart_79 (by decide) ?_
            refine j_iaddN C dX7_endPart_80 ?_
            refine j_ialdN C (by first | assumption | rfl | exact kd_sums (by assumption) | exact kd_st1 (by assumption) | exact kd_st2 (by assumption) | exact kd_ls (by first | assumption | rfl) (by assumption) | exact kd_sb (by first | assumption | rfl) (by assumption) | exact kd_sv (by assumption)) rfl rfl (by omega) dX7_endPart_81 ?_
            refine j_iload_n C dX7_endPart_82 rfl rfl ?_
            refine j_callS2r C (c_X7_partOf) qm_X7_100 qt_X7_partOf qn_X7 qc_X7_partOf fit_X7_partOf ⟨Nat.le_of_ble_eq_true rfl, Nat.le_of_ble_eq_true rfl, Nat.le_of_ble_eq_true rfl, Nat.le_of_ble_eq_true rfl⟩ (Nat.le_of_ble_eq_true rfl) dX7_endPart_83 ?_
            refine j_ist5 C dX7_endPart_86 (Nat.le_of_ble_eq_true rfl) rfl ?_
            refine j_aload_n C dX7_endPart_88 rfl rfl ?_
            refine jg_LeaseBookModel_z C (by first | assumption | rfl | exact kd_sums (by assumption) | exact kd_st1 (by assumption) | exact kd_st2 (by assumption) | exact kd_ls (by first | assumption | rfl) (by assumption) | exact kd_sb (by first | assumption | rfl) (by assumption) | exact kd_sv (by assumption)) qf_X7_7 dX7_endPart_89 ?_
            refine j_iload C dX7_endPart_92 rfl ?_
            refine j_dup2 C dX7_endPart_94 rfl rfl ?_
            refine j_ialdN C (by first | assumption | rfl | exact kd_sums (by assumption) | exact kd_st1 (by assumption) | exact kd_st2 (by assumption) | exact kd_ls (by first | assumption | rfl) (by assumption) | exact kd_sb (by first | assumption | rfl) (by assumption) | exact kd_sv (by assumption)) rfl rfl (by omega) dX7_endPart_95 ?_
            refine j_aload_n C dX7_endPart_96 rfl rfl ?_
            refine jg_LeaseBookModel_z C (by first | assumption | rfl | exact kd_sums (by assumption) | exact kd_st1 (by assumption) | exact kd_st2 (by assumption) | exact kd_ls (by first | assumption | rfl) (by assumption) | exact kd_sb (by first | assumption | rfl) (by assumption) | exact kd_sv (by assumption)) qf_X7_7 dX7_endPart_97 ?_
            refine j_iload C dX7_endPart_100 rfl ?_
            refine j_ialdN C (by first | assumption | rfl | exact kd_sums (by assumption) | exact kd_st1 (by assumption) | exact kd_st2 (by assumption) | exact kd_ls (by first | assumption | rfl) (by assumption) | exact kd_sb (by first | assumption | rfl) (by assumption) | exact kd_sv (by assumption)) rfl rfl (by omega) dX7_endPart_102 ?_
            refine j_iload_n C dX7_endPart_103 rfl rfl ?_
            refine j_callS2r C (c_X7_partOf) qm_X7_100 qt_X7_partOf qn_X7 qc_X7_partOf fit_X7_partOf ⟨Nat.le_of_ble_eq_true rfl, Nat.le_of_ble_eq_true rfl, Nat.le_of_ble_eq_true rfl, Nat.le_of_ble_eq_true rfl⟩ (Nat.le_of_ble_eq_true rfl) dX7_endPart_104 ?_
            refine j_isub C dX7_endPart_107 ?_
            refine j_iastN C (by first | assumption | rfl | exact kd_sums (by assumption) | exact kd_st1 (by assumption) | exact kd_st2 (by assumption) | exact kd_ls (by first | assumption | rfl) (by assumption) | exact kd_sb (by first | assumption | rfl) (by assumption) | exact kd_sv (by assumption)) rfl rfl (by omega) dX7_endPart_108 ?_
            refine j_aload_n C dX7_endPart_109 rfl rfl ?_
            refine jg_LeaseBookModel_z C (by first | assumption | rfl | exact kd_sums (by assumption) | exact kd_st1 (by assumption) | exact kd_st2 (by assumption) | exact kd_ls (by first | assumption | rfl) (by assumption) | exact kd_sb (by first | assumption | rfl) (by assumption) | exact kd_sv (by assumption)) qf_X7_7 dX7_endPart_110 ?_
            refine j_iload C dX7_endPart_113 rfl ?_
            refine j_ialdN C (by first | assumption | rfl | exact kd_sums (by assumption) | exact kd_st1 (by assumption) | exact kd_st2 (by assumption) | exact kd_ls (by first | assumption | rfl) (by assumption) | exact kd_sb (by first | assumption | rfl) (by assumption) | exact kd_sv (by assumption)) rfl rfl (by omega) dX7_endPart_115 ?_
            refine j_aload_n C dX7_endPart_116 rfl rfl ?_
            refine jg_LeaseBookModel_z C (by first | assumption | rfl | exact kd_sums (by assumption) | exact kd_st1 (by assumption) | exact kd_st2 (by assumption) | exact kd_ls (by first | assumption | rfl) (by assumption) | exact kd_sb (by first | assumption | rfl) (by assumption) | exact kd_sv (by assumption)) qf_X7_7 dX7_endPart_117 ?_
            refine j_iload C dX7_endPart_120 rfl ?_
            refine j_iconst (v := (nI 1)) C dX7_endPart_122 (by decide) ?_
            refine j_iaddN C dX7_endPart_123 ?_
            refine j_ialdN C (by first | assumption | rfl | exact kd_sums (by assumption) | exact kd_st1 (by assumption) | exact kd_st2 (by assumption) | exact kd_ls (by first | assumption | rfl) (by assumption) | exact kd_sb (by first | assumption | rfl) (by assumption) | exact kd_sv (by assumption)) rfl rfl (by omega) dX7_endPart_124 ?_
            refine j_aload_n C dX7_endPart_125 rfl rfl ?_
            refine jg_LeaseBookModel_z C (by first | assumption | rfl | exact kd_sums (by assumption) | exact kd_st1 (by assumption) | exact kd_st2 (by assumption) | exact kd_ls (by first | assumption | rfl) (by assumption) | exact kd_sb (by first | assumption | rfl) (by assumption) | exact kd_sv (by assumption)) qf_X7_7 dX7_endPart_126 ?_
            refine j_iload C dX7_endPart_129 rfl ?_
            refine j_iconst (v := (nI 2)) C dX7_endPart_131 (by decide) ?_
            refine j_iaddN C dX7_endPart_132 ?_
            refine j_ialdN C (by first | assumption | rfl | exact kd_sums (by assumption) | exact kd_st1 (by assumption) | exact kd_st2 (by assumption) | exact kd_ls (by first | assumption | rfl) (by assumption) | exact kd_sb (by first | assumption | rfl) (by assumption) | exact kd_sv (by assumption)) rfl rfl (by omega) dX7_endPart_133 ?_
            refine j_callS3r C (c_X7_worthOf (by rw [mset_ne (by omega)]; exact hS.2.2.2.2.1 k hk)) qm_X7_49 qt_X7_worthOf qn_X7 qc_X7_worthOf fit_X7_worthOf ⟨Nat.le_of_ble_eq_true rfl, Nat.le_of_ble_eq_true rfl, Nat.le_of_ble_eq_true rfl, Nat.le_of_ble_eq_true rfl⟩ (Nat.le_of_ble_eq_true rfl) dX7_endPart_134 ?_
            refine j_ist6 C dX7_endPart_137 (Nat.le_of_ble_eq_true rfl) rfl ?_
            refine j_aload_n C dX7_endPart_139 rfl rfl ?_
            refine jg_LeaseBookModel_z C (by first | assumption | rfl | exact kd_sums (by assumption) | exact kd_st1 (by assumption) | exact kd_st2 (by assumption) | exact kd_ls (by first | assumption | rfl) (by assumption) | exact kd_sb (by first | assumption | rfl) (by assumption) | exact kd_sv (by assumption)) qf_X7_7 dX7_endPart_140 ?_
            refine j_iload C dX7_endPart_143 rfl ?_
            refine j_iconst (v := (nI 3)) C dX7_endPart_145 (by decide) ?_
            refine j_iaddN C dX7_endPart_146 ?_
            refine j_ialdN C (by first | assumption | rfl | exact kd_sums (by assumption) | exact kd_st1 (by assumption) | exact kd_st2 (by assumption) | exact kd_ls (by first | assumption | rfl) (by assumption) | exact kd_sb (by first | assumption | rfl) (by assumption) | exact kd_sv (by assumption)) rfl rfl (by omega) dX7_endPart_147 ?_
            refine j_iload C dX7_endPart_148 rfl ?_
            refine j_isub C dX7_endPart_150 ?_
            refine j_ist7 C dX7_endPart_151 (Nat.le_of_ble_eq_true rfl) rfl ?_
            refine j_aload_n C dX7_endPart_153 rfl rfl ?_
            refine jg_LeaseBookModel_z C (by first | assumption | rfl | exact kd_sums (by assumption) | exact kd_st1 (by assumption) | exact kd_st2 (by assumption) | exact kd_ls (by first | assumption | rfl) (by assumption) | exact kd_sb (by first | assumption | rfl) (by assumption) | exact kd_sv (by assumption)) qf_X7_7 dX7_endPart_154 ?_
            refine j_iload C dX7_endPart_157 rfl ?_
            refine j_iconst (v := (nI 3)) C dX7_endPart_159 (by decide) ?_
            refine j_iaddN C dX7_endPart_160 ?_
            refine j_iload C dX7_endPart_161 rfl ?_
            refine j_iastN C (by first | assumption | rfl | exact kd_sums (by assumption) | exact kd_st1 (by assumption) | exact kd_st2 (by assumption) | exact kd_ls (by first | assumption | rfl) (by assumption) | exact kd_sb (by first | assumption | rfl) (by assumption) | exact kd_sv (by assumption)) rfl rfl (by omega) dX7_endPart_163 ?_
            refine j_aload_n C dX7_endPart_164 rfl rfl ?_
            refine jg_LeaseBookModel_z C (by first | assumption | rfl | exact kd_sums (by assumption) | exact kd_st1 (by assumption) | exact kd_st2 (by assumption) | exact kd_ls (by first | assumption | rfl) (by assumption) | exact kd_sb (by first | assumption | rfl) (by assumption) | exact kd_sv (by assumption)) qf_X7_7 dX7_endPart_165 ?_
            refine j_iload C dX7_endPart_168 rfl ?_
            refine j_iconst (v := (nI 4)) C dX7_endPart_170 (by decide) ?_
            refine j_iaddN C dX7_endPart_171 ?_
            refine j_dup2 C dX7_endPart_172 rfl rfl ?_
            refine j_ialdN C (by first | assumption | rfl | exact kd_sums (by assumption) | exact kd_st1 (by assumption) | exact kd_st2 (by assumption) | exact kd_ls (by first | assumption | rfl) (by assumption) | exact kd_sb (by first | assumption | rfl) (by assumption) | exact kd_sv (by assumption)) rfl rfl (by omega) dX7_endPart_173 ?_
            refine j_iload C dX7_endPart_174 rfl ?_
            refine j_isub C dX7_endPart_176 ?_
            refine j_iastN C (by first | assumption | rfl | exact kd_sums (by assumption) | exact kd_st1 (by assumption) | exact kd_st2 (by assumption) | exact kd_ls (by first | assumption | rfl) (by assumption) | exact kd_sb (by first | assumption | rfl) (by assumption) | exact kd_sv (by assumption)) rfl rfl (by omega) dX7_endPart_177 ?_
            refine j_aload_n C dX7_endPart_178 rfl rfl ?_
            refine j_iload_n C dX7_endPart_179 rfl rfl ?_
            refine j_iconst (v := (nI 4)) C dX7_endPart_180 (by decide) ?_
            refine j_iload C dX7_endPart_181 rfl ?_
            refine j_callV3v C (oa_X7 (by first | assumption | rfl | exact kd_sums (by assumption) | exact kd_st1 (by assumption) | exact kd_st2 (by assumption) | exact kd_ls (by first | assumption | rfl) (by assumption) | exact kd_sb (by first | assumption | rfl) (by assumption) | exact kd_sv (by assumption))) rfl rfl (c_X7_move hk8 (by omega)) qm_X7_53 qi_X7_move qs_X7_move qn_X7 qc_X7_move fit_X7_move ⟨Nat.le_of_ble_eq_true rfl, Nat.le_of_ble_eq_true rfl, Nat.le_of_ble_eq_true rfl, Nat.le_of_ble_eq_true rfl⟩ (Nat.le_of_ble_eq_true rfl) dX7_endPart_183 ?_
            refine j_aload_n C dX7_endPart_186 rfl rfl ?_
            refine j_iload_n C dX7_endPart_187 rfl rfl ?_
            refine j_bipush (v := (nI 8)) C dX7_endPart_188 (by decide) ?_
            refine j_iload C dX7_endPart_190 rfl ?_
            refine j_callV3v C (oa_X7 (by first | assumption | rfl | exact kd_sums (by assumption) | exact kd_st1 (by assumption) | exact kd_st2 (by assumption) | exact kd_ls (by first | assumption | rfl) (by assumption) | exact kd_sb (by first | assumption | rfl) (by assumption) | exact kd_sv (by assumption))) rfl rfl (c_X7_move hk8 (by omega)) qm_X7_53 qi_X7_move qs_X7_move qn_X7 qc_X7_move fit_X7_move ⟨Nat.le_of_ble_eq_true rfl, Nat.le_of_ble_eq_true rfl, Nat.le_of_ble_eq_true rfl, Nat.le_of_ble_eq_true rfl⟩ (Nat.le_of_ble_eq_true rfl) dX7_endPart_192 ?_
            refine j_aload_n C dX7_endPart_195 rfl rfl ?_
            refine j_iload_n C dX7_endPart_196 rfl rfl ?_
            refine j_bipush (v := (nI 16)) C dX7_endPart_197 (by decide) ?_
            refine j_iload_n C dX7_endPart_199 rfl rfl ?_
            refine j_callV3v C (oa_X7 (by first | assumption | rfl | exact kd_sums (by assumption) | exact kd_st1 (by assumption) | exact kd_st2 (by assumption) | exact kd_ls (by first | assumption | rfl) (by assumption) | exact kd_sb (by first | assumption | rfl) (by assumption) | exact kd_sv (by assumption))) rfl rfl (c_X7_move hk8 (by omega)) qm_X7_53 qi_X7_move qs_X7_move qn_X7 qc_X7_move fit_X7_move ⟨Nat.le_of_ble_eq_true rfl, Nat.le_of_ble_eq_true rfl, Nat.le_of_ble_eq_true rfl, Nat.le_of_ble_eq_true rfl⟩ (Nat.le_of_ble_eq_true rfl) dX7_endPart_200 ?_
            refine j_iload C dX7_endPart_203 rfl ?_
            refine j_iload C dX7_endPart_205 rfl ?_
            refine j_isub C dX7_endPart_207 ?_
            refine j_iload_n C dX7_endPart_208 rfl rfl ?_
            refine j_isub C dX7_endPart_209 ?_
            exact j_iret C dX7_endPart_210 (by rfl) (by rfl) (by rfl)
          · exfalso
            first | contradiction | exact absurd (isL hV0 hk) (by assumption) | exact absurd ⟨by assumption, by assumption⟩ hbad | exact absurd ⟨by assumption, by assumption, by assumption⟩ hbad | exact absurd ⟨by assumption, by assumption, by assumption, by assumption⟩ hbad | exact absurd (by assumption) (show ¬ rSubs (thr 0 V) k (nI 8) ns ≤ 0 from by assumption) | exact absurd (Int32.not_le.mp (by assumption)) h4 | exact absurd (by assumption) h4
      · replace h30 := b2i_0 h30
        exfalso
        first | contradiction | exact absurd (isL hV0 hk) (by assumption) | exact absurd ⟨by assumption, by assumption⟩ hbad | exact absurd ⟨by assumption, by assumption, by assumption⟩ hbad | exact absurd ⟨by assumption, by assumption, by assumption, by assumption⟩ hbad | exact absurd (by assumption) (show ¬ rSubs (thr 0 V) k (nI 8) ns ≤ 0 from by assumption) | exact absurd (Int32.not_le.mp (by assumption)) h4 | exact absurd (by assumption) h4
  · replace h10 := b2i_0 h10
    exfalso
    first | contradiction | exact absurd (isL hV0 hk) (by assumption) | exact absurd ⟨by assumption, by assumption⟩ hbad | exact absurd ⟨by assumption, by assumption, by assumption⟩ hbad | exact absurd ⟨by assumption, by assumption, by assumption, by assumption⟩ hbad | exact absurd (by assumption) (show ¬ rSubs (thr 0 V) k (nI 8) ns ≤ 0 from by assumption) | exact absurd (Int32.not_le.mp (by assumption)) h4 | exact absurd (by assumption) h4
set_option maxHeartbeats 4000000 in
theorem c_X7_impair_1 {l : Launch} {g : GC} {V : Mem} {L : LMem} {x : Int32} {a1 : Int32} (hbad : ¬ (nI 0 ≤ x ∧ x ≤ V 225 0 - nI 1)) : MC l yX7_impair cX7_impair 3 (some .int) 6 g V L [.ref (ad g 224), .int x, .int a1] (some (.int 0)) (thr 1 (thr 0 V)) L := by
  refine MC.of [some (.ref (ad g 224)), some (.int x), some (.int a1)] (by decide +kernel) rfl (Nat.le_of_ble_eq_true rfl) (fun p e s m args below meth c C => ?_)
  skip
  refine j_aload_n C dX7_impair_0 rfl rfl ?_
  refine j_iconst (v := (nI 0)) C dX7_impair_1 (by decide) ?_
  refine jp_LeaseBookModel_thrown C (by first | assumption | rfl | exact kd_sums (by assumption) | exact kd_st1 (by assumption) | exact kd_st2 (by assumption) | exact kd_ls (by first | assumption | rfl) (by assumption) | exact kd_sb (by first | assumption | rfl) (by assumption) | exact kd_sv (by assumption)) qf_X7_25 dX7_impair_2 ?_
  refine j_aload_n C dX7_impair_5 rfl rfl ?_
  refine j_iload_n C dX7_impair_6 rfl rfl ?_
  refine j_callV1r C (oa_X7 (by first | assumption | rfl | exact kd_sums (by assumption) | exact kd_st1 (by assumption) | exact kd_st2 (by assumption) | exact kd_ls (by first | assumption | rfl) (by assumption) | exact kd_sb (by first | assumption | rfl) (by assumption) | exact kd_sv (by assumption))) rfl rfl (c_X7_isLease) qm_X7_84 qi_X7_isLease qs_X7_isLease qn_X7 qc_X7_isLease fit_X7_isLease ⟨Nat.le_of_ble_eq_true rfl, Nat.le_of_ble_eq_true rfl, Nat.le_of_ble_eq_true rfl, Nat.le_of_ble_eq_true rfl⟩ (Nat.le_of_ble_eq_true rfl) dX7_impair_7 ?_
  refine j_if_ne (tgt := 19) C dX7_impair_10 (by decide) (fun h10 => ?_) (fun h10 => ?_)
  · replace h10 := b2i_1 h10
    exfalso
    first | contradiction | exact absurd (isL hV0 hk) (by assumption) | exact absurd ⟨by assumption, by assumption⟩ hbad | exact absurd ⟨by assumption, by assumption, by assumption⟩ hbad | exact absurd ⟨by assumption, by assumption, by assumption, by assumption⟩ hbad | exact absurd (by assumption) hbad
  · replace h10 := b2i_0 h10
    refine j_aload_n C dX7_impair_13 rfl rfl ?_
    refine j_iconst (v := (nI 1)) C dX7_impair_14 (by decide) ?_
    refine j_callV1r C (oa_X7 (by first | assumption | rfl | exact kd_sums (by assumption) | exact kd_st1 (by assumption) | exact kd_st2 (by assumption) | exact kd_ls (by first | assumption | rfl) (by assumption) | exact kd_sb (by first | assumption | rfl) (by assumption) | exact kd_sv (by assumption))) rfl rfl (c_X7_fails) qm_X7_67 qi_X7_fails qs_X7_fails qn_X7 qc_X7_fails fit_X7_fails ⟨Nat.le_of_ble_eq_true rfl, Nat.le_of_ble_eq_true rfl, Nat.le_of_ble_eq_true rfl, Nat.le_of_ble_eq_true rfl⟩ (Nat.le_of_ble_eq_true rfl) dX7_impair_15 ?_
    exact j_iret C dX7_impair_18 (by rfl) (by rfl) (by rfl)
set_option maxHeartbeats 4000000 in
theorem c_X7_impair_2 {l : Launch} {g : GC} {V : Mem} {L : LMem} {k nl ns : Nat} (hk : k < nl) (hR : RR nl ns V) {a1 : Int32} (hbad : ¬ (nI 1 ≤ a1 ∧ a1 ≤ nI 1000000)) : MC l yX7_impair cX7_impair 3 (some .int) 6 g V L [.ref (ad g 224), .int (nI k), .int a1] (some (.int 0)) (thr 2 (thr 0 V)) L := by
  refine MC.of [some (.ref (ad g 224)), some (.int (nI k)), some (.int a1)] (by decide +kernel) rfl (Nat.le_of_ble_eq_true rfl) (fun p e s m args below meth c C => ?_)
  have hV0 : RR nl ns (mset V 224 6 (nI 0)) := hR.put (Or.inl (by decide))
  have hk8 : k < 8 := Nat.lt_of_lt_of_le hk hR.1
  refine j_aload_n C dX7_impair_0 rfl rfl ?_
  refine j_iconst (v := (nI 0)) C dX7_impair_1 (by decide) ?_
  refine jp_LeaseBookModel_thrown C (by first | assumption | rfl | exact kd_sums (by assumption) | exact kd_st1 (by assumption) | exact kd_st2 (by assumption) | exact kd_ls (by first | assumption | rfl) (by assumption) | exact kd_sb (by first | assumption | rfl) (by assumption) | exact kd_sv (by assumption)) qf_X7_25 dX7_impair_2 ?_
  refine j_aload_n C dX7_impair_5 rfl rfl ?_
  refine j_iload_n C dX7_impair_6 rfl rfl ?_
  refine j_callV1r C (oa_X7 (by first | assumption | rfl | exact kd_sums (by assumption) | exact kd_st1 (by assumption) | exact kd_st2 (by assumption) | exact kd_ls (by first | assumption | rfl) (by assumption) | exact kd_sb (by first | assumption | rfl) (by assumption) | exact kd_sv (by assumption))) rfl rfl (c_X7_isLease) qm_X7_84 qi_X7_isLease qs_X7_isLease qn_X7 qc_X7_isLease fit_X7_isLease ⟨Nat.le_of_ble_eq_true rfl, Nat.le_of_ble_eq_true rfl, Nat.le_of_ble_eq_true rfl, Nat.le_of_ble_eq_true rfl⟩ (Nat.le_of_ble_eq_true rfl) dX7_impair_7 ?_
  refine j_if_ne (tgt := 19) C dX7_impair_10 (by decide) (fun h10 => ?_) (fun h10 => ?_)
  · replace h10 := b2i_1 h10
    refine j_iload_n C dX7_impair_19 rfl rfl ?_
    refine j_iconst (v := (nI 1)) C dX7_impair_20 (by decide) ?_
    refine j_ldc (v := nI 1000000) C qk_X7_103 dX7_impair_21 ?_
    refine j_callS3r C (c_X7_in) qm_X7_42 qt_X7_in qn_X7 qc_X7_in fit_X7_in ⟨Nat.le_of_ble_eq_true rfl, Nat.le_of_ble_eq_true rfl, Nat.le_of_ble_eq_true rfl, Nat.le_of_ble_eq_true rfl⟩ (Nat.le_of_ble_eq_true rfl) dX7_impair_23 ?_
    refine j_if_ne (tgt := 35) C dX7_impair_26 (by decide) (fun h26 => ?_) (fun h26 => ?_)
    · replace h26 := b2i_1 h26
      exfalso
      first | contradiction | exact absurd (isL hV0 hk) (by assumption) | exact absurd ⟨by assumption, by assumption⟩ hbad | exact absurd ⟨by assumption, by assumption, by assumption⟩ hbad | exact absurd ⟨by assumption, by assumption, by assumption, by assumption⟩ hbad | exact absurd (by assumption) hbad
    · replace h26 := b2i_0 h26
      refine j_aload_n C dX7_impair_29 rfl rfl ?_
      refine j_iconst (v := (nI 2)) C dX7_impair_30 (by decide) ?_
      refine j_callV1r C (oa_X7 (by first | assumption | rfl | exact kd_sums (by assumption) | exact kd_st1 (by assumption) | exact kd_st2 (by assumption) | exact kd_ls (by first | assumption | rfl) (by assumption) | exact kd_sb (by first | assumption | rfl) (by assumption) | exact kd_sv (by assumption))) rfl rfl (c_X7_fails) qm_X7_67 qi_X7_fails qs_X7_fails qn_X7 qc_X7_fails fit_X7_fails ⟨Nat.le_of_ble_eq_true rfl, Nat.le_of_ble_eq_true rfl, Nat.le_of_ble_eq_true rfl, Nat.le_of_ble_eq_true rfl⟩ (Nat.le_of_ble_eq_true rfl) dX7_impair_31 ?_
      exact j_iret C dX7_impair_34 (by rfl) (by rfl) (by rfl)
  · replace h10 := b2i_0 h10
    exfalso
    first | contradiction | exact absurd (isL hV0 hk) (by assumption) | exact absurd ⟨by assumption, by assumption⟩ hbad | exact absurd ⟨by assumption, by assumption, by assumption⟩ hbad | exact absurd ⟨by assumption, by assumption, by assumption, by assumption⟩ hbad | exact absurd (by assumption) hbad
set_option maxHeartbeats 4000000 in
theorem c_X7_impair_3 {l : Launch} {g : GC} {V : Mem} {L : LMem} {k nl ns : Nat} (hk : k < nl) (hR : RR nl ns V) {a1 : Int32} (h1 : nI 1 ≤ a1 ∧ a1 ≤ nI 1000000) (h3 : ¬ a1 ≤ V 225 (3 + 22 * k + 4)) : MC l yX7_impair cX7_impair 3 (some .int) 6 g V L [.ref (ad g 224), .int (nI k), .int a1] (some (.int 0)) (thr 3 (thr 0 V)) L := by
  refine MC.of [some (.ref (ad g 224)), some (.int (nI k)), some (.int a1)] (by decide +kernel) rfl (Nat.le_of_ble_eq_true rfl) (fun p e s m args below meth c C => ?_)
  have hV0 : RR nl ns (mset V 224 6 (nI 0)) := hR.put (Or.inl (by decide))
  have hk8 : k < 8 := Nat.lt_of_lt_of_le hk hR.1
  refine j_aload_n C dX7_impair_0 rfl rfl ?_
  refine j_iconst (v := (nI 0)) C dX7_impair_1 (by decide) ?_
  refine jp_LeaseBookModel_thrown C (by first | assumption | rfl | exact kd_sums (by assumption) | exact kd_st1 (by assumption) | exact kd_st2 (by assumption) | exact kd_ls (by first | assumption | rfl) (by assumption) | exact kd_sb (by first | assumption | rfl) (by assumption) | exact kd_sv (by assumption)) qf_X7_25 dX7_impair_2 ?_
  refine j_aload_n C dX7_impair_5 rfl rfl ?_
  refine j_iload_n C dX7_impair_6 rfl rfl ?_
  refine j_callV1r C (oa_X7 (by first | assumption | rfl | exact kd_sums (by assumption) | exact kd_st1 (by assumption) | exact kd_st2 (by assumption) | exact kd_ls (by first | assumption | rfl) (by assumption) | exact kd_sb (by first | assumption | rfl) (by assumption) | exact kd_sv (by assumption))) rfl rfl (c_X7_isLease) qm_X7_84 qi_X7_isLease qs_X7_isLease qn_X7 qc_X7_isLease fit_X7_isLease ⟨Nat.le_of_ble_eq_true rfl, Nat.le_of_ble_eq_true rfl, Nat.le_of_ble_eq_true rfl, Nat.le_of_ble_eq_true rfl⟩ (Nat.le_of_ble_eq_true rfl) dX7_impair_7 ?_
  refine j_if_ne (tgt := 19) C dX7_impair_10 (by decide) (fun h10 => ?_) (fun h10 => ?_)
  · replace h10 := b2i_1 h10
    refine j_iload_n C dX7_impair_19 rfl rfl ?_
    refine j_iconst (v := (nI 1)) C dX7_impair_20 (by decide) ?_
    refine j_ldc (v := nI 1000000) C qk_X7_103 dX7_impair_21 ?_
    refine j_callS3r C (c_X7_in) qm_X7_42 qt_X7_in qn_X7 qc_X7_in fit_X7_in ⟨Nat.le_of_ble_eq_true rfl, Nat.le_of_ble_eq_true rfl, Nat.le_of_ble_eq_true rfl, Nat.le_of_ble_eq_true rfl⟩ (Nat.le_of_ble_eq_true rfl) dX7_impair_23 ?_
    refine j_if_ne (tgt := 35) C dX7_impair_26 (by decide) (fun h26 => ?_) (fun h26 => ?_)
    · replace h26 := b2i_1 h26
      refine j_aload_n C dX7_impair_35 rfl rfl ?_
      refine jg_LeaseBookModel_z C (by first | assumption | rfl | exact kd_sums (by assumption) | exact kd_st1 (by assumption) | exact kd_st2 (by assumption) | exact kd_ls (by first | assumption | rfl) (by assumption) | exact kd_sb (by first | assumption | rfl) (by assumption) | exact kd_sv (by assumption)) qf_X7_7 dX7_impair_36 ?_
      refine j_iload_n C dX7_impair_39 rfl rfl ?_
      refine j_callS1r C (c_X7_at) qm_X7_32 qt_X7_at qn_X7 qc_X7_at fit_X7_at ⟨Nat.le_of_ble_eq_true rfl, Nat.le_of_ble_eq_true rfl, Nat.le_of_ble_eq_true rfl, Nat.le_of_ble_eq_true rfl⟩ (Nat.le_of_ble_eq_true rfl) dX7_impair_40 ?_
      refine j_iconst (v := (nI 4)) C dX7_impair_43 (by decide) ?_
      refine j_iaddN C dX7_impair_44 ?_
      refine j_ialdN C (by first | assumption | rfl | exact kd_sums (by assumption) | exact kd_st1 (by assumption) | exact kd_st2 (by assumption) | exact kd_ls (by first | assumption | rfl) (by assumption) | exact kd_sb (by first | assumption | rfl) (by assumption) | exact kd_sv (by assumption)) rfl rfl (by omega) dX7_impair_45 ?_
      refine j_iload_n C dX7_impair_46 rfl rfl ?_
      refine j_icmp_ge (tgt := 56) C dX7_impair_47 (by decide) (fun h47 => ?_) (fun h47 => ?_)
      · exfalso
        first | contradiction | exact absurd (isL hV0 hk) (by assumption) | exact absurd ⟨by assumption, by assumption⟩ hbad | exact absurd ⟨by assumption, by assumption, by assumption⟩ hbad | exact absurd ⟨by assumption, by assumption, by assumption, by assumption⟩ hbad | exact absurd (by assumption) h3
      · refine j_aload_n C dX7_impair_50 rfl rfl ?_
        refine j_iconst (v := (nI 3)) C dX7_impair_51 (by decide) ?_
        refine j_callV1r C (oa_X7 (by first | assumption | rfl | exact kd_sums (by assumption) | exact kd_st1 (by assumption) | exact kd_st2 (by assumption) | exact kd_ls (by first | assumption | rfl) (by assumption) | exact kd_sb (by first | assumption | rfl) (by assumption) | exact kd_sv (by assumption))) rfl rfl (c_X7_fails) qm_X7_67 qi_X7_fails qs_X7_fails qn_X7 qc_X7_fails fit_X7_fails ⟨Nat.le_of_ble_eq_true rfl, Nat.le_of_ble_eq_true rfl, Nat.le_of_ble_eq_true rfl, Nat.le_of_ble_eq_true rfl⟩ (Nat.le_of_ble_eq_true rfl) dX7_impair_52 ?_
        exact j_iret C dX7_impair_55 (by rfl) (by rfl) (by rfl)
    · replace h26 := b2i_0 h26
      exfalso
      first | contradiction | exact absurd (isL hV0 hk) (by assumption) | exact absurd ⟨by assumption, by assumption⟩ hbad | exact absurd ⟨by assumption, by assumption, by assumption⟩ hbad | exact absurd ⟨by assumption, by assumption, by assumption, by assumption⟩ hbad | exact absurd (by assumption) h3
  · replace h10 := b2i_0 h10
    exfalso
    first | contradiction | exact absurd (isL hV0 hk) (by assumption) | exact absurd ⟨by assumption, by assumption⟩ hbad | exact absurd ⟨by assumption, by assumption, by assumption⟩ hbad | exact absurd ⟨by assumption, by assumption, by assumption, by assumption⟩ hbad | exact absurd (by assumption) h3
set_option maxHeartbeats 4000000 in
theorem c_X7_impair_ok {l : Launch} {g : GC} {V : Mem} {L : LMem} {k nl ns : Nat} (hk : k < nl) (hR : RR nl ns V) {a1 : Int32} (h1 : nI 1 ≤ a1 ∧ a1 ≤ nI 1000000) (h3 : a1 ≤ V 225 (3 + 22 * k + 4)) {sv : Nat} (hsv : V 224 3 = nI sv) (hs6 : sv ≤ 6) : MC l yX7_impair cX7_impair 3 (some .int) 6 g V L [.ref (ad g 224), .int (nI k), .int a1] (some (.int (rImp k a1 (rSave sv (thr 0 V)) 225 (3 + 22 * k + 4)))) (rImp k a1 (rSave sv (thr 0 V))) L := by
  refine MC.of [some (.ref (ad g 224)), some (.int (nI k)), some (.int a1)] (by decide +kernel) rfl (Nat.le_of_ble_eq_true rfl) (fun p e s m args below meth c C => ?_)
  have hV0 : RR nl ns (mset V 224 6 (nI 0)) := hR.put (Or.inl (by decide))
  have hk8 : k < 8 := Nat.lt_of_lt_of_le hk hR.1
  have hS : RR nl ns (rSave sv (mset V 224 6 (nI 0))) := hV0.row (rSave_row (by decide) (by decide))
  refine j_aload_n C dX7_impair_0 rfl rfl ?_
  refine j_iconst (v := (nI 0)) C dX7_impair_1 (by decide) ?_
  refine jp_LeaseBookModel_thrown C (by first | assumption | rfl | exact kd_sums (by assumption) | exact kd_st1 (by assumption) | exact kd_st2 (by assumption) | exact kd_ls (by first | assumption | rfl) (by assumption) | exact kd_sb (by first | assumption | rfl) (by assumption) | exact kd_sv (by assumption)) qf_X7_25 dX7_impair_2 ?_
  refine j_aload_n C dX7_impair_5 rfl rfl ?_
  refine j_iload_n C dX7_impair_6 rfl rfl ?_
  refine j_callV1r C (oa_X7 (by first | assumption | rfl | exact kd_sums (by assumption) | exact kd_st1 (by assumption) | exact kd_st2 (by assumption) | exact kd_ls (by first | assumption | rfl) (by assumption) | exact kd_sb (by first | assumption | rfl) (by assumption) | exact kd_sv (by assumption))) rfl rfl (c_X7_isLease) qm_X7_84 qi_X7_isLease qs_X7_isLease qn_X7 qc_X7_isLease fit_X7_isLease ⟨Nat.le_of_ble_eq_true rfl, Nat.le_of_ble_eq_true rfl, Nat.le_of_ble_eq_true rfl, Nat.le_of_ble_eq_true rfl⟩ (Nat.le_of_ble_eq_true rfl) dX7_impair_7 ?_
  refine j_if_ne (tgt := 19) C dX7_impair_10 (by decide) (fun h10 => ?_) (fun h10 => ?_)
  · replace h10 := b2i_1 h10
    refine j_iload_n C dX7_impair_19 rfl rfl ?_
    refine j_iconst (v := (nI 1)) C dX7_impair_20 (by decide) ?_
    refine j_ldc (v := nI 1000000) C qk_X7_103 dX7_impair_21 ?_
    refine j_callS3r C (c_X7_in) qm_X7_42 qt_X7_in qn_X7 qc_X7_in fit_X7_in ⟨Nat.le_of_ble_eq_true rfl, Nat.le_of_ble_eq_true rfl, Nat.le_of_ble_eq_true rfl, Nat.le_of_ble_eq_true rfl⟩ (Nat.le_of_ble_eq_true rfl) dX7_impair_23 ?_
    refine j_if_ne (tgt := 35) C dX7_impair_26 (by decide) (fun h26 => ?_) (fun h26 => ?_)
    · replace h26 := b2i_1 h26
      refine j_aload_n C dX7_impair_35 rfl rfl ?_
      refine jg_LeaseBookModel_z C (by first | assumption | rfl | exact kd_sums (by assumption) | exact kd_st1 (by assumption) | exact kd_st2 (by assumption) | exact kd_ls (by first | assumption | rfl) (by assumption) | exact kd_sb (by first | assumption | rfl) (by assumption) | exact kd_sv (by assumption)) qf_X7_7 dX7_impair_36 ?_
      refine j_iload_n C dX7_impair_39 rfl rfl ?_
      refine j_callS1r C (c_X7_at) qm_X7_32 qt_X7_at qn_X7 qc_X7_at fit_X7_at ⟨Nat.le_of_ble_eq_true rfl, Nat.le_of_ble_eq_true rfl, Nat.le_of_ble_eq_true rfl, Nat.le_of_ble_eq_true rfl⟩ (Nat.le_of_ble_eq_true rfl) dX7_impair_40 ?_
      refine j_iconst (v := (nI 4)) C dX7_impair_43 (by decide) ?_
      refine j_iaddN C dX7_impair_44 ?_
      refine j_ialdN C (by first | assumption | rfl | exact kd_sums (by assumption) | exact kd_st1 (by assumption) | exact kd_st2 (by assumption) | exact kd_ls (by first | assumption | rfl) (by assumption) | exact kd_sb (by first | assumption | rfl) (by assumption) | exact kd_sv (by assumption)) rfl rfl (by omega) dX7_impair_45 ?_
      refine j_iload_n C dX7_impair_46 rfl rfl ?_
      refine j_icmp_ge (tgt := 56) C dX7_impair_47 (by decide) (fun h47 => ?_) (fun h47 => ?_)
      · refine j_aload_n C dX7_impair_56 rfl rfl ?_
        refine j_callV0v C (oa_X7 (by first | assumption | rfl | exact kd_sums (by assumption) | exact kd_st1 (by assumption) | exact kd_st2 (by assumption) | exact kd_ls (by first | assumption | rfl) (by assumption) | exact kd_sb (by first | assumption | rfl) (by assumption) | exact kd_sv (by assumption))) rfl rfl (c_X7_save (sv := sv) (by rw [mset_ne (by omega)]; exact hsv) hs6) qm_X7_70 qi_X7_save qs_X7_save qn_X7 qc_X7_save fit_X7_save ⟨Nat.le_of_ble_eq_true rfl, Nat.le_of_ble_eq_true rfl, Nat.le_of_ble_eq_true rfl, Nat.le_of_ble_eq_true rfl⟩ (Nat.le_of_ble_eq_true rfl) dX7_impair_57 ?_
        refine j_aload_n C dX7_impair_60 rfl rfl ?_
        refine jg_LeaseBookModel_z C (by first | assumption | rfl | exact kd_sums (by assumption) | exact kd_st1 (by assumption) | exact kd_st2 (by assumption) | exact kd_ls (by first | assumption | rfl) (by assumption) | exact kd_sb (by first | assumption | rfl) (by assumption) | exact kd_sv (by assumption)) qf_X7_7 dX7_impair_61 ?_
        refine j_iload_n C dX7_impair_64 rfl rfl ?_
        refine j_callS1r C (c_X7_at) qm_X7_32 qt_X7_at qn_X7 qc_X7_at fit_X7_at ⟨Nat.le_of_ble_eq_true rfl, Nat.le_of_ble_eq_true rfl, Nat.le_of_ble_eq_true rfl, Nat.le_of_ble_eq_true rfl⟩ (Nat.le_of_ble_eq_true rfl) dX7_impair_65 ?_
        refine j_iconst (v := (nI 4)) C dX7_impair_68 (by decide) ?_
        refine j_iaddN C dX7_impair_69 ?_
        refine j_dup2 C dX7_impair_70 rfl rfl ?_
        refine j_ialdN C (by first | assumption | rfl | exact kd_sums (by assumption) | exact kd_st1 (by assumption) | exact kd_st2 (by assumption) | exact kd_ls (by first | assumption | rfl) (by assumption) | exact kd_sb (by first | assumption | rfl) (by assumption) | exact kd_sv (by assumption)) rfl rfl (by omega) dX7_impair_71 ?_
        refine j_iload_n C dX7_impair_72 rfl rfl ?_
        refine j_isub C dX7_impair_73 ?_
        refine j_iastN C (by first | assumption | rfl | exact kd_sums (by assumption) | exact kd_st1 (by assumption) | exact kd_st2 (by assumption) | exact kd_ls (by first | assumption | rfl) (by assumption) | exact kd_sb (by first | assumption | rfl) (by assumption) | exact kd_sv (by assumption)) rfl rfl (by omega) dX7_impair_74 ?_
        refine j_aload_n C dX7_impair_75 rfl rfl ?_
        refine j_iload_n C dX7_impair_76 rfl rfl ?_
        refine j_bipush (v := (nI 10)) C dX7_impair_77 (by decide) ?_
        refine j_iload_n C dX7_impair_79 rfl rfl ?_
        refine j_callV3v C (oa_X7 (by first | assumption | rfl | exact kd_sums (by assumption) | exact kd_st1 (by assumption) | exact kd_st2 (by assumption) | exact kd_ls (by first | assumption | rfl) (by assumption) | exact kd_sb (by first | assumption | rfl) (by assumption) | exact kd_sv (by assumption))) rfl rfl (c_X7_move hk8 (by omega)) qm_X7_53 qi_X7_move qs_X7_move qn_X7 qc_X7_move fit_X7_move ⟨Nat.le_of_ble_eq_true rfl, Nat.le_of_ble_eq_true rfl, Nat.le_of_ble_eq_true rfl, Nat.le_of_ble_eq_true rfl⟩ (Nat.le_of_ble_eq_true rfl) dX7_impair_80 ?_
        refine j_aload_n C dX7_impair_83 rfl rfl ?_
        refine jg_LeaseBookModel_z C (by first | assumption | rfl | exact kd_sums (by assumption) | exact kd_st1 (by assumption) | exact kd_st2 (by assumption) | exact kd_ls (by first | assumption | rfl) (by assumption) | exact kd_sb (by first | assumption | rfl) (by assumption) | exact kd_sv (by assumption)) qf_X7_7 dX7_impair_84 ?_
        refine j_iload_n C dX7_impair_87 rfl rfl ?_
        refine j_callS1r C (c_X7_at) qm_X7_32 qt_X7_at qn_X7 qc_X7_at fit_X7_at ⟨Nat.le_of_ble_eq_true rfl, Nat.le_of_ble_eq_true rfl, Nat.le_of_ble_eq_true rfl, Nat.le_of_ble_eq_true rfl⟩ (Nat.le_of_ble_eq_true rfl) dX7_impair_88 ?_
        refine j_iconst (v := (nI 4)) C dX7_impair_91 (by decide) ?_
        refine j_iaddN C dX7_impair_92 ?_
        refine j_ialdN C (by first | assumption | rfl | exact kd_sums (by assumption) | exact kd_st1 (by assumption) | exact kd_st2 (by assumption) | exact kd_ls (by first | assumption | rfl) (by assumption) | exact kd_sb (by first | assumption | rfl) (by assumption) | exact kd_sv (by assumption)) rfl rfl (by omega) dX7_impair_93 ?_
        exact j_iret C dX7_impair_94 (by rfl) (by rfl) (by rfl)
      · exfalso
        first | contradiction | exact absurd (isL hV0 hk) (by assumption) | exact absurd ⟨by assumption, by assumption⟩ hbad | exact absurd ⟨by assumption, by assumption, by assumption⟩ hbad | exact absurd ⟨by assumption, by assumption, by assumption, by assumption⟩ hbad | exact absurd h3 (by first | assumption | exact Int32.not_le.mpr (by assumption))
    · replace h26 := b2i_0 h26
      exfalso
      first | contradiction | exact absurd (isL hV0 hk) (by assumption) | exact absurd ⟨by assumption, by assumption⟩ hbad | exact absurd ⟨by assumption, by assumption, by assumption⟩ hbad | exact absurd ⟨by assumption, by assumption, by assumption, by assumption⟩ hbad | exact absurd h3 (by first | assumption | exact Int32.not_le.mpr (by assumption))
  · replace h10 := b2i_0 h10
    exfalso
    first | contradiction | exact absurd (isL hV0 hk) (by assumption) | exact absurd ⟨by assumption, by assumption⟩ hbad | exact absurd ⟨by assumption, by assumption, by assumption⟩ hbad | exact absurd ⟨by assumption, by assumption, by assumption, by assumption⟩ hbad | exact absurd h3 (by first | assumption | exact Int32.not_le.mpr (by assumption))
set_option maxHeartbeats 4000000 in
theorem c_X7_sublet_1 {l : Launch} {g : GC} {V : Mem} {L : LMem} {x : Int32} {t rc n1 : Int32} (hbad : ¬ (nI 0 ≤ x ∧ x ≤ V 225 0 - nI 1)) : MC l yX7_sublet cX7_sublet 8 (some .int) 6 g V L [.ref (ad g 224), .int x, .int t, .int rc, .int n1] (some (.int 0)) (thr 1 (thr 0 V)) L := by
  refine MC.of [some (.ref (ad g 224)), some (.int x), some (.int t), some (.int rc), some (.int n1), none, none, none] (by decide +kernel) rfl (Nat.le_of_ble_eq_true rfl) (fun p e s m args below meth c C => ?_)
  skip
  refine j_aload_n C dX7_sublet_0 rfl rfl ?_
  refine j_iconst (v := (nI 0)) C dX7_sublet_1 (by decide) ?_
  refine jp_LeaseBookModel_thrown C (by first | assumption | rfl | exact kd_sums (by assumption) | exact kd_st1 (by assumption) | exact kd_st2 (by assumption) | exact kd_ls (by first | assumption | rfl) (by assumption) | exact kd_sb (by first | assumption | rfl) (by assumption) | exact kd_sv (by assumption)) qf_X7_25 dX7_sublet_2 ?_
  refine j_aload_n C dX7_sublet_5 rfl rfl ?_
  refine j_iload_n C dX7_sublet_6 rfl rfl ?_
  refine j_callV1r C (oa_X7 (by first | assumption | rfl | exact kd_sums (by assumption) | exact kd_st1 (by assumption) | exact kd_st2 (by assumption) | exact kd_ls (by first | assumption | rfl) (by assumption) | exact kd_sb (by first | assumption | rfl) (by assumption) | exact kd_sv (by assumption))) rfl rfl (c_X7_isLease) qm_X7_84 qi_X7_isLease qs_X7_isLease qn_X7 qc_X7_isLease fit_X7_isLease ⟨Nat.le_of_ble_eq_true rfl, Nat.le_of_ble_eq_true rfl, Nat.le_of_ble_eq_true rfl, Nat.le_of_ble_eq_true rfl⟩ (Nat.le_of_ble_eq_true rfl) dX7_sublet_7 ?_
  refine j_if_ne (tgt := 19) C dX7_sublet_10 (by decide) (fun h10 => ?_) (fun h10 => ?_)
  · replace h10 := b2i_1 h10
    exfalso
    first | contradiction | exact absurd (isL hV0 hk) (by assumption) | exact absurd ⟨by assumption, by assumption⟩ hbad | exact absurd ⟨by assumption, by assumption, by assumption⟩ hbad | exact absurd ⟨by assumption, by assumption, by assumption, by assumption⟩ hbad | exact absurd (by assumption) hbad
  · replace h10 := b2i_0 h10
    refine j_aload_n C dX7_sublet_13 rfl rfl ?_
    refine j_iconst (v := (nI 1)) C dX7_sublet_14 (by decide) ?_
    refine j_callV1r C (oa_X7 (by first | assumption | rfl | exact kd_sums (by assumption) | exact kd_st1 (by assumption) | exact kd_st2 (by assumption) | exact kd_ls (by first | assumption | rfl) (by assumption) | exact kd_sb (by first | assumption | rfl) (by assumption) | exact kd_sv (by assumption))) rfl rfl (c_X7_fails) qm_X7_67 qi_X7_fails qs_X7_fails qn_X7 qc_X7_fails fit_X7_fails ⟨Nat.le_of_ble_eq_true rfl, Nat.le_of_ble_eq_true rfl, Nat.le_of_ble_eq_true rfl, Nat.le_of_ble_eq_true rfl⟩ (Nat.le_of_ble_eq_true rfl) dX7_sublet_15 ?_
    exact j_iret C dX7_sublet_18 (by rfl) (by rfl) (by rfl)
set_option maxHeartbeats 4000000 in
theorem c_X7_sublet_2 {l : Launch} {g : GC} {V : Mem} {L : LMem} {k nl ns : Nat} (hk : k < nl) (hR : RR nl ns V) {t rc n1 : Int32} (hbad : ¬ (partR t ∧ money rc ∧ termR n1)) : MC l yX7_sublet cX7_sublet 8 (some .int) 6 g V L [.ref (ad g 224), .int (nI k), .int t, .int rc, .int n1] (some (.int 0)) (thr 2 (thr 0 V)) L := by
  refine MC.of [some (.ref (ad g 224)), some (.int (nI k)), some (.int t), some (.int rc), some (.int n1), none, none, none] (by decide +kernel) rfl (Nat.le_of_ble_eq_true rfl) (fun p e s m args below meth c C => ?_)
  have hV0 : RR nl ns (mset V 224 6 (nI 0)) := hR.put (Or.inl (by decide))
  have hk8 : k < 8 := Nat.lt_of_lt_of_le hk hR.1
  refine j_aload_n C dX7_sublet_0 rfl rfl ?_
  refine j_iconst (v := (nI 0)) C dX7_sublet_1 (by decide) ?_
  refine jp_LeaseBookModel_thrown C (by first | assumption | rfl | exact kd_sums (by assumption) | exact kd_st1 (by assumption) | exact kd_st2 (by assumption) | exact kd_ls (by first | assumption | rfl) (by assumption) | exact kd_sb (by first | assumption | rfl) (by assumption) | exact kd_sv (by assumption)) qf_X7_25 dX7_sublet_2 ?_
  refine j_aload_n C dX7_sublet_5 rfl rfl ?_
  refine j_iload_n C dX7_sublet_6 rfl rfl ?_
  refine j_callV1r C (oa_X7 (by first | assumption | rfl | exact kd_sums (by assumption) | exact kd_st1 (by assumption) | exact kd_st2 (by assumption) | exact kd_ls (by first | assumption | rfl) (by assumption) | exact kd_sb (by first | assumption | rfl) (by assumption) | exact kd_sv (by assumption))) rfl rfl (c_X7_isLease) qm_X7_84 qi_X7_isLease qs_X7_isLease qn_X7 qc_X7_isLease fit_X7_isLease ⟨Nat.le_of_ble_eq_true rfl, Nat.le_of_ble_eq_true rfl, Nat.le_of_ble_eq_true rfl, Nat.le_of_ble_eq_true rfl⟩ (Nat.le_of_ble_eq_true rfl) dX7_sublet_7 ?_
  refine j_if_ne (tgt := 19) C dX7_sublet_10 (by decide) (fun h10 => ?_) (fun h10 => ?_)
  · replace h10 := b2i_1 h10
    refine j_iload_n C dX7_sublet_19 rfl rfl ?_
    refine j_callS1r C (c_X7_isPart) qm_X7_93 qt_X7_isPart qn_X7 qc_X7_isPart fit_X7_isPart ⟨Nat.le_of_ble_eq_true rfl, Nat.le_of_ble_eq_true rfl, Nat.le_of_ble_eq_true rfl, Nat.le_of_ble_eq_true rfl⟩ (Nat.le_of_ble_eq_true rfl) dX7_sublet_20 ?_
    refine j_if_eq (tgt := 41) C dX7_sublet_23 (by decide) (fun h23 => ?_) (fun h23 => ?_)
    · replace h23 := b2i_0 h23
      refine j_aload_n C dX7_sublet_41 rfl rfl ?_
      refine j_iconst (v := (nI 2)) C dX7_sublet_42 (by decide) ?_
      refine j_callV1r C (oa_X7 (by first | assumption | rfl | exact kd_sums (by assumption) | exact kd_st1 (by assumption) | exact kd_st2 (by assumption) | exact kd_ls (by first | assumption | rfl) (by assumption) | exact kd_sb (by first | assumption | rfl) (by assumption) | exact kd_sv (by assumption))) rfl rfl (c_X7_fails) qm_X7_67 qi_X7_fails qs_X7_fails qn_X7 qc_X7_fails fit_X7_fails ⟨Nat.le_of_ble_eq_true rfl, Nat.le_of_ble_eq_true rfl, Nat.le_of_ble_eq_true rfl, Nat.le_of_ble_eq_true rfl⟩ (Nat.le_of_ble_eq_true rfl) dX7_sublet_43 ?_
      exact j_iret C dX7_sublet_46 (by rfl) (by rfl) (by rfl)
    · replace h23 := b2i_1 h23
      refine j_iload_n C dX7_sublet_26 rfl rfl ?_
      refine j_callS1r C (c_X7_isMoney) qm_X7_57 qt_X7_isMoney qn_X7 qc_X7_isMoney fit_X7_isMoney ⟨Nat.le_of_ble_eq_true rfl, Nat.le_of_ble_eq_true rfl, Nat.le_of_ble_eq_true rfl, Nat.le_of_ble_eq_true rfl⟩ (Nat.le_of_ble_eq_true rfl) dX7_sublet_27 ?_
      refine j_if_eq (tgt := 41) C dX7_sublet_30 (by decide) (fun h30 => ?_) (fun h30 => ?_)
      · replace h30 := b2i_0 h30
        refine j_aload_n C dX7_sublet_41 rfl rfl ?_
        refine j_iconst (v := (nI 2)) C dX7_sublet_42 (by decide) ?_
        refine j_callV1r C (oa_X7 (by first | assumption | rfl | exact kd_sums (by assumption) | exact kd_st1 (by assumption) | exact kd_st2 (by assumption) | exact kd_ls (by first | assumption | rfl) (by assumption) | exact kd_sb (by first | assumption | rfl) (by assumption) | exact kd_sv (by assumption))) rfl rfl (c_X7_fails) qm_X7_67 qi_X7_fails qs_X7_fails qn_X7 qc_X7_fails fit_X7_fails ⟨Nat.le_of_ble_eq_true rfl, Nat.le_of_ble_eq_true rfl, Nat.le_of_ble_eq_true rfl, Nat.le_of_ble_eq_true rfl⟩ (Nat.le_of_ble_eq_true rfl) dX7_sublet_43 ?_
        exact j_iret C dX7_sublet_46 (by rfl) (by rfl) (by rfl)
      · replace h30 := b2i_1 h30
        refine j_iload C dX7_sublet_33 rfl ?_
        refine j_callS1r C (c_X7_isTerm) qm_X7_61 qt_X7_isTerm qn_X7 qc_X7_isTerm fit_X7_isTerm ⟨Nat.le_of_ble_eq_true rfl, Nat.le_of_ble_eq_true rfl, Nat.le_of_ble_eq_true rfl, Nat.le_of_ble_eq_true rfl⟩ (Nat.le_of_ble_eq_true rfl) dX7_sublet_35 ?_
        refine j_if_ne (tgt := 47) C dX7_sublet_38 (by decide) (fun h38 => ?_) (fun h38 => ?_)
        · replace h38 := b2i_1 h38
          exfalso
          first | contradiction | exact absurd (isL hV0 hk) (by assumption) | exact absurd ⟨by assumption, by assumption⟩ hbad | exact absurd ⟨by assumption, by assumption, by assumption⟩ hbad | exact absurd ⟨by assumption, by assumption, by assumption, by assumption⟩ hbad | exact absurd (by assumption) hbad
        · replace h38 := b2i_0 h38
          refine j_aload_n C dX7_sublet_41 rfl rfl ?_
          refine j_iconst (v := (nI 2)) C dX7_sublet_42 (by decide) ?_
          refine j_callV1r C (oa_X7 (by first | assumption | rfl | exact kd_sums (by assumption) | exact kd_st1 (by assumption) | exact kd_st2 (by assumption) | exact kd_ls (by first | assumption | rfl) (by assumption) | exact kd_sb (by first | assumption | rfl) (by assumption) | exact kd_sv (by assumption))) rfl rfl (c_X7_fails) qm_X7_67 qi_X7_fails qs_X7_fails qn_X7 qc_X7_fails fit_X7_fails ⟨Nat.le_of_ble_eq_true rfl, Nat.le_of_ble_eq_true rfl, Nat.le_of_ble_eq_true rfl, Nat.le_of_ble_eq_true rfl⟩ (Nat.le_of_ble_eq_true rfl) dX7_sublet_43 ?_
          exact j_iret C dX7_sublet_46 (by rfl) (by rfl) (by rfl)
  · replace h10 := b2i_0 h10
    exfalso
    first | contradiction | exact absurd (isL hV0 hk) (by assumption) | exact absurd ⟨by assumption, by assumption⟩ hbad | exact absurd ⟨by assumption, by assumption, by assumption⟩ hbad | exact absurd ⟨by assumption, by assumption, by assumption, by assumption⟩ hbad | exact absurd (by assumption) hbad
set_option maxHeartbeats 4000000 in
theorem c_X7_sublet_3 {l : Launch} {g : GC} {V : Mem} {L : LMem} {k nl ns : Nat} (hk : k < nl) (hR : RR nl ns V) {t rc n1 : Int32} (h1 : partR t) (h2 : money rc) (h5 : termR n1) (h3 : ¬ rMay (thr 0 V) k ns t n1) : MC l yX7_sublet cX7_sublet 8 (some .int) 6 g V L [.ref (ad g 224), .int (nI k), .int t, .int rc, .int n1] (some (.int 0)) (thr 3 (thr 0 V)) L := by
  refine MC.of [some (.ref (ad g 224)), some (.int (nI k)), some (.int t), some (.int rc), some (.int n1), none, none, none] (by decide +kernel) rfl (Nat.le_of_ble_eq_true rfl) (fun p e s m args below meth c C => ?_)
  have hV0 : RR nl ns (mset V 224 6 (nI 0)) := hR.put (Or.inl (by decide))
  have hk8 : k < 8 := Nat.lt_of_lt_of_le hk hR.1
  refine j_aload_n C dX7_sublet_0 rfl rfl ?_
  refine j_iconst (v := (nI 0)) C dX7_sublet_1 (by decide) ?_
  refine jp_LeaseBookModel_thrown C (by first | assumption | rfl | exact kd_sums (by assumption) | exact kd_st1 (by assumption) | exact kd_st2 (by assumption) | exact kd_ls (by first | assumption | rfl) (by assumption) | exact kd_sb (by first | assumption | rfl) (by assumption) | exact kd_sv (by assumption)) qf_X7_25 dX7_sublet_2 ?_
  refine j_aload_n C dX7_sublet_5 rfl rfl ?_
  refine j_iload_n C dX7_sublet_6 rfl rfl ?_
  refine j_callV1r C (oa_X7 (by first | assumption | rfl | exact kd_sums (by assumption) | exact kd_st1 (by assumption) | exact kd_st2 (by assumption) | exact kd_ls (by first | assumption | rfl) (by assumption) | exact kd_sb (by first | assumption | rfl) (by assumption) | exact kd_sv (by assumption))) rfl rfl (c_X7_isLease) qm_X7_84 qi_X7_isLease qs_X7_isLease qn_X7 qc_X7_isLease fit_X7_isLease ⟨Nat.le_of_ble_eq_true rfl, Nat.le_of_ble_eq_true rfl, Nat.le_of_ble_eq_true rfl, Nat.le_of_ble_eq_true rfl⟩ (Nat.le_of_ble_eq_true rfl) dX7_sublet_7 ?_
  refine j_if_ne (tgt := 19) C dX7_sublet_10 (by decide) (fun h10 => ?_) (fun h10 => ?_)
  · replace h10 := b2i_1 h10
    refine j_iload_n C dX7_sublet_19 rfl rfl ?_
    refine j_callS1r C (c_X7_isPart) qm_X7_93 qt_X7_isPart qn_X7 qc_X7_isPart fit_X7_isPart ⟨Nat.le_of_ble_eq_true rfl, Nat.le_of_ble_eq_true rfl, Nat.le_of_ble_eq_true rfl, Nat.le_of_ble_eq_true rfl⟩ (Nat.le_of_ble_eq_true rfl) dX7_sublet_20 ?_
    refine j_if_eq (tgt := 41) C dX7_sublet_23 (by decide) (fun h23 => ?_) (fun h23 => ?_)
    · replace h23 := b2i_0 h23
      exfalso
      first | contradiction | exact absurd (isL hV0 hk) (by assumption) | exact absurd ⟨by assumption, by assumption⟩ hbad | exact absurd ⟨by assumption, by assumption, by assumption⟩ hbad | exact absurd ⟨by assumption, by assumption, by assumption, by assumption⟩ hbad | exact absurd (by assumption) h3
    · replace h23 := b2i_1 h23
      refine j_iload_n C dX7_sublet_26 rfl rfl ?_
      refine j_callS1r C (c_X7_isMoney) qm_X7_57 qt_X7_isMoney qn_X7 qc_X7_isMoney fit_X7_isMoney ⟨Nat.le_of_ble_eq_true rfl, Nat.le_of_ble_eq_true rfl, Nat.le_of_ble_eq_true rfl, Nat.le_of_ble_eq_true rfl⟩ (Nat.le_of_ble_eq_true rfl) dX7_sublet_27 ?_
      refine j_if_eq (tgt := 41) C dX7_sublet_30 (by decide) (fun h30 => ?_) (fun h30 => ?_)
      · replace h30 := b2i_0 h30
        exfalso
        first | contradiction | exact absurd (isL hV0 hk) (by assumption) | exact absurd ⟨by assumption, by assumption⟩ hbad | exact absurd ⟨by assumption, by assumption, by assumption⟩ hbad | exact absurd ⟨by assumption, by assumption, by assumption, by assumption⟩ hbad | exact absurd (by assumption) h3
      · replace h30 := b2i_1 h30
        refine j_iload C dX7_sublet_33 rfl ?_
        refine j_callS1r C (c_X7_isTerm) qm_X7_61 qt_X7_isTerm qn_X7 qc_X7_isTerm fit_X7_isTerm ⟨Nat.le_of_ble_eq_true rfl, Nat.le_of_ble_eq_true rfl, Nat.le_of_ble_eq_true rfl, Nat.le_of_ble_eq_true rfl⟩ (Nat.le_of_ble_eq_true rfl) dX7_sublet_35 ?_
        refine j_if_ne (tgt := 47) C dX7_sublet_38 (by decide) (fun h38 => ?_) (fun h38 => ?_)
        · replace h38 := b2i_1 h38
          refine j_aload_n C dX7_sublet_47 rfl rfl ?_
          refine j_iload_n C dX7_sublet_48 rfl rfl ?_
          refine j_iload_n C dX7_sublet_49 rfl rfl ?_
          refine j_iload C dX7_sublet_50 rfl ?_
          refine j_callV3r C (oa_X7 (by first | assumption | rfl | exact kd_sums (by assumption) | exact kd_st1 (by assumption) | exact kd_st2 (by assumption) | exact kd_ls (by first | assumption | rfl) (by assumption) | exact kd_sb (by first | assumption | rfl) (by assumption) | exact kd_sv (by assumption))) rfl rfl (c_X7_maySublet hk8 hV0) qm_X7_104 qi_X7_maySublet qs_X7_maySublet qn_X7 qc_X7_maySublet fit_X7_maySublet ⟨Nat.le_of_ble_eq_true rfl, Nat.le_of_ble_eq_true rfl, Nat.le_of_ble_eq_true rfl, Nat.le_of_ble_eq_true rfl⟩ (Nat.le_of_ble_eq_true rfl) dX7_sublet_52 ?_
          refine j_if_ne (tgt := 64) C dX7_sublet_55 (by decide) (fun h55 => ?_) (fun h55 => ?_)
          · replace h55 := b2i_1 h55
            exfalso
            first | contradiction | exact absurd (isL hV0 hk) (by assumption) | exact absurd ⟨by assumption, by assumption⟩ hbad | exact absurd ⟨by assumption, by assumption, by assumption⟩ hbad | exact absurd ⟨by assumption, by assumption, by assumption, by assumption⟩ hbad | exact absurd (by assumption) h3
          · replace h55 := b2i_0 h55
            refine j_aload_n C dX7_sublet_58 rfl rfl ?_
            refine j_iconst (v := (nI 3)) C dX7_sublet_59 (by decide) ?_
            refine j_callV1r C (oa_X7 (by first | assumption | rfl | exact kd_sums (by assumption) | exact kd_st1 (by assumption) | exact kd_st2 (by assumption) | exact kd_ls (by first | assumption | rfl) (by assumption) | exact kd_sb (by first | assumption | rfl) (by assumption) | exact kd_sv (by assumption))) rfl rfl (c_X7_fails) qm_X7_67 qi_X7_fails qs_X7_fails qn_X7 qc_X7_fails fit_X7_fails ⟨Nat.le_of_ble_eq_true rfl, Nat.le_of_ble_eq_true rfl, Nat.le_of_ble_eq_true rfl, Nat.le_of_ble_eq_true rfl⟩ (Nat.le_of_ble_eq_true rfl) dX7_sublet_60 ?_
            exact j_iret C dX7_sublet_63 (by rfl) (by rfl) (by rfl)
        · replace h38 := b2i_0 h38
          exfalso
          first | contradiction | exact absurd (isL hV0 hk) (by assumption) | exact absurd ⟨by assumption, by assumption⟩ hbad | exact absurd ⟨by assumption, by assumption, by assumption⟩ hbad | exact absurd ⟨by assumption, by assumption, by assumption, by assumption⟩ hbad | exact absurd (by assumption) h3
  · replace h10 := b2i_0 h10
    exfalso
    first | contradiction | exact absurd (isL hV0 hk) (by assumption) | exact absurd ⟨by assumption, by assumption⟩ hbad | exact absurd ⟨by assumption, by assumption, by assumption⟩ hbad | exact absurd ⟨by assumption, by assumption, by assumption, by assumption⟩ hbad | exact absurd (by assumption) h3
set_option maxHeartbeats 4000000 in
theorem c_X7_sublet_ok {l : Launch} {g : GC} {V : Mem} {L : LMem} {k nl ns : Nat} (hk : k < nl) (hR : RR nl ns V) {t rc n1 : Int32} (h1 : partR t) (h2 : money rc) (h5 : termR n1) (h3 : rMay (thr 0 V) k ns t n1) (hns : ns < 12) {sv : Nat} (hsv : V 224 3 = nI sv) (hs6 : sv ≤ 6) : MC l yX7_sublet cX7_sublet 8 (some .int) 6 g V L [.ref (ad g 224), .int (nI k), .int t, .int rc, .int n1] (some (.int (rSubl k ns t rc n1 (rSave sv (thr 0 V)) 225 1 - nI 1))) (rSubl k ns t rc n1 (rSave sv (thr 0 V))) L := by
  refine MC.of [some (.ref (ad g 224)), some (.int (nI k)), some (.int t), some (.int rc), some (.int n1), none, none, none] (by decide +kernel) rfl (Nat.le_of_ble_eq_true rfl) (fun p e s m args below meth c C => ?_)
  have hV0 : RR nl ns (mset V 224 6 (nI 0)) := hR.put (Or.inl (by decide))
  have hk8 : k < 8 := Nat.lt_of_lt_of_le hk hR.1
  have hS : RR nl ns (rSave sv (mset V 224 6 (nI 0))) := hV0.row (rSave_row (by decide) (by decide))
  refine j_aload_n C dX7_sublet_0 rfl rfl ?_
  refine j_iconst (v := (nI 0)) C dX7_sublet_1 (by decide) ?_
  refine jp_LeaseBookModel_thrown C (by first | assumption | rfl | exact kd_sums (by assumption) | exact kd_st1 (by assumption) | exact kd_st2 (by assumption) | exact kd_ls (by first | assumption | rfl) (by assumption) | exact kd_sb (by first | assumption | rfl) (by assumption) | exact kd_sv (by assumption)) qf_X7_25 dX7_sublet_2 ?_
  refine j_aload_n C dX7_sublet_5 rfl rfl ?_
  refine j_iload_n C dX7_sublet_6 rfl rfl ?_
  refine j_callV1r C (oa_X7 (by first | assumption | rfl | exact kd_sums (by assumption) | exact kd_st1 (by assumption) | exact kd_st2 (by assumption) | exact kd_ls (by first | assumption | rfl) (by assumption) | exact kd_sb (by first | assumption | rfl) (by assumption) | exact kd_sv (by assumption))) rfl rfl (c_X7_isLease) qm_X7_84 qi_X7_isLease qs_X7_isLease qn_X7 qc_X7_isLease fit_X7_isLease ⟨Nat.le_of_ble_eq_true rfl, Nat.le_of_ble_eq_true rfl, Nat.le_of_ble_eq_true rfl, Nat.le_of_ble_eq_true rfl⟩ (Nat.le_of_ble_eq_true rfl) dX7_sublet_7 ?_
  refine j_if_ne (tgt := 19) C dX7_sublet_10 (by decide) (fun h10 => ?_) (fun h10 => ?_)
  · replace h10 := b2i_1 h10
    refine j_iload_n C dX7_sublet_19 rfl rfl ?_
    refine j_callS1r C (c_X7_isPart) qm_X7_93 qt_X7_isPart qn_X7 qc_X7_isPart fit_X7_isPart ⟨Nat.le_of_ble_eq_true rfl, Nat.le_of_ble_eq_true rfl, Nat.le_of_ble_eq_true rfl, Nat.le_of_ble_eq_true rfl⟩ (Nat.le_of_ble_eq_true rfl) dX7_sublet_20 ?_
    refine j_if_eq (tgt := 41) C dX7_sublet_23 (by decide) (fun h23 => ?_) (fun h23 => ?_)
    · replace h23 := b2i_0 h23
      exfalso
      first | contradiction | exact absurd (isL hV0 hk) (by assumption) | exact absurd ⟨by assumption, by assumption⟩ hbad | exact absurd ⟨by assumption, by assumption, by assumption⟩ hbad | exact absurd ⟨by assumption, by assumption, by assumption, by assumption⟩ hbad
    · replace h23 := b2i_1 h23
      refine j_iload_n C dX7_sublet_26 rfl rfl ?_
      refine j_callS1r C (c_X7_isMoney) qm_X7_57 qt_X7_isMoney qn_X7 qc_X7_isMoney fit_X7_isMoney ⟨Nat.le_of_ble_eq_true rfl, Nat.le_of_ble_eq_true rfl, Nat.le_of_ble_eq_true rfl, Nat.le_of_ble_eq_true rfl⟩ (Nat.le_of_ble_eq_true rfl) dX7_sublet_27 ?_
      refine j_if_eq (tgt := 41) C dX7_sublet_30 (by decide) (fun h30 => ?_) (fun h30 => ?_)
      · replace h30 := b2i_0 h30
        exfalso
        first | contradiction | exact absurd (isL hV0 hk) (by assumption) | exact absurd ⟨by assumption, by assumption⟩ hbad | exact absurd ⟨by assumption, by assumption, by assumption⟩ hbad | exact absurd ⟨by assumption, by assumption, by assumption, by assumption⟩ hbad
      · replace h30 := b2i_1 h30
        refine j_iload C dX7_sublet_33 rfl ?_
        refine j_callS1r C (c_X7_isTerm) qm_X7_61 qt_X7_isTerm qn_X7 qc_X7_isTerm fit_X7_isTerm ⟨Nat.le_of_ble_eq_true rfl, Nat.le_of_ble_eq_true rfl, Nat.le_of_ble_eq_true rfl, Nat.le_of_ble_eq_true rfl⟩ (Nat.le_of_ble_eq_true rfl) dX7_sublet_35 ?_
        refine j_if_ne (tgt := 47) C dX7_sublet_38 (by decide) (fun h38 => ?_) (fun h38 => ?_)
        · replace h38 := b2i_1 h38
          refine j_aload_n C dX7_sublet_47 rfl rfl ?_
          refine j_iload_n C dX7_sublet_48 rfl rfl ?_
          refine j_iload_n C dX7_sublet_49 rfl rfl ?_
          refine j_iload C dX7_sublet_50 rfl ?_
          refine j_callV3r C (oa_X7 (by first | assumption | rfl | exact kd_sums (by assumption) | exact kd_st1 (by assumption) | exact kd_st2 (by assumption) | exact kd_ls (by first | assumption | rfl) (by assumption) | exact kd_sb (by first | assumption | rfl) (by assumption) | exact kd_sv (by assumption))) rfl rfl (c_X7_maySublet hk8 hV0) qm_X7_104 qi_X7_maySublet qs_X7_maySublet qn_X7 qc_X7_maySublet fit_X7_maySublet ⟨Nat.le_of_ble_eq_true rfl, Nat.le_of_ble_eq_true rfl, Nat.le_of_ble_eq_true rfl, Nat.le_of_ble_eq_true rfl⟩ (Nat.le_of_ble_eq_true rfl) dX7_sublet_52 ?_
          refine j_if_ne (tgt := 64) C dX7_sublet_55 (by decide) (fun h55 => ?_) (fun h55 => ?_)
          · replace h55 := b2i_1 h55
            refine j_aload_n C dX7_sublet_64 rfl rfl ?_
            refine j_callV0v C (oa_X7 (by first | assumption | rfl | exact kd_sums (by assumption) | exact kd_st1 (by assumption) | exact kd_st2 (by assumption) | exact kd_ls (by first | assumption | rfl) (by assumption) | exact kd_sb (by first | assumption | rfl) (by assumption) | exact kd_sv (by assumption))) rfl rfl (c_X7_save (sv := sv) (by rw [mset_ne (by omega)]; exact hsv) hs6) qm_X7_70 qi_X7_save qs_X7_save qn_X7 qc_X7_save fit_X7_save ⟨Nat.le_of_ble_eq_true rfl, Nat.le_of_ble_eq_true rfl, Nat.le_of_ble_eq_true rfl, Nat.le_of_ble_eq_true rfl⟩ (Nat.le_of_ble_eq_true rfl) dX7_sublet_65 ?_
            refine j_iload_n C dX7_sublet_68 rfl rfl ?_
            refine j_callS1r C (c_X7_at) qm_X7_32 qt_X7_at qn_X7 qc_X7_at fit_X7_at ⟨Nat.le_of_ble_eq_true rfl, Nat.le_of_ble_eq_true rfl, Nat.le_of_ble_eq_true rfl, Nat.le_of_ble_eq_true rfl⟩ (Nat.le_of_ble_eq_true rfl) dX7_sublet_69 ?_
            refine j_ist5 C dX7_sublet_72 (Nat.le_of_ble_eq_true rfl) rfl ?_
            refine j_aload_n C dX7_sublet_74 rfl rfl ?_
            refine jg_LeaseBookModel_z C (by first | assumption | rfl | exact kd_sums (by assumption) | exact kd_st1 (by assumption) | exact kd_st2 (by assumption) | exact kd_ls (by first | assumption | rfl) (by assumption) | exact kd_sb (by first | assumption | rfl) (by assumption) | exact kd_sv (by assumption)) qf_X7_7 dX7_sublet_75 ?_
            refine j_iconst (v := (nI 1)) C dX7_sublet_78 (by decide) ?_
            refine j_ialdN C (by first | assumption | rfl | exact kd_sums (by assumption) | exact kd_st1 (by assumption) | exact kd_st2 (by assumption) | exact kd_ls (by first | assumption | rfl) (by assumption) | exact kd_sb (by first | assumption | rfl) (by assumption) | exact kd_sv (by assumption)) rfl rfl (by omega) dX7_sublet_79 ?_
            refine j_tope (y := nI ns) (by exact hS.2.2.2.1) ?_
            refine j_callS1r C (c_X7_sub) qm_X7_77 qt_X7_sub qn_X7 qc_X7_sub fit_X7_sub ⟨Nat.le_of_ble_eq_true rfl, Nat.le_of_ble_eq_true rfl, Nat.le_of_ble_eq_true rfl, Nat.le_of_ble_eq_true rfl⟩ (Nat.le_of_ble_eq_true rfl) dX7_sublet_80 ?_
            refine j_ist6 C dX7_sublet_83 (Nat.le_of_ble_eq_true rfl) rfl ?_
            refine j_aload_n C dX7_sublet_85 rfl rfl ?_
            refine jg_LeaseBookModel_z C (by first | assumption | rfl | exact kd_sums (by assumption) | exact kd_st1 (by assumption) | exact kd_st2 (by assumption) | exact kd_ls (by first | assumption | rfl) (by assumption) | exact kd_sb (by first | assumption | rfl) (by assumption) | exact kd_sv (by assumption)) qf_X7_7 dX7_sublet_86 ?_
            refine j_iload C dX7_sublet_89 rfl ?_
            refine j_iload_n C dX7_sublet_91 rfl rfl ?_
            refine j_iastN C (by first | assumption | rfl | exact kd_sums (by assumption) | exact kd_st1 (by assumption) | exact kd_st2 (by assumption) | exact kd_ls (by first | assumption | rfl) (by assumption) | exact kd_sb (by first | assumption | rfl) (by assumption) | exact kd_sv (by assumption)) rfl rfl (by omega) dX7_sublet_92 ?_
            refine j_aload_n C dX7_sublet_93 rfl rfl ?_
            refine jg_LeaseBookModel_z C (by first | assumption | rfl | exact kd_sums (by assumption) | exact kd_st1 (by assumption) | exact kd_st2 (by assumption) | exact kd_ls (by first | assumption | rfl) (by assumption) | exact kd_sb (by first | assumption | rfl) (by assumption) | exact kd_sv (by assumption)) qf_X7_7 dX7_sublet_94 ?_
            refine j_iload C dX7_sublet_97 rfl ?_
            refine j_iconst (v := (nI 1)) C dX7_sublet_99 (by decide) ?_
            refine j_iaddN C dX7_sublet_100 ?_
            refine j_iload_n C dX7_sublet_101 rfl rfl ?_
            refine j_iastN C (by first | assumption | rfl | exact kd_sums (by assumption) | exact kd_st1 (by assumption) | exact kd_st2 (by assumption) | exact kd_ls (by first | assumption | rfl) (by assumption) | exact kd_sb (by first | assumption | rfl) (by assumption) | exact kd_sv (by assumption)) rfl rfl (by omega) dX7_sublet_102 ?_
            refine j_aload_n C dX7_sublet_103 rfl rfl ?_
            refine jg_LeaseBookModel_z C (by first | assumption | rfl | exact kd_sums (by assumption) | exact kd_st1 (by assumption) | exact kd_st2 (by assumption) | exact kd_ls (by first | assumption | rfl) (by assumption) | exact kd_sb (by first | assumption | rfl) (by assumption) | exact kd_sv (by assumption)) qf_X7_7 dX7_sublet_104 ?_
            refine j_iload C dX7_sublet_107 rfl ?_
            refine j_iconst (v := (nI 2)) C dX7_sublet_109 (by decide) ?_
            refine j_iaddN C dX7_sublet_110 ?_
            refine j_iload_n C dX7_sublet_111 rfl rfl ?_
            refine j_iastN C (by first | assumption | rfl | exact kd_sums (by assumption) | exact kd_st1 (by assumption) | exact kd_st2 (by assumption) | exact kd_ls (by first | assumption | rfl) (by assumption) | exact kd_sb (by first | assumption | rfl) (by assumption) | exact kd_sv (by assumption)) rfl rfl (by omega) dX7_sublet_112 ?_
            refine j_aload_n C dX7_sublet_113 rfl rfl ?_
            refine jg_LeaseBookModel_z C (by first | assumption | rfl | exact kd_sums (by assumption) | exact kd_st1 (by assumption) | exact kd_st2 (by assumption) | exact kd_ls (by first | assumption | rfl) (by assumption) | exact kd_sb (by first | assumption | rfl) (by assumption) | exact kd_sv (by assumption)) qf_X7_7 dX7_sublet_114 ?_
            refine j_iload C dX7_sublet_117 rfl ?_
            refine j_iconst (v := (nI 3)) C dX7_sublet_119 (by decide) ?_
            refine j_iaddN C dX7_sublet_120 ?_
            refine j_iload C dX7_sublet_121 rfl ?_
            refine j_iastN C (by first | assumption | rfl | exact kd_sums (by assumption) | exact kd_st1 (by assumption) | exact kd_st2 (by assumption) | exact kd_ls (by first | assumption | rfl) (by assumption) | exact kd_sb (by first | assumption | rfl) (by assumption) | exact kd_sv (by assumption)) rfl rfl (by omega) dX7_sublet_123 ?_
            refine j_aload_n C dX7_sublet_124 rfl rfl ?_
            refine jg_LeaseBookModel_z C (by first | assumption | rfl | exact kd_sums (by assumption) | exact kd_st1 (by assumption) | exact kd_st2 (by assumption) | exact kd_ls (by first | assumption | rfl) (by assumption) | exact kd_sb (by first | assumption | rfl) (by assumption) | exact kd_sv (by assumption)) qf_X7_7 dX7_sublet_125 ?_
            refine j_iload C dX7_sublet_128 rfl ?_
            refine j_iconst (v := (nI 4)) C dX7_sublet_130 (by decide) ?_
            refine j_iaddN C dX7_sublet_131 ?_
            refine j_aload_n C dX7_sublet_132 rfl rfl ?_
            refine jg_LeaseBookModel_z C (by first | assumption | rfl | exact kd_sums (by assumption) | exact kd_st1 (by assumption) | exact kd_st2 (by assumption) | exact kd_ls (by first | assumption | rfl) (by assumption) | exact kd_sb (by first | assumption | rfl) (by assumption) | exact kd_sv (by assumption)) qf_X7_7 dX7_sublet_133 ?_
            refine j_iload C dX7_sublet_136 rfl ?_
            refine j_iconst (v := (nI 2)) C dX7_sublet_138 (by decide) ?_
            refine j_iaddN C dX7_sublet_139 ?_
            refine j_ialdN C (by first | assumption | rfl | exact kd_sums (by assumption) | exact kd_st1 (by assumption) | exact kd_st2 (by assumption) | exact kd_ls (by first | assumption | rfl) (by assumption) | exact kd_sb (by first | assumption | rfl) (by assumption) | exact kd_sv (by assumption)) rfl rfl (by omega) dX7_sublet_140 ?_
            refine j_iastN C (by first | assumption | rfl | exact kd_sums (by assumption) | exact kd_st1 (by assumption) | exact kd_st2 (by assumption) | exact kd_ls (by first | assumption | rfl) (by assumption) | exact kd_sb (by first | assumption | rfl) (by assumption) | exact kd_sv (by assumption)) rfl rfl (by omega) dX7_sublet_141 ?_
            refine j_aload_n C dX7_sublet_142 rfl rfl ?_
            refine jg_LeaseBookModel_z C (by first | assumption | rfl | exact kd_sums (by assumption) | exact kd_st1 (by assumption) | exact kd_st2 (by assumption) | exact kd_ls (by first | assumption | rfl) (by assumption) | exact kd_sb (by first | assumption | rfl) (by assumption) | exact kd_sv (by assumption)) qf_X7_7 dX7_sublet_143 ?_
            refine j_iload C dX7_sublet_146 rfl ?_
            refine j_iconst (v := (nI 5)) C dX7_sublet_148 (by decide) ?_
            refine j_iaddN C dX7_sublet_149 ?_
            refine j_iload_n C dX7_sublet_150 rfl rfl ?_
            refine j_iload C dX7_sublet_151 rfl ?_
            refine j_aload_n C dX7_sublet_153 rfl rfl ?_
            refine jg_LeaseBookModel_z C (by first | assumption | rfl | exact kd_sums (by assumption) | exact kd_st1 (by assumption) | exact kd_st2 (by assumption) | exact kd_ls (by first | assumption | rfl) (by assumption) | exact kd_sb (by first | assumption | rfl) (by assumption) | exact kd_sv (by assumption)) qf_X7_7 dX7_sublet_154 ?_
            refine j_iload C dX7_sublet_157 rfl ?_
            refine j_iconst (v := (nI 2)) C dX7_sublet_159 (by decide) ?_
            refine j_iaddN C dX7_sublet_160 ?_
            refine j_ialdN C (by first | assumption | rfl | exact kd_sums (by assumption) | exact kd_st1 (by assumption) | exact kd_st2 (by assumption) | exact kd_ls (by first | assumption | rfl) (by assumption) | exact kd_sb (by first | assumption | rfl) (by assumption) | exact kd_sv (by assumption)) rfl rfl (by omega) dX7_sublet_161 ?_
            refine j_callS3r C (c_X7_worthOf (by rw [mset_ne (by omega), mset_ne (by omega), mset_ne (by omega), mset_ne (by omega), mset_ne (by omega)]; exact hS.2.2.2.2.1 k hk)) qm_X7_49 qt_X7_worthOf qn_X7 qc_X7_worthOf fit_X7_worthOf ⟨Nat.le_of_ble_eq_true rfl, Nat.le_of_ble_eq_true rfl, Nat.le_of_ble_eq_true rfl, Nat.le_of_ble_eq_true rfl⟩ (Nat.le_of_ble_eq_true rfl) dX7_sublet_162 ?_
            refine j_iastN C (by first | assumption | rfl | exact kd_sums (by assumption) | exact kd_st1 (by assumption) | exact kd_st2 (by assumption) | exact kd_ls (by first | assumption | rfl) (by assumption) | exact kd_sb (by first | assumption | rfl) (by assumption) | exact kd_sv (by assumption)) rfl rfl (by omega) dX7_sublet_165 ?_
            refine j_aload_n C dX7_sublet_166 rfl rfl ?_
            refine jg_LeaseBookModel_z C (by first | assumption | rfl | exact kd_sums (by assumption) | exact kd_st1 (by assumption) | exact kd_st2 (by assumption) | exact kd_ls (by first | assumption | rfl) (by assumption) | exact kd_sb (by first | assumption | rfl) (by assumption) | exact kd_sv (by assumption)) qf_X7_7 dX7_sublet_167 ?_
            refine j_iload C dX7_sublet_170 rfl ?_
            refine j_iconst (v := (nI 4)) C dX7_sublet_172 (by decide) ?_
            refine j_iaddN C dX7_sublet_173 ?_
            refine j_ialdN C (by first | assumption | rfl | exact kd_sums (by assumption) | exact kd_st1 (by assumption) | exact kd_st2 (by assumption) | exact kd_ls (by first | assumption | rfl) (by assumption) | exact kd_sb (by first | assumption | rfl) (by assumption) | exact kd_sv (by assumption)) rfl rfl (by omega) dX7_sublet_174 ?_
            refine j_iload_n C dX7_sublet_175 rfl rfl ?_
            refine j_callS2r C (c_X7_partOf) qm_X7_100 qt_X7_partOf qn_X7 qc_X7_partOf fit_X7_partOf ⟨Nat.le_of_ble_eq_true rfl, Nat.le_of_ble_eq_true rfl, Nat.le_of_ble_eq_true rfl, Nat.le_of_ble_eq_true rfl⟩ (Nat.le_of_ble_eq_true rfl) dX7_sublet_176 ?_
            refine j_ist7 C dX7_sublet_179 (Nat.le_of_ble_eq_true rfl) rfl ?_
            refine j_aload_n C dX7_sublet_181 rfl rfl ?_
            refine jg_LeaseBookModel_z C (by first | assumption | rfl | exact kd_sums (by assumption) | exact kd_st1 (by assumption) | exact kd_st2 (by assumption) | exact kd_ls (by first | assumption | rfl) (by assumption) | exact kd_sb (by first | assumption | rfl) (by assumption) | exact kd_sv (by assumption)) qf_X7_7 dX7_sublet_182 ?_
            refine j_iload C dX7_sublet_185 rfl ?_
            refine j_iconst (v := (nI 4)) C dX7_sublet_187 (by decide) ?_
            refine j_iaddN C dX7_sublet_188 ?_
            refine j_dup2 C dX7_sublet_189 rfl rfl ?_
            refine j_ialdN C (by first | assumption | rfl | exact kd_sums (by assumption) | exact kd_st1 (by assumption) | exact kd_st2 (by assumption) | exact kd_ls (by first | assumption | rfl) (by assumption) | exact kd_sb (by first | assumption | rfl) (by assumption) | exact kd_sv (by assumption)) rfl rfl (by omega) dX7_sublet_190 ?_
            refine j_iload C dX7_sublet_191 rfl ?_
            refine j_isub C dX7_sublet_193 ?_
            refine j_iastN C (by first | assumption | rfl | exact kd_sums (by assumption) | exact kd_st1 (by assumption) | exact kd_st2 (by assumption) | exact kd_ls (by first | assumption | rfl) (by assumption) | exact kd_sb (by first | assumption | rfl) (by assumption) | exact kd_sv (by assumption)) rfl rfl (by omega) dX7_sublet_194 ?_
            refine j_aload_n C dX7_sublet_195 rfl rfl ?_
            refine j_iload_n C dX7_sublet_196 rfl rfl ?_
            refine j_bipush (v := (nI 9)) C dX7_sublet_197 (by decide) ?_
            refine j_iload C dX7_sublet_199 rfl ?_
            refine j_callV3v C (oa_X7 (by first | assumption | rfl | exact kd_sums (by assumption) | exact kd_st1 (by assumption) | exact kd_st2 (by assumption) | exact kd_ls (by first | assumption | rfl) (by assumption) | exact kd_sb (by first | assumption | rfl) (by assumption) | exact kd_sv (by assumption))) rfl rfl (c_X7_move hk8 (by omega)) qm_X7_53 qi_X7_move qs_X7_move qn_X7 qc_X7_move fit_X7_move ⟨Nat.le_of_ble_eq_true rfl, Nat.le_of_ble_eq_true rfl, Nat.le_of_ble_eq_true rfl, Nat.le_of_ble_eq_true rfl⟩ (Nat.le_of_ble_eq_true rfl) dX7_sublet_201 ?_
            refine j_aload_n C dX7_sublet_204 rfl rfl ?_
            refine j_iload_n C dX7_sublet_205 rfl rfl ?_
            refine j_bipush (v := (nI 11)) C dX7_sublet_206 (by decide) ?_
            refine j_aload_n C dX7_sublet_208 rfl rfl ?_
            refine jg_LeaseBookModel_z C (by first | assumption | rfl | exact kd_sums (by assumption) | exact kd_st1 (by assumption) | exact kd_st2 (by assumption) | exact kd_ls (by first | assumption | rfl) (by assumption) | exact kd_sb (by first | assumption | rfl) (by assumption) | exact kd_sv (by assumption)) qf_X7_7 dX7_sublet_209 ?_
            refine j_iload C dX7_sublet_212 rfl ?_
            refine j_iconst (v := (nI 5)) C dX7_sublet_214 (by decide) ?_
            refine j_iaddN C dX7_sublet_215 ?_
            refine j_ialdN C (by first | assumption | rfl | exact kd_sums (by assumption) | exact kd_st1 (by assumption) | exact kd_st2 (by assumption) | exact kd_ls (by first | assumption | rfl) (by assumption) | exact kd_sb (by first | assumption | rfl) (by assumption) | exact kd_sv (by assumption)) rfl rfl (by omega) dX7_sublet_216 ?_
            refine j_callV3v C (oa_X7 (by first | assumption | rfl | exact kd_sums (by assumption) | exact kd_st1 (by assumption) | exact kd_st2 (by assumption) | exact kd_ls (by first | assumption | rfl) (by assumption) | exact kd_sb (by first | assumption | rfl) (by assumption) | exact kd_sv (by assumption))) rfl rfl (c_X7_move hk8 (by omega)) qm_X7_53 qi_X7_move qs_X7_move qn_X7 qc_X7_move fit_X7_move ⟨Nat.le_of_ble_eq_true rfl, Nat.le_of_ble_eq_true rfl, Nat.le_of_ble_eq_true rfl, Nat.le_of_ble_eq_true rfl⟩ (Nat.le_of_ble_eq_true rfl) dX7_sublet_217 ?_
            refine j_aload_n C dX7_sublet_220 rfl rfl ?_
            refine jg_LeaseBookModel_z C (by first | assumption | rfl | exact kd_sums (by assumption) | exact kd_st1 (by assumption) | exact kd_st2 (by assumption) | exact kd_ls (by first | assumption | rfl) (by assumption) | exact kd_sb (by first | assumption | rfl) (by assumption) | exact kd_sv (by assumption)) qf_X7_7 dX7_sublet_221 ?_
            refine j_iconst (v := (nI 1)) C dX7_sublet_224 (by decide) ?_
            refine j_dup2 C dX7_sublet_225 rfl rfl ?_
            refine j_ialdN C (by first | assumption | rfl | exact kd_sums (by assumption) | exact kd_st1 (by assumption) | exact kd_st2 (by assumption) | exact kd_ls (by first | assumption | rfl) (by assumption) | exact kd_sb (by first | assumption | rfl) (by assumption) | exact kd_sv (by assumption)) rfl rfl (by omega) dX7_sublet_226 ?_
            refine j_iconst (v := (nI 1)) C dX7_sublet_227 (by decide) ?_
            refine j_iadd C dX7_sublet_228 ?_
            refine j_iastN C (by first | assumption | rfl | exact kd_sums (by assumption) | exact kd_st1 (by assumption) | exact kd_st2 (by assumption) | exact kd_ls (by first | assumption | rfl) (by assumption) | exact kd_sb (by first | assumption | rfl) (by assumption) | exact kd_sv (by assumption)) rfl rfl (by omega) dX7_sublet_229 ?_
            refine j_aload_n C dX7_sublet_230 rfl rfl ?_
            refine jg_LeaseBookModel_z C (by first | assumption | rfl | exact kd_sums (by assumption) | exact kd_st1 (by assumption) | exact kd_st2 (by assumption) | exact kd_ls (by first | assumption | rfl) (by assumption) | exact kd_sb (by first | assumption | rfl) (by assumption) | exact kd_sv (by assumption)) qf_X7_7 dX7_sublet_231 ?_
            refine j_iconst (v := (nI 1)) C dX7_sublet_234 (by decide) ?_
            refine j_ialdN C (by first | assumption | rfl | exact kd_sums (by assumption) | exact kd_st1 (by assumption) | exact kd_st2 (by assumption) | exact kd_ls (by first | assumption | rfl) (by assumption) | exact kd_sb (by first | assumption | rfl) (by assumption) | exact kd_sv (by assumption)) rfl rfl (by omega) dX7_sublet_235 ?_
            refine j_iconst (v := (nI 1)) C dX7_sublet_236 (by decide) ?_
            refine j_isub C dX7_sublet_237 ?_
            exact j_iret C dX7_sublet_238 (by rfl) (by rfl) (by rfl)
          · replace h55 := b2i_0 h55
            exfalso
            first | contradiction | exact absurd (isL hV0 hk) (by assumption) | exact absurd ⟨by assumption, by assumption⟩ hbad | exact absurd ⟨by assumption, by assumption, by assumption⟩ hbad | exact absurd ⟨by assumption, by assumption, by assumption, by assumption⟩ hbad
        · replace h38 := b2i_0 h38
          exfalso
          first | contradiction | exact absurd (isL hV0 hk) (by assumption) | exact absurd ⟨by assumption, by assumption⟩ hbad | exact absurd ⟨by assumption, by assumption, by assumption⟩ hbad | exact absurd ⟨by assumption, by assumption, by assumption, by assumption⟩ hbad
  · replace h10 := b2i_0 h10
    exfalso
    first | contradiction | exact absurd (isL hV0 hk) (by assumption) | exact absurd ⟨by assumption, by assumption⟩ hbad | exact absurd ⟨by assumption, by assumption, by assumption⟩ hbad | exact absurd ⟨by assumption, by assumption, by assumption, by assumption⟩ hbad
set_option maxHeartbeats 4000000 in
theorem c_X7_lease_1 {l : Launch} {g : GC} {V : Mem} {L : LMem} {x : Int32} {y : Int32} (hbad : ¬ (nI 0 ≤ x ∧ x ≤ V 225 0 - nI 1)) : MC l yX7_lease cX7_lease 3 (some .int) 6 g V L [.ref (ad g 224), .int x, .int y] (some (.int 0)) (thr 1 (thr 0 V)) L := by
  refine MC.of [some (.ref (ad g 224)), some (.int x), some (.int y)] (by decide +kernel) rfl (Nat.le_of_ble_eq_true rfl) (fun p e s m args below meth c C => ?_)
  skip
  refine j_aload_n C dX7_lease_0 rfl rfl ?_
  refine j_iconst (v := (nI 0)) C dX7_lease_1 (by decide) ?_
  refine jp_LeaseBookModel_thrown C (by first | assumption | rfl | exact kd_sums (by assumption) | exact kd_st1 (by assumption) | exact kd_st2 (by assumption) | exact kd_ls (by first | assumption | rfl) (by assumption) | exact kd_sb (by first | assumption | rfl) (by assumption) | exact kd_sv (by assumption)) qf_X7_25 dX7_lease_2 ?_
  refine j_aload_n C dX7_lease_5 rfl rfl ?_
  refine j_iload_n C dX7_lease_6 rfl rfl ?_
  refine j_callV1r C (oa_X7 (by first | assumption | rfl | exact kd_sums (by assumption) | exact kd_st1 (by assumption) | exact kd_st2 (by assumption) | exact kd_ls (by first | assumption | rfl) (by assumption) | exact kd_sb (by first | assumption | rfl) (by assumption) | exact kd_sv (by assumption))) rfl rfl (c_X7_isLease) qm_X7_84 qi_X7_isLease qs_X7_isLease qn_X7 qc_X7_isLease fit_X7_isLease ⟨Nat.le_of_ble_eq_true rfl, Nat.le_of_ble_eq_true rfl, Nat.le_of_ble_eq_true rfl, Nat.le_of_ble_eq_true rfl⟩ (Nat.le_of_ble_eq_true rfl) dX7_lease_7 ?_
  refine j_if_ne (tgt := 19) C dX7_lease_10 (by decide) (fun h10 => ?_) (fun h10 => ?_)
  · replace h10 := b2i_1 h10
    exfalso
    first | contradiction | exact absurd (isL hV0 hk) (by assumption) | exact absurd ⟨by assumption, by assumption⟩ hbad | exact absurd ⟨by assumption, by assumption, by assumption⟩ hbad | exact absurd ⟨by assumption, by assumption, by assumption, by assumption⟩ hbad | exact absurd (by assumption) hbad
  · replace h10 := b2i_0 h10
    refine j_aload_n C dX7_lease_13 rfl rfl ?_
    refine j_iconst (v := (nI 1)) C dX7_lease_14 (by decide) ?_
    refine j_callV1r C (oa_X7 (by first | assumption | rfl | exact kd_sums (by assumption) | exact kd_st1 (by assumption) | exact kd_st2 (by assumption) | exact kd_ls (by first | assumption | rfl) (by assumption) | exact kd_sb (by first | assumption | rfl) (by assumption) | exact kd_sv (by assumption))) rfl rfl (c_X7_fails) qm_X7_67 qi_X7_fails qs_X7_fails qn_X7 qc_X7_fails fit_X7_fails ⟨Nat.le_of_ble_eq_true rfl, Nat.le_of_ble_eq_true rfl, Nat.le_of_ble_eq_true rfl, Nat.le_of_ble_eq_true rfl⟩ (Nat.le_of_ble_eq_true rfl) dX7_lease_15 ?_
    exact j_iret C dX7_lease_18 (by rfl) (by rfl) (by rfl)
set_option maxHeartbeats 4000000 in
theorem c_X7_lease_2 {l : Launch} {g : GC} {V : Mem} {L : LMem} {k nl ns : Nat} (hk : k < nl) (hR : RR nl ns V) {y : Int32} (hbad : ¬ (nI 0 ≤ y ∧ y ≤ nI 8)) : MC l yX7_lease cX7_lease 3 (some .int) 6 g V L [.ref (ad g 224), .int (nI k), .int y] (some (.int 0)) (thr 2 (thr 0 V)) L := by
  refine MC.of [some (.ref (ad g 224)), some (.int (nI k)), some (.int y)] (by decide +kernel) rfl (Nat.le_of_ble_eq_true rfl) (fun p e s m args below meth c C => ?_)
  have hV0 : RR nl ns (mset V 224 6 (nI 0)) := hR.put (Or.inl (by decide))
  have hk8 : k < 8 := Nat.lt_of_lt_of_le hk hR.1
  refine j_aload_n C dX7_lease_0 rfl rfl ?_
  refine j_iconst (v := (nI 0)) C dX7_lease_1 (by decide) ?_
  refine jp_LeaseBookModel_thrown C (by first | assumption | rfl | exact kd_sums (by assumption) | exact kd_st1 (by assumption) | exact kd_st2 (by assumption) | exact kd_ls (by first | assumption | rfl) (by assumption) | exact kd_sb (by first | assumption | rfl) (by assumption) | exact kd_sv (by assumption)) qf_X7_25 dX7_lease_2 ?_
  refine j_aload_n C dX7_lease_5 rfl rfl ?_
  refine j_iload_n C dX7_lease_6 rfl rfl ?_
  refine j_callV1r C (oa_X7 (by first | assumption | rfl | exact kd_sums (by assumption) | exact kd_st1 (by assumption) | exact kd_st2 (by assumption) | exact kd_ls (by first | assumption | rfl) (by assumption) | exact kd_sb (by first | assumption | rfl) (by assumption) | exact kd_sv (by assumption))) rfl rfl (c_X7_isLease) qm_X7_84 qi_X7_isLease qs_X7_isLease qn_X7 qc_X7_isLease fit_X7_isLease ⟨Nat.le_of_ble_eq_true rfl, Nat.le_of_ble_eq_true rfl, Nat.le_of_ble_eq_true rfl, Nat.le_of_ble_eq_true rfl⟩ (Nat.le_of_ble_eq_true rfl) dX7_lease_7 ?_
  refine j_if_ne (tgt := 19) C dX7_lease_10 (by decide) (fun h10 => ?_) (fun h10 => ?_)
  · replace h10 := b2i_1 h10
    refine j_iload_n C dX7_lease_19 rfl rfl ?_
    refine j_iconst (v := (nI 0)) C dX7_lease_20 (by decide) ?_
    refine j_bipush (v := (nI 8)) C dX7_lease_21 (by decide) ?_
    refine j_callS3r C (c_X7_in) qm_X7_42 qt_X7_in qn_X7 qc_X7_in fit_X7_in ⟨Nat.le_of_ble_eq_true rfl, Nat.le_of_ble_eq_true rfl, Nat.le_of_ble_eq_true rfl, Nat.le_of_ble_eq_true rfl⟩ (Nat.le_of_ble_eq_true rfl) dX7_lease_23 ?_
    refine j_if_eq (tgt := 38) C dX7_lease_26 (by decide) (fun h26 => ?_) (fun h26 => ?_)
    · replace h26 := b2i_0 h26
      refine j_aload_n C dX7_lease_38 rfl rfl ?_
      refine j_iconst (v := (nI 2)) C dX7_lease_39 (by decide) ?_
      refine j_callV1r C (oa_X7 (by first | assumption | rfl | exact kd_sums (by assumption) | exact kd_st1 (by assumption) | exact kd_st2 (by assumption) | exact kd_ls (by first | assumption | rfl) (by assumption) | exact kd_sb (by first | assumption | rfl) (by assumption) | exact kd_sv (by assumption))) rfl rfl (c_X7_fails) qm_X7_67 qi_X7_fails qs_X7_fails qn_X7 qc_X7_fails fit_X7_fails ⟨Nat.le_of_ble_eq_true rfl, Nat.le_of_ble_eq_true rfl, Nat.le_of_ble_eq_true rfl, Nat.le_of_ble_eq_true rfl⟩ (Nat.le_of_ble_eq_true rfl) dX7_lease_40 ?_
      exact j_iret C dX7_lease_43 (by rfl) (by rfl) (by rfl)
    · replace h26 := b2i_1 h26
      exfalso
      first | contradiction | exact absurd (isL hV0 hk) (by assumption) | exact absurd ⟨by assumption, by assumption⟩ hbad | exact absurd ⟨by assumption, by assumption, by assumption⟩ hbad | exact absurd ⟨by assumption, by assumption, by assumption, by assumption⟩ hbad | exact absurd (by assumption) hbad
  · replace h10 := b2i_0 h10
    exfalso
    first | contradiction | exact absurd (isL hV0 hk) (by assumption) | exact absurd ⟨by assumption, by assumption⟩ hbad | exact absurd ⟨by assumption, by assumption, by assumption⟩ hbad | exact absurd ⟨by assumption, by assumption, by assumption, by assumption⟩ hbad | exact absurd (by assumption) hbad
set_option maxHeartbeats 4000000 in
theorem c_X7_lease_ok {l : Launch} {g : GC} {V : Mem} {L : LMem} {k nl ns : Nat} (hk : k < nl) (hR : RR nl ns V) {w : Nat} (hw : w < 9) : MC l yX7_lease cX7_lease 3 (some .int) 6 g V L [.ref (ad g 224), .int (nI k), .int (nI w)] (some (.int (rLeaseOf (thr 0 V) k ns w))) (thr 0 V) L := by
  refine MC.of [some (.ref (ad g 224)), some (.int (nI k)), some (.int (nI w))] (by decide +kernel) rfl (Nat.le_of_ble_eq_true rfl) (fun p e s m args below meth c C => ?_)
  have hV0 : RR nl ns (mset V 224 6 (nI 0)) := hR.put (Or.inl (by decide))
  have hk8 : k < 8 := Nat.lt_of_lt_of_le hk hR.1
  refine j_aload_n C dX7_lease_0 rfl rfl ?_
  refine j_iconst (v := (nI 0)) C dX7_lease_1 (by decide) ?_
  refine jp_LeaseBookModel_thrown C (by first | assumption | rfl | exact kd_sums (by assumption) | exact kd_st1 (by assumption) | exact kd_st2 (by assumption) | exact kd_ls (by first | assumption | rfl) (by assumption) | exact kd_sb (by first | assumption | rfl) (by assumption) | exact kd_sv (by assumption)) qf_X7_25 dX7_lease_2 ?_
  refine j_aload_n C dX7_lease_5 rfl rfl ?_
  refine j_iload_n C dX7_lease_6 rfl rfl ?_
  refine j_callV1r C (oa_X7 (by first | assumption | rfl | exact kd_sums (by assumption) | exact kd_st1 (by assumption) | exact kd_st2 (by assumption) | exact kd_ls (by first | assumption | rfl) (by assumption) | exact kd_sb (by first | assumption | rfl) (by assumption) | exact kd_sv (by assumption))) rfl rfl (c_X7_isLease) qm_X7_84 qi_X7_isLease qs_X7_isLease qn_X7 qc_X7_isLease fit_X7_isLease ⟨Nat.le_of_ble_eq_true rfl, Nat.le_of_ble_eq_true rfl, Nat.le_of_ble_eq_true rfl, Nat.le_of_ble_eq_true rfl⟩ (Nat.le_of_ble_eq_true rfl) dX7_lease_7 ?_
  refine j_if_ne (tgt := 19) C dX7_lease_10 (by decide) (fun h10 => ?_) (fun h10 => ?_)
  · replace h10 := b2i_1 h10
    refine j_iload_n C dX7_lease_19 rfl rfl ?_
    refine j_iconst (v := (nI 0)) C dX7_lease_20 (by decide) ?_
    refine j_bipush (v := (nI 8)) C dX7_lease_21 (by decide) ?_
    refine j_callS3r C (c_X7_in) qm_X7_42 qt_X7_in qn_X7 qc_X7_in fit_X7_in ⟨Nat.le_of_ble_eq_true rfl, Nat.le_of_ble_eq_true rfl, Nat.le_of_ble_eq_true rfl, Nat.le_of_ble_eq_true rfl⟩ (Nat.le_of_ble_eq_true rfl) dX7_lease_23 ?_
    refine j_if_eq (tgt := 38) C dX7_lease_26 (by decide) (fun h26 => ?_) (fun h26 => ?_)
    · replace h26 := b2i_0 h26
      exfalso
      first | contradiction | exact absurd (isL hV0 hk) (by assumption) | exact absurd ⟨by assumption, by assumption⟩ hbad | exact absurd ⟨by assumption, by assumption, by assumption⟩ hbad | exact absurd ⟨by assumption, by assumption, by assumption, by assumption⟩ hbad | exact absurd (show nI 0 ≤ nI w ∧ nI w ≤ nI 8 from inN (by omega) (by omega) (by omega)) (by assumption)
    · replace h26 := b2i_1 h26
      refine j_aload_n C dX7_lease_29 rfl rfl ?_
      refine j_iload_n C dX7_lease_30 rfl rfl ?_
      refine j_iload_n C dX7_lease_31 rfl rfl ?_
      refine j_callV2r C (oa_X7 (by first | assumption | rfl | exact kd_sums (by assumption) | exact kd_st1 (by assumption) | exact kd_st2 (by assumption) | exact kd_ls (by first | assumption | rfl) (by assumption) | exact kd_sb (by first | assumption | rfl) (by assumption) | exact kd_sv (by assumption))) rfl rfl (c_X7_leaseOf hk8 hw hV0) qm_X7_140 qi_X7_leaseOf qs_X7_leaseOf qn_X7 qc_X7_leaseOf fit_X7_leaseOf ⟨Nat.le_of_ble_eq_true rfl, Nat.le_of_ble_eq_true rfl, Nat.le_of_ble_eq_true rfl, Nat.le_of_ble_eq_true rfl⟩ (Nat.le_of_ble_eq_true rfl) dX7_lease_32 ?_
      refine j_goto (tgt := 43) C dX7_lease_35 (by decide) ?_
      exact j_iret C dX7_lease_43 (by rfl) (by rfl) (by rfl)
  · replace h10 := b2i_0 h10
    exfalso
    first | contradiction | exact absurd (isL hV0 hk) (by assumption) | exact absurd ⟨by assumption, by assumption⟩ hbad | exact absurd ⟨by assumption, by assumption, by assumption⟩ hbad | exact absurd ⟨by assumption, by assumption, by assumption, by assumption⟩ hbad | exact absurd (show nI 0 ≤ nI w ∧ nI w ≤ nI 8 from inN (by omega) (by omega) (by omega)) (by assumption)
set_option maxHeartbeats 4000000 in
theorem c_X7_movement_1 {l : Launch} {g : GC} {V : Mem} {L : LMem} {x : Int32} {y : Int32} (hbad : ¬ (nI 0 ≤ x ∧ x ≤ V 225 0 - nI 1)) : MC l yX7_movement cX7_movement 3 (some .int) 6 g V L [.ref (ad g 224), .int x, .int y] (some (.int 0)) (thr 1 (thr 0 V)) L := by
  refine MC.of [some (.ref (ad g 224)), some (.int x), some (.int y)] (by decide +kernel) rfl (Nat.le_of_ble_eq_true rfl) (fun p e s m args below meth c C => ?_)
  skip
  refine j_aload_n C dX7_movement_0 rfl rfl ?_
  refine j_iconst (v := (nI 0)) C dX7_movement_1 (by decide) ?_
  refine jp_LeaseBookModel_thrown C (by first | assumption | rfl | exact kd_sums (by assumption) | exact kd_st1 (by assumption) | exact kd_st2 (by assumption) | exact kd_ls (by first | assumption | rfl) (by assumption) | exact kd_sb (by first | assumption | rfl) (by assumption) | exact kd_sv (by assumption)) qf_X7_25 dX7_movement_2 ?_
  refine j_aload_n C dX7_movement_5 rfl rfl ?_
  refine j_iload_n C dX7_movement_6 rfl rfl ?_
  refine j_callV1r C (oa_X7 (by first | assumption | rfl | exact kd_sums (by assumption) | exact kd_st1 (by assumption) | exact kd_st2 (by assumption) | exact kd_ls (by first | assumption | rfl) (by assumption) | exact kd_sb (by first | assumption | rfl) (by assumption) | exact kd_sv (by assumption))) rfl rfl (c_X7_isLease) qm_X7_84 qi_X7_isLease qs_X7_isLease qn_X7 qc_X7_isLease fit_X7_isLease ⟨Nat.le_of_ble_eq_true rfl, Nat.le_of_ble_eq_true rfl, Nat.le_of_ble_eq_true rfl, Nat.le_of_ble_eq_true rfl⟩ (Nat.le_of_ble_eq_true rfl) dX7_movement_7 ?_
  refine j_if_ne (tgt := 19) C dX7_movement_10 (by decide) (fun h10 => ?_) (fun h10 => ?_)
  · replace h10 := b2i_1 h10
    exfalso
    first | contradiction | exact absurd (isL hV0 hk) (by assumption) | exact absurd ⟨by assumption, by assumption⟩ hbad | exact absurd ⟨by assumption, by assumption, by assumption⟩ hbad | exact absurd ⟨by assumption, by assumption, by assumption, by assumption⟩ hbad | exact absurd (by assumption) hbad
  · replace h10 := b2i_0 h10
    refine j_aload_n C dX7_movement_13 rfl rfl ?_
    refine j_iconst (v := (nI 1)) C dX7_movement_14 (by decide) ?_
    refine j_callV1r C (oa_X7 (by first | assumption | rfl | exact kd_sums (by assumption) | exact kd_st1 (by assumption) | exact kd_st2 (by assumption) | exact kd_ls (by first | assumption | rfl) (by assumption) | exact kd_sb (by first | assumption | rfl) (by assumption) | exact kd_sv (by assumption))) rfl rfl (c_X7_fails) qm_X7_67 qi_X7_fails qs_X7_fails qn_X7 qc_X7_fails fit_X7_fails ⟨Nat.le_of_ble_eq_true rfl, Nat.le_of_ble_eq_true rfl, Nat.le_of_ble_eq_true rfl, Nat.le_of_ble_eq_true rfl⟩ (Nat.le_of_ble_eq_true rfl) dX7_movement_15 ?_
    exact j_iret C dX7_movement_18 (by rfl) (by rfl) (by rfl)
set_option maxHeartbeats 4000000 in
theorem c_X7_movement_2 {l : Launch} {g : GC} {V : Mem} {L : LMem} {k nl ns : Nat} (hk : k < nl) (hR : RR nl ns V) {y : Int32} (hbad : ¬ (nI 0 ≤ y ∧ y ≤ nI 16)) : MC l yX7_movement cX7_movement 3 (some .int) 6 g V L [.ref (ad g 224), .int (nI k), .int y] (some (.int 0)) (thr 2 (thr 0 V)) L := by
  refine MC.of [some (.ref (ad g 224)), some (.int (nI k)), some (.int y)] (by decide +kernel) rfl (Nat.le_of_ble_eq_true rfl) (fun p e s m args below meth c C => ?_)
  have hV0 : RR nl ns (mset V 224 6 (nI 0)) := hR.put (Or.inl (by decide))
  have hk8 : k < 8 := Nat.lt_of_lt_of_le hk hR.1
  refine j_aload_n C dX7_movement_0 rfl rfl ?_
  refine j_iconst (v := (nI 0)) C dX7_movement_1 (by decide) ?_
  refine jp_LeaseBookModel_thrown C (by first | assumption | rfl | exact kd_sums (by assumption) | exact kd_st1 (by assumption) | exact kd_st2 (by assumption) | exact kd_ls (by first | assumption | rfl) (by assumption) | exact kd_sb (by first | assumption | rfl) (by assumption) | exact kd_sv (by assumption)) qf_X7_25 dX7_movement_2 ?_
  refine j_aload_n C dX7_movement_5 rfl rfl ?_
  refine j_iload_n C dX7_movement_6 rfl rfl ?_
  refine j_callV1r C (oa_X7 (by first | assumption | rfl | exact kd_sums (by assumption) | exact kd_st1 (by assumption) | exact kd_st2 (by assumption) | exact kd_ls (by first | assumption | rfl) (by assumption) | exact kd_sb (by first | assumption | rfl) (by assumption) | exact kd_sv (by assumption))) rfl rfl (c_X7_isLease) qm_X7_84 qi_X7_isLease qs_X7_isLease qn_X7 qc_X7_isLease fit_X7_isLease ⟨Nat.le_of_ble_eq_true rfl, Nat.le_of_ble_eq_true rfl, Nat.le_of_ble_eq_true rfl, Nat.le_of_ble_eq_true rfl⟩ (Nat.le_of_ble_eq_true rfl) dX7_movement_7 ?_
  refine j_if_ne (tgt := 19) C dX7_movement_10 (by decide) (fun h10 => ?_) (fun h10 => ?_)
  · replace h10 := b2i_1 h10
    refine j_iload_n C dX7_movement_19 rfl rfl ?_
    refine j_iconst (v := (nI 0)) C dX7_movement_20 (by decide) ?_
    refine j_bipush (v := (nI 16)) C dX7_movement_21 (by decide) ?_
    refine j_callS3r C (c_X7_in) qm_X7_42 qt_X7_in qn_X7 qc_X7_in fit_X7_in ⟨Nat.le_of_ble_eq_true rfl, Nat.le_of_ble_eq_true rfl, Nat.le_of_ble_eq_true rfl, Nat.le_of_ble_eq_true rfl⟩ (Nat.le_of_ble_eq_true rfl) dX7_movement_23 ?_
    refine j_if_eq (tgt := 38) C dX7_movement_26 (by decide) (fun h26 => ?_) (fun h26 => ?_)
    · replace h26 := b2i_0 h26
      refine j_aload_n C dX7_movement_38 rfl rfl ?_
      refine j_iconst (v := (nI 2)) C dX7_movement_39 (by decide) ?_
      refine j_callV1r C (oa_X7 (by first | assumption | rfl | exact kd_sums (by assumption) | exact kd_st1 (by assumption) | exact kd_st2 (by assumption) | exact kd_ls (by first | assumption | rfl) (by assumption) | exact kd_sb (by first | assumption | rfl) (by assumption) | exact kd_sv (by assumption))) rfl rfl (c_X7_fails) qm_X7_67 qi_X7_fails qs_X7_fails qn_X7 qc_X7_fails fit_X7_fails ⟨Nat.le_of_ble_eq_true rfl, Nat.le_of_ble_eq_true rfl, Nat.le_of_ble_eq_true rfl, Nat.le_of_ble_eq_true rfl⟩ (Nat.le_of_ble_eq_true rfl) dX7_movement_40 ?_
      exact j_iret C dX7_movement_43 (by rfl) (by rfl) (by rfl)
    · replace h26 := b2i_1 h26
      exfalso
      first | contradiction | exact absurd (isL hV0 hk) (by assumption) | exact absurd ⟨by assumption, by assumption⟩ hbad | exact absurd ⟨by assumption, by assumption, by assumption⟩ hbad | exact absurd ⟨by assumption, by assumption, by assumption, by assumption⟩ hbad | exact absurd (by assumption) hbad
  · replace h10 := b2i_0 h10
    exfalso
    first | contradiction | exact absurd (isL hV0 hk) (by assumption) | exact absurd ⟨by assumption, by assumption⟩ hbad | exact absurd ⟨by assumption, by assumption, by assumption⟩ hbad | exact absurd ⟨by assumption, by assumption, by assumption, by assumption⟩ hbad | exact absurd (by assumption) hbad
set_option maxHeartbeats 4000000 in
theorem c_X7_movement_ok {l : Launch} {g : GC} {V : Mem} {L : LMem} {k nl ns : Nat} (hk : k < nl) (hR : RR nl ns V) {w : Nat} (hw : w < 17) : MC l yX7_movement cX7_movement 3 (some .int) 6 g V L [.ref (ad g 224), .int (nI k), .int (nI w)] (some (.int (rMoved (thr 0 V) k w))) (thr 0 V) L := by
  refine MC.of [some (.ref (ad g 224)), some (.int (nI k)), some (.int (nI w))] (by decide +kernel) rfl (Nat.le_of_ble_eq_true rfl) (fun p e s m args below meth c C => ?_)
  have hV0 : RR nl ns (mset V 224 6 (nI 0)) := hR.put (Or.inl (by decide))
  have hk8 : k < 8 := Nat.lt_of_lt_of_le hk hR.1
  refine j_aload_n C dX7_movement_0 rfl rfl ?_
  refine j_iconst (v := (nI 0)) C dX7_movement_1 (by decide) ?_
  refine jp_LeaseBookModel_thrown C (by first | assumption | rfl | exact kd_sums (by assumption) | exact kd_st1 (by assumption) | exact kd_st2 (by assumption) | exact kd_ls (by first | assumption | rfl) (by assumption) | exact kd_sb (by first | assumption | rfl) (by assumption) | exact kd_sv (by assumption)) qf_X7_25 dX7_movement_2 ?_
  refine j_aload_n C dX7_movement_5 rfl rfl ?_
  refine j_iload_n C dX7_movement_6 rfl rfl ?_
  refine j_callV1r C (oa_X7 (by first | assumption | rfl | exact kd_sums (by assumption) | exact kd_st1 (by assumption) | exact kd_st2 (by assumption) | exact kd_ls (by first | assumption | rfl) (by assumption) | exact kd_sb (by first | assumption | rfl) (by assumption) | exact kd_sv (by assumption))) rfl rfl (c_X7_isLease) qm_X7_84 qi_X7_isLease qs_X7_isLease qn_X7 qc_X7_isLease fit_X7_isLease ⟨Nat.le_of_ble_eq_true rfl, Nat.le_of_ble_eq_true rfl, Nat.le_of_ble_eq_true rfl, Nat.le_of_ble_eq_true rfl⟩ (Nat.le_of_ble_eq_true rfl) dX7_movement_7 ?_
  refine j_if_ne (tgt := 19) C dX7_movement_10 (by decide) (fun h10 => ?_) (fun h10 => ?_)
  · replace h10 := b2i_1 h10
    refine j_iload_n C dX7_movement_19 rfl rfl ?_
    refine j_iconst (v := (nI 0)) C dX7_movement_20 (by decide) ?_
    refine j_bipush (v := (nI 16)) C dX7_movement_21 (by decide) ?_
    refine j_callS3r C (c_X7_in) qm_X7_42 qt_X7_in qn_X7 qc_X7_in fit_X7_in ⟨Nat.le_of_ble_eq_true rfl, Nat.le_of_ble_eq_true rfl, Nat.le_of_ble_eq_true rfl, Nat.le_of_ble_eq_true rfl⟩ (Nat.le_of_ble_eq_true rfl) dX7_movement_23 ?_
    refine j_if_eq (tgt := 38) C dX7_movement_26 (by decide) (fun h26 => ?_) (fun h26 => ?_)
    · replace h26 := b2i_0 h26
      exfalso
      first | contradiction | exact absurd (isL hV0 hk) (by assumption) | exact absurd ⟨by assumption, by assumption⟩ hbad | exact absurd ⟨by assumption, by assumption, by assumption⟩ hbad | exact absurd ⟨by assumption, by assumption, by assumption, by assumption⟩ hbad | exact absurd (show nI 0 ≤ nI w ∧ nI w ≤ nI 16 from inN (by omega) (by omega) (by omega)) (by assumption)
    · replace h26 := b2i_1 h26
      refine j_aload_n C dX7_movement_29 rfl rfl ?_
      refine j_iload_n C dX7_movement_30 rfl rfl ?_
      refine j_iload_n C dX7_movement_31 rfl rfl ?_
      refine j_callV2r C (oa_X7 (by first | assumption | rfl | exact kd_sums (by assumption) | exact kd_st1 (by assumption) | exact kd_st2 (by assumption) | exact kd_ls (by first | assumption | rfl) (by assumption) | exact kd_sb (by first | assumption | rfl) (by assumption) | exact kd_sv (by assumption))) rfl rfl (c_X7_moved hk8 hw) qm_X7_143 qi_X7_moved qs_X7_moved qn_X7 qc_X7_moved fit_X7_moved ⟨Nat.le_of_ble_eq_true rfl, Nat.le_of_ble_eq_true rfl, Nat.le_of_ble_eq_true rfl, Nat.le_of_ble_eq_true rfl⟩ (Nat.le_of_ble_eq_true rfl) dX7_movement_32 ?_
      refine j_goto (tgt := 43) C dX7_movement_35 (by decide) ?_
      exact j_iret C dX7_movement_43 (by rfl) (by rfl) (by rfl)
  · replace h10 := b2i_0 h10
    exfalso
    first | contradiction | exact absurd (isL hV0 hk) (by assumption) | exact absurd ⟨by assumption, by assumption⟩ hbad | exact absurd ⟨by assumption, by assumption, by assumption⟩ hbad | exact absurd ⟨by assumption, by assumption, by assumption, by assumption⟩ hbad | exact absurd (show nI 0 ≤ nI w ∧ nI w ≤ nI 16 from inN (by omega) (by omega) (by omega)) (by assumption)
set_option maxHeartbeats 4000000 in
theorem c_X7_profit_1 {l : Launch} {g : GC} {V : Mem} {L : LMem} {x : Int32} {y : Int32} (hbad : ¬ (nI 0 ≤ x ∧ x ≤ V 225 0 - nI 1)) : MC l yX7_profit cX7_profit 3 (some .int) 6 g V L [.ref (ad g 224), .int x, .int y] (some (.int 0)) (thr 1 (thr 0 V)) L := by
  refine MC.of [some (.ref (ad g 224)), some (.int x), some (.int y)] (by decide +kernel) rfl (Nat.le_of_ble_eq_true rfl) (fun p e s m args below meth c C => ?_)
  skip
  refine j_aload_n C dX7_profit_0 rfl rfl ?_
  refine j_iconst (v := (nI 0)) C dX7_profit_1 (by decide) ?_
  refine jp_LeaseBookModel_thrown C (by first | assumption | rfl | exact kd_sums (by assumption) | exact kd_st1 (by assumption) | exact kd_st2 (by assumption) | exact kd_ls (by first | assumption | rfl) (by assumption) | exact kd_sb (by first | assumption | rfl) (by assumption) | exact kd_sv (by assumption)) qf_X7_25 dX7_profit_2 ?_
  refine j_aload_n C dX7_profit_5 rfl rfl ?_
  refine j_iload_n C dX7_profit_6 rfl rfl ?_
  refine j_callV1r C (oa_X7 (by first | assumption | rfl | exact kd_sums (by assumption) | exact kd_st1 (by assumption) | exact kd_st2 (by assumption) | exact kd_ls (by first | assumption | rfl) (by assumption) | exact kd_sb (by first | assumption | rfl) (by assumption) | exact kd_sv (by assumption))) rfl rfl (c_X7_isLease) qm_X7_84 qi_X7_isLease qs_X7_isLease qn_X7 qc_X7_isLease fit_X7_isLease ⟨Nat.le_of_ble_eq_true rfl, Nat.le_of_ble_eq_true rfl, Nat.le_of_ble_eq_true rfl, Nat.le_of_ble_eq_true rfl⟩ (Nat.le_of_ble_eq_true rfl) dX7_profit_7 ?_
  refine j_if_ne (tgt := 19) C dX7_profit_10 (by decide) (fun h10 => ?_) (fun h10 => ?_)
  · replace h10 := b2i_1 h10
    exfalso
    first | contradiction | exact absurd (isL hV0 hk) (by assumption) | exact absurd ⟨by assumption, by assumption⟩ hbad | exact absurd ⟨by assumption, by assumption, by assumption⟩ hbad | exact absurd ⟨by assumption, by assumption, by assumption, by assumption⟩ hbad | exact absurd (by assumption) hbad
  · replace h10 := b2i_0 h10
    refine j_aload_n C dX7_profit_13 rfl rfl ?_
    refine j_iconst (v := (nI 1)) C dX7_profit_14 (by decide) ?_
    refine j_callV1r C (oa_X7 (by first | assumption | rfl | exact kd_sums (by assumption) | exact kd_st1 (by assumption) | exact kd_st2 (by assumption) | exact kd_ls (by first | assumption | rfl) (by assumption) | exact kd_sb (by first | assumption | rfl) (by assumption) | exact kd_sv (by assumption))) rfl rfl (c_X7_fails) qm_X7_67 qi_X7_fails qs_X7_fails qn_X7 qc_X7_fails fit_X7_fails ⟨Nat.le_of_ble_eq_true rfl, Nat.le_of_ble_eq_true rfl, Nat.le_of_ble_eq_true rfl, Nat.le_of_ble_eq_true rfl⟩ (Nat.le_of_ble_eq_true rfl) dX7_profit_15 ?_
    exact j_iret C dX7_profit_18 (by rfl) (by rfl) (by rfl)
set_option maxHeartbeats 4000000 in
theorem c_X7_profit_2 {l : Launch} {g : GC} {V : Mem} {L : LMem} {k nl ns : Nat} (hk : k < nl) (hR : RR nl ns V) {y : Int32} (hbad : ¬ (nI 0 ≤ y ∧ y ≤ nI 1)) : MC l yX7_profit cX7_profit 3 (some .int) 6 g V L [.ref (ad g 224), .int (nI k), .int y] (some (.int 0)) (thr 2 (thr 0 V)) L := by
  refine MC.of [some (.ref (ad g 224)), some (.int (nI k)), some (.int y)] (by decide +kernel) rfl (Nat.le_of_ble_eq_true rfl) (fun p e s m args below meth c C => ?_)
  have hV0 : RR nl ns (mset V 224 6 (nI 0)) := hR.put (Or.inl (by decide))
  have hk8 : k < 8 := Nat.lt_of_lt_of_le hk hR.1
  refine j_aload_n C dX7_profit_0 rfl rfl ?_
  refine j_iconst (v := (nI 0)) C dX7_profit_1 (by decide) ?_
  refine jp_LeaseBookModel_thrown C (by first | assumption | rfl | exact kd_sums (by assumption) | exact kd_st1 (by assumption) | exact kd_st2 (by assumption) | exact kd_ls (by first | assumption | rfl) (by assumption) | exact kd_sb (by first | assumption | rfl) (by assumption) | exact kd_sv (by assumption)) qf_X7_25 dX7_profit_2 ?_
  refine j_aload_n C dX7_profit_5 rfl rfl ?_
  refine j_iload_n C dX7_profit_6 rfl rfl ?_
  refine j_callV1r C (oa_X7 (by first | assumption | rfl | exact kd_sums (by assumption) | exact kd_st1 (by assumption) | exact kd_st2 (by assumption) | exact kd_ls (by first | assumption | rfl) (by assumption) | exact kd_sb (by first | assumption | rfl) (by assumption) | exact kd_sv (by assumption))) rfl rfl (c_X7_isLease) qm_X7_84 qi_X7_isLease qs_X7_isLease qn_X7 qc_X7_isLease fit_X7_isLease ⟨Nat.le_of_ble_eq_true rfl, Nat.le_of_ble_eq_true rfl, Nat.le_of_ble_eq_true rfl, Nat.le_of_ble_eq_true rfl⟩ (Nat.le_of_ble_eq_true rfl) dX7_profit_7 ?_
  refine j_if_ne (tgt := 19) C dX7_profit_10 (by decide) (fun h10 => ?_) (fun h10 => ?_)
  · replace h10 := b2i_1 h10
    refine j_iload_n C dX7_profit_19 rfl rfl ?_
    refine j_iconst (v := (nI 0)) C dX7_profit_20 (by decide) ?_
    refine j_iconst (v := (nI 1)) C dX7_profit_21 (by decide) ?_
    refine j_callS3r C (c_X7_in) qm_X7_42 qt_X7_in qn_X7 qc_X7_in fit_X7_in ⟨Nat.le_of_ble_eq_true rfl, Nat.le_of_ble_eq_true rfl, Nat.le_of_ble_eq_true rfl, Nat.le_of_ble_eq_true rfl⟩ (Nat.le_of_ble_eq_true rfl) dX7_profit_22 ?_
    refine j_if_eq (tgt := 37) C dX7_profit_25 (by decide) (fun h25 => ?_) (fun h25 => ?_)
    · replace h25 := b2i_0 h25
      refine j_aload_n C dX7_profit_37 rfl rfl ?_
      refine j_iconst (v := (nI 2)) C dX7_profit_38 (by decide) ?_
      refine j_callV1r C (oa_X7 (by first | assumption | rfl | exact kd_sums (by assumption) | exact kd_st1 (by assumption) | exact kd_st2 (by assumption) | exact kd_ls (by first | assumption | rfl) (by assumption) | exact kd_sb (by first | assumption | rfl) (by assumption) | exact kd_sv (by assumption))) rfl rfl (c_X7_fails) qm_X7_67 qi_X7_fails qs_X7_fails qn_X7 qc_X7_fails fit_X7_fails ⟨Nat.le_of_ble_eq_true rfl, Nat.le_of_ble_eq_true rfl, Nat.le_of_ble_eq_true rfl, Nat.le_of_ble_eq_true rfl⟩ (Nat.le_of_ble_eq_true rfl) dX7_profit_39 ?_
      exact j_iret C dX7_profit_42 (by rfl) (by rfl) (by rfl)
    · replace h25 := b2i_1 h25
      exfalso
      first | contradiction | exact absurd (isL hV0 hk) (by assumption) | exact absurd ⟨by assumption, by assumption⟩ hbad | exact absurd ⟨by assumption, by assumption, by assumption⟩ hbad | exact absurd ⟨by assumption, by assumption, by assumption, by assumption⟩ hbad | exact absurd (by assumption) hbad
  · replace h10 := b2i_0 h10
    exfalso
    first | contradiction | exact absurd (isL hV0 hk) (by assumption) | exact absurd ⟨by assumption, by assumption⟩ hbad | exact absurd ⟨by assumption, by assumption, by assumption⟩ hbad | exact absurd ⟨by assumption, by assumption, by assumption, by assumption⟩ hbad | exact absurd (by assumption) hbad
set_option maxHeartbeats 4000000 in
theorem c_X7_profit_ok {l : Launch} {g : GC} {V : Mem} {L : LMem} {k nl ns : Nat} (hk : k < nl) (hR : RR nl ns V) {y : Int32} (hy : nI 0 ≤ y ∧ y ≤ nI 1) : MC l yX7_profit cX7_profit 3 (some .int) 6 g V L [.ref (ad g 224), .int (nI k), .int y] (some (.int (if y = nI 1 then rProf1 (thr 0 V) k ns else rProf0 (thr 0 V) k))) (thr 0 V) L := by
  refine MC.of [some (.ref (ad g 224)), some (.int (nI k)), some (.int y)] (by decide +kernel) rfl (Nat.le_of_ble_eq_true rfl) (fun p e s m args below meth c C => ?_)
  have hV0 : RR nl ns (mset V 224 6 (nI 0)) := hR.put (Or.inl (by decide))
  have hk8 : k < 8 := Nat.lt_of_lt_of_le hk hR.1
  refine j_aload_n C dX7_profit_0 rfl rfl ?_
  refine j_iconst (v := (nI 0)) C dX7_profit_1 (by decide) ?_
  refine jp_LeaseBookModel_thrown C (by first | assumption | rfl | exact kd_sums (by assumption) | exact kd_st1 (by assumption) | exact kd_st2 (by assumption) | exact kd_ls (by first | assumption | rfl) (by assumption) | exact kd_sb (by first | assumption | rfl) (by assumption) | exact kd_sv (by assumption)) qf_X7_25 dX7_profit_2 ?_
  refine j_aload_n C dX7_profit_5 rfl rfl ?_
  refine j_iload_n C dX7_profit_6 rfl rfl ?_
  refine j_callV1r C (oa_X7 (by first | assumption | rfl | exact kd_sums (by assumption) | exact kd_st1 (by assumption) | exact kd_st2 (by assumption) | exact kd_ls (by first | assumption | rfl) (by assumption) | exact kd_sb (by first | assumption | rfl) (by assumption) | exact kd_sv (by assumption))) rfl rfl (c_X7_isLease) qm_X7_84 qi_X7_isLease qs_X7_isLease qn_X7 qc_X7_isLease fit_X7_isLease ⟨Nat.le_of_ble_eq_true rfl, Nat.le_of_ble_eq_true rfl, Nat.le_of_ble_eq_true rfl, Nat.le_of_ble_eq_true rfl⟩ (Nat.le_of_ble_eq_true rfl) dX7_profit_7 ?_
  refine j_if_ne (tgt := 19) C dX7_profit_10 (by decide) (fun h10 => ?_) (fun h10 => ?_)
  · replace h10 := b2i_1 h10
    refine j_iload_n C dX7_profit_19 rfl rfl ?_
    refine j_iconst (v := (nI 0)) C dX7_profit_20 (by decide) ?_
    refine j_iconst (v := (nI 1)) C dX7_profit_21 (by decide) ?_
    refine j_callS3r C (c_X7_in) qm_X7_42 qt_X7_in qn_X7 qc_X7_in fit_X7_in ⟨Nat.le_of_ble_eq_true rfl, Nat.le_of_ble_eq_true rfl, Nat.le_of_ble_eq_true rfl, Nat.le_of_ble_eq_true rfl⟩ (Nat.le_of_ble_eq_true rfl) dX7_profit_22 ?_
    refine j_if_eq (tgt := 37) C dX7_profit_25 (by decide) (fun h25 => ?_) (fun h25 => ?_)
    · replace h25 := b2i_0 h25
      exfalso
      first | contradiction | exact absurd (isL hV0 hk) (by assumption) | exact absurd ⟨by assumption, by assumption⟩ hbad | exact absurd ⟨by assumption, by assumption, by assumption⟩ hbad | exact absurd ⟨by assumption, by assumption, by assumption, by assumption⟩ hbad
    · replace h25 := b2i_1 h25
      refine j_aload_n C dX7_profit_28 rfl rfl ?_
      refine j_iload_n C dX7_profit_29 rfl rfl ?_
      refine j_iload_n C dX7_profit_30 rfl rfl ?_
      refine j_callV2r C (oa_X7 (by first | assumption | rfl | exact kd_sums (by assumption) | exact kd_st1 (by assumption) | exact kd_st2 (by assumption) | exact kd_ls (by first | assumption | rfl) (by assumption) | exact kd_sb (by first | assumption | rfl) (by assumption) | exact kd_sv (by assumption))) rfl rfl (c_X7_profitOf hk8 hV0) qm_X7_146 qi_X7_profitOf qs_X7_profitOf qn_X7 qc_X7_profitOf fit_X7_profitOf ⟨Nat.le_of_ble_eq_true rfl, Nat.le_of_ble_eq_true rfl, Nat.le_of_ble_eq_true rfl, Nat.le_of_ble_eq_true rfl⟩ (Nat.le_of_ble_eq_true rfl) dX7_profit_31 ?_
      refine j_goto (tgt := 42) C dX7_profit_34 (by decide) ?_
      exact j_iret C dX7_profit_42 (by rfl) (by rfl) (by rfl)
  · replace h10 := b2i_0 h10
    exfalso
    first | contradiction | exact absurd (isL hV0 hk) (by assumption) | exact absurd ⟨by assumption, by assumption⟩ hbad | exact absurd ⟨by assumption, by assumption, by assumption⟩ hbad | exact absurd ⟨by assumption, by assumption, by assumption, by assumption⟩ hbad
set_option maxHeartbeats 4000000 in
theorem c_X7_plan_1 {l : Launch} {g : GC} {V : Mem} {L : LMem} {x : Int32} {n1 y : Int32} (hbad : ¬ (nI 0 ≤ x ∧ x ≤ V 225 0 - nI 1)) : MC l yX7_plan cX7_plan 4 (some .int) 6 g V L [.ref (ad g 224), .int x, .int n1, .int y] (some (.int 0)) (thr 1 (thr 0 V)) L := by
  refine MC.of [some (.ref (ad g 224)), some (.int x), some (.int n1), some (.int y)] (by decide +kernel) rfl (Nat.le_of_ble_eq_true rfl) (fun p e s m args below meth c C => ?_)
  skip
  refine j_aload_n C dX7_plan_0 rfl rfl ?_
  refine j_iconst (v := (nI 0)) C dX7_plan_1 (by decide) ?_
  refine jp_LeaseBookModel_thrown C (by first | assumption | rfl | exact kd_sums (by assumption) | exact kd_st1 (by assumption) | exact kd_st2 (by assumption) | exact kd_ls (by first | assumption | rfl) (by assumption) | exact kd_sb (by first | assumption | rfl) (by assumption) | exact kd_sv (by assumption)) qf_X7_25 dX7_plan_2 ?_
  refine j_aload_n C dX7_plan_5 rfl rfl ?_
  refine j_iload_n C dX7_plan_6 rfl rfl ?_
  refine j_callV1r C (oa_X7 (by first | assumption | rfl | exact kd_sums (by assumption) | exact kd_st1 (by assumption) | exact kd_st2 (by assumption) | exact kd_ls (by first | assumption | rfl) (by assumption) | exact kd_sb (by first | assumption | rfl) (by assumption) | exact kd_sv (by assumption))) rfl rfl (c_X7_isLease) qm_X7_84 qi_X7_isLease qs_X7_isLease qn_X7 qc_X7_isLease fit_X7_isLease ⟨Nat.le_of_ble_eq_true rfl, Nat.le_of_ble_eq_true rfl, Nat.le_of_ble_eq_true rfl, Nat.le_of_ble_eq_true rfl⟩ (Nat.le_of_ble_eq_true rfl) dX7_plan_7 ?_
  refine j_if_ne (tgt := 19) C dX7_plan_10 (by decide) (fun h10 => ?_) (fun h10 => ?_)
  · replace h10 := b2i_1 h10
    exfalso
    first | contradiction | exact absurd (isL hV0 hk) (by assumption) | exact absurd ⟨by assumption, by assumption⟩ hbad | exact absurd ⟨by assumption, by assumption, by assumption⟩ hbad | exact absurd ⟨by assumption, by assumption, by assumption, by assumption⟩ hbad | exact absurd (by assumption) hbad
  · replace h10 := b2i_0 h10
    refine j_aload_n C dX7_plan_13 rfl rfl ?_
    refine j_iconst (v := (nI 1)) C dX7_plan_14 (by decide) ?_
    refine j_callV1r C (oa_X7 (by first | assumption | rfl | exact kd_sums (by assumption) | exact kd_st1 (by assumption) | exact kd_st2 (by assumption) | exact kd_ls (by first | assumption | rfl) (by assumption) | exact kd_sb (by first | assumption | rfl) (by assumption) | exact kd_sv (by assumption))) rfl rfl (c_X7_fails) qm_X7_67 qi_X7_fails qs_X7_fails qn_X7 qc_X7_fails fit_X7_fails ⟨Nat.le_of_ble_eq_true rfl, Nat.le_of_ble_eq_true rfl, Nat.le_of_ble_eq_true rfl, Nat.le_of_ble_eq_true rfl⟩ (Nat.le_of_ble_eq_true rfl) dX7_plan_15 ?_
    exact j_iret C dX7_plan_18 (by rfl) (by rfl) (by rfl)
set_option maxHeartbeats 4000000 in
theorem c_X7_plan_2 {l : Launch} {g : GC} {V : Mem} {L : LMem} {k nl ns : Nat} (hk : k < nl) (hR : RR nl ns V) {n1 y : Int32} (hbad : ¬ ((nI 0 ≤ n1 ∧ n1 ≤ nI 60) ∧ nI 0 ≤ y ∧ y ≤ nI 3)) : MC l yX7_plan cX7_plan 4 (some .int) 6 g V L [.ref (ad g 224), .int (nI k), .int n1, .int y] (some (.int 0)) (thr 2 (thr 0 V)) L := by
  refine MC.of [some (.ref (ad g 224)), some (.int (nI k)), some (.int n1), some (.int y)] (by decide +kernel) rfl (Nat.le_of_ble_eq_true rfl) (fun p e s m args below meth c C => ?_)
  have hV0 : RR nl ns (mset V 224 6 (nI 0)) := hR.put (Or.inl (by decide))
  have hk8 : k < 8 := Nat.lt_of_lt_of_le hk hR.1
  refine j_aload_n C dX7_plan_0 rfl rfl ?_
  refine j_iconst (v := (nI 0)) C dX7_plan_1 (by decide) ?_
  refine jp_LeaseBookModel_thrown C (by first | assumption | rfl | exact kd_sums (by assumption) | exact kd_st1 (by assumption) | exact kd_st2 (by assumption) | exact kd_ls (by first | assumption | rfl) (by assumption) | exact kd_sb (by first | assumption | rfl) (by assumption) | exact kd_sv (by assumption)) qf_X7_25 dX7_plan_2 ?_
  refine j_aload_n C dX7_plan_5 rfl rfl ?_
  refine j_iload_n C dX7_plan_6 rfl rfl ?_
  refine j_callV1r C (oa_X7 (by first | assumption | rfl | exact kd_sums (by assumption) | exact kd_st1 (by assumption) | exact kd_st2 (by assumption) | exact kd_ls (by first | assumption | rfl) (by assumption) | exact kd_sb (by first | assumption | rfl) (by assumption) | exact kd_sv (by assumption))) rfl rfl (c_X7_isLease) qm_X7_84 qi_X7_isLease qs_X7_isLease qn_X7 qc_X7_isLease fit_X7_isLease ⟨Nat.le_of_ble_eq_true rfl, Nat.le_of_ble_eq_true rfl, Nat.le_of_ble_eq_true rfl, Nat.le_of_ble_eq_true rfl⟩ (Nat.le_of_ble_eq_true rfl) dX7_plan_7 ?_
  refine j_if_ne (tgt := 19) C dX7_plan_10 (by decide) (fun h10 => ?_) (fun h10 => ?_)
  · replace h10 := b2i_1 h10
    refine j_iload_n C dX7_plan_19 rfl rfl ?_
    refine j_iconst (v := (nI 0)) C dX7_plan_20 (by decide) ?_
    refine j_bipush (v := (nI 60)) C dX7_plan_21 (by decide) ?_
    refine j_callS3r C (c_X7_in) qm_X7_42 qt_X7_in qn_X7 qc_X7_in fit_X7_in ⟨Nat.le_of_ble_eq_true rfl, Nat.le_of_ble_eq_true rfl, Nat.le_of_ble_eq_true rfl, Nat.le_of_ble_eq_true rfl⟩ (Nat.le_of_ble_eq_true rfl) dX7_plan_23 ?_
    refine j_if_eq (tgt := 48) C dX7_plan_26 (by decide) (fun h26 => ?_) (fun h26 => ?_)
    · replace h26 := b2i_0 h26
      refine j_aload_n C dX7_plan_48 rfl rfl ?_
      refine j_iconst (v := (nI 2)) C dX7_plan_49 (by decide) ?_
      refine j_callV1r C (oa_X7 (by first | assumption | rfl | exact kd_sums (by assumption) | exact kd_st1 (by assumption) | exact kd_st2 (by assumption) | exact kd_ls (by first | assumption | rfl) (by assumption) | exact kd_sb (by first | assumption | rfl) (by assumption) | exact kd_sv (by assumption))) rfl rfl (c_X7_fails) qm_X7_67 qi_X7_fails qs_X7_fails qn_X7 qc_X7_fails fit_X7_fails ⟨Nat.le_of_ble_eq_true rfl, Nat.le_of_ble_eq_true rfl, Nat.le_of_ble_eq_true rfl, Nat.le_of_ble_eq_true rfl⟩ (Nat.le_of_ble_eq_true rfl) dX7_plan_50 ?_
      exact j_iret C dX7_plan_53 (by rfl) (by rfl) (by rfl)
    · replace h26 := b2i_1 h26
      refine j_iload_n C dX7_plan_29 rfl rfl ?_
      refine j_iconst (v := (nI 0)) C dX7_plan_30 (by decide) ?_
      refine j_iconst (v := (nI 3)) C dX7_plan_31 (by decide) ?_
      refine j_callS3r C (c_X7_in) qm_X7_42 qt_X7_in qn_X7 qc_X7_in fit_X7_in ⟨Nat.le_of_ble_eq_true rfl, Nat.le_of_ble_eq_true rfl, Nat.le_of_ble_eq_true rfl, Nat.le_of_ble_eq_true rfl⟩ (Nat.le_of_ble_eq_true rfl) dX7_plan_32 ?_
      refine j_if_eq (tgt := 48) C dX7_plan_35 (by decide) (fun h35 => ?_) (fun h35 => ?_)
      · replace h35 := b2i_0 h35
        refine j_aload_n C dX7_plan_48 rfl rfl ?_
        refine j_iconst (v := (nI 2)) C dX7_plan_49 (by decide) ?_
        refine j_callV1r C (oa_X7 (by first | assumption | rfl | exact kd_sums (by assumption) | exact kd_st1 (by assumption) | exact kd_st2 (by assumption) | exact kd_ls (by first | assumption | rfl) (by assumption) | exact kd_sb (by first | assumption | rfl) (by assumption) | exact kd_sv (by assumption))) rfl rfl (c_X7_fails) qm_X7_67 qi_X7_fails qs_X7_fails qn_X7 qc_X7_fails fit_X7_fails ⟨Nat.le_of_ble_eq_true rfl, Nat.le_of_ble_eq_true rfl, Nat.le_of_ble_eq_true rfl, Nat.le_of_ble_eq_true rfl⟩ (Nat.le_of_ble_eq_true rfl) dX7_plan_50 ?_
        exact j_iret C dX7_plan_53 (by rfl) (by rfl) (by rfl)
      · replace h35 := b2i_1 h35
        exfalso
        first | contradiction | exact absurd (isL hV0 hk) (by assumption) | exact absurd ⟨by assumption, by assumption⟩ hbad | exact absurd ⟨by assumption, by assumption, by assumption⟩ hbad | exact absurd ⟨by assumption, by assumption, by assumption, by assumption⟩ hbad | exact absurd (by assumption) hbad
  · replace h10 := b2i_0 h10
    exfalso
    first | contradiction | exact absurd (isL hV0 hk) (by assumption) | exact absurd ⟨by assumption, by assumption⟩ hbad | exact absurd ⟨by assumption, by assumption, by assumption⟩ hbad | exact absurd ⟨by assumption, by assumption, by assumption, by assumption⟩ hbad | exact absurd (by assumption) hbad
set_option maxHeartbeats 4000000 in
theorem c_X7_plan_ok {l : Launch} {g : GC} {V : Mem} {L : LMem} {k nl ns : Nat} (hk : k < nl) (hR : RR nl ns V) {n w : Nat} (hn : n ≤ 60) (hw : w < 4) : MC l yX7_plan cX7_plan 4 (some .int) 6 g V L [.ref (ad g 224), .int (nI k), .int (nI n), .int (nI w)] (some (.int (rPlan (rAside (thr 0 V)) k ns n w))) (rAside (thr 0 V)) L := by
  refine MC.of [some (.ref (ad g 224)), some (.int (nI k)), some (.int (nI n)), some (.int (nI w))] (by decide +kernel) rfl (Nat.le_of_ble_eq_true rfl) (fun p e s m args below meth c C => ?_)
  have hV0 : RR nl ns (mset V 224 6 (nI 0)) := hR.put (Or.inl (by decide))
  have hk8 : k < 8 := Nat.lt_of_lt_of_le hk hR.1
  refine j_aload_n C dX7_plan_0 rfl rfl ?_
  refine j_iconst (v := (nI 0)) C dX7_plan_1 (by decide) ?_
  refine jp_LeaseBookModel_thrown C (by first | assumption | rfl | exact kd_sums (by assumption) | exact kd_st1 (by assumption) | exact kd_st2 (by assumption) | exact kd_ls (by first | assumption | rfl) (by assumption) | exact kd_sb (by first | assumption | rfl) (by assumption) | exact kd_sv (by assumption)) qf_X7_25 dX7_plan_2 ?_
  refine j_aload_n C dX7_plan_5 rfl rfl ?_
  refine j_iload_n C dX7_plan_6 rfl rfl ?_
  refine j_callV1r C (oa_X7 (by first | assumption | rfl | exact kd_sums (by assumption) | exact kd_st1 (by assumption) | exact kd_st2 (by assumption) | exact kd_ls (by first | assumption | rfl) (by assumption) | exact kd_sb (by first | assumption | rfl) (by assumption) | exact kd_sv (by assumption))) rfl rfl (c_X7_isLease) qm_X7_84 qi_X7_isLease qs_X7_isLease qn_X7 qc_X7_isLease fit_X7_isLease ⟨Nat.le_of_ble_eq_true rfl, Nat.le_of_ble_eq_true rfl, Nat.le_of_ble_eq_true rfl, Nat.le_of_ble_eq_true rfl⟩ (Nat.le_of_ble_eq_true rfl) dX7_plan_7 ?_
  refine j_if_ne (tgt := 19) C dX7_plan_10 (by decide) (fun h10 => ?_) (fun h10 => ?_)
  · replace h10 := b2i_1 h10
    refine j_iload_n C dX7_plan_19 rfl rfl ?_
    refine j_iconst (v := (nI 0)) C dX7_plan_20 (by decide) ?_
    refine j_bipush (v := (nI 60)) C dX7_plan_21 (by decide) ?_
    refine j_callS3r C (c_X7_in) qm_X7_42 qt_X7_in qn_X7 qc_X7_in fit_X7_in ⟨Nat.le_of_ble_eq_true rfl, Nat.le_of_ble_eq_true rfl, Nat.le_of_ble_eq_true rfl, Nat.le_of_ble_eq_true rfl⟩ (Nat.le_of_ble_eq_true rfl) dX7_plan_23 ?_
    refine j_if_eq (tgt := 48) C dX7_plan_26 (by decide) (fun h26 => ?_) (fun h26 => ?_)
    · replace h26 := b2i_0 h26
      exfalso
      first | contradiction | exact absurd (isL hV0 hk) (by assumption) | exact absurd ⟨by assumption, by assumption⟩ hbad | exact absurd ⟨by assumption, by assumption, by assumption⟩ hbad | exact absurd ⟨by assumption, by assumption, by assumption, by assumption⟩ hbad | exact absurd (show nI 0 ≤ nI n ∧ nI n ≤ nI 60 from inN (by omega) (by omega) (by omega)) (by assumption) | exact absurd (show nI 0 ≤ nI w ∧ nI w ≤ nI 3 from inN (by omega) (by omega) (by omega)) (by assumption)
    · replace h26 := b2i_1 h26
      refine j_iload_n C dX7_plan_29 rfl rfl ?_
      refine j_iconst (v := (nI 0)) C dX7_plan_30 (by decide) ?_
      refine j_iconst (v := (nI 3)) C dX7_plan_31 (by decide) ?_
      refine j_callS3r C (c_X7_in) qm_X7_42 qt_X7_in qn_X7 qc_X7_in fit_X7_in ⟨Nat.le_of_ble_eq_true rfl, Nat.le_of_ble_eq_true rfl, Nat.le_of_ble_eq_true rfl, Nat.le_of_ble_eq_true rfl⟩ (Nat.le_of_ble_eq_true rfl) dX7_plan_32 ?_
      refine j_if_eq (tgt := 48) C dX7_plan_35 (by decide) (fun h35 => ?_) (fun h35 => ?_)
      · replace h35 := b2i_0 h35
        exfalso
        first | contradiction | exact absurd (isL hV0 hk) (by assumption) | exact absurd ⟨by assumption, by assumption⟩ hbad | exact absurd ⟨by assumption, by assumption, by assumption⟩ hbad | exact absurd ⟨by assumption, by assumption, by assumption, by assumption⟩ hbad | exact absurd (show nI 0 ≤ nI n ∧ nI n ≤ nI 60 from inN (by omega) (by omega) (by omega)) (by assumption) | exact absurd (show nI 0 ≤ nI w ∧ nI w ≤ nI 3 from inN (by omega) (by omega) (by omega)) (by assumption)
      · replace h35 := b2i_1 h35
        refine j_aload_n C dX7_plan_38 rfl rfl ?_
        refine j_iload_n C dX7_plan_39 rfl rfl ?_
        refine j_iload_n C dX7_plan_40 rfl rfl ?_
        refine j_iload_n C dX7_plan_41 rfl rfl ?_
        refine j_callV3r C (oa_X7 (by first | assumption | rfl | exact kd_sums (by assumption) | exact kd_st1 (by assumption) | exact kd_st2 (by assumption) | exact kd_ls (by first | assumption | rfl) (by assumption) | exact kd_sb (by first | assumption | rfl) (by assumption) | exact kd_sv (by assumption))) rfl rfl (c_X7_planOf hk hn hw hV0) qm_X7_170 qi_X7_planOf qs_X7_planOf qn_X7 qc_X7_planOf fit_X7_planOf ⟨Nat.le_of_ble_eq_true rfl, Nat.le_of_ble_eq_true rfl, Nat.le_of_ble_eq_true rfl, Nat.le_of_ble_eq_true rfl⟩ (Nat.le_of_ble_eq_true rfl) dX7_plan_42 ?_
        refine j_goto (tgt := 53) C dX7_plan_45 (by decide) ?_
        exact j_iret C dX7_plan_53 (by rfl) (by rfl) (by rfl)
  · replace h10 := b2i_0 h10
    exfalso
    first | contradiction | exact absurd (isL hV0 hk) (by assumption) | exact absurd ⟨by assumption, by assumption⟩ hbad | exact absurd ⟨by assumption, by assumption, by assumption⟩ hbad | exact absurd ⟨by assumption, by assumption, by assumption, by assumption⟩ hbad | exact absurd (show nI 0 ≤ nI n ∧ nI n ≤ nI 60 from inN (by omega) (by omega) (by omega)) (by assumption) | exact absurd (show nI 0 ≤ nI w ∧ nI w ≤ nI 3 from inN (by omega) (by omega) (by omega)) (by assumption)
set_option maxHeartbeats 4000000 in
theorem c_X7_paymentFor_1 {l : Launch} {g : GC} {V : Mem} {L : LMem} {x : Int32} {li : Int32} (hbad : ¬ (nI 0 ≤ x ∧ x ≤ V 225 0 - nI 1)) : MC l yX7_paymentFor cX7_paymentFor 3 (some .int) 6 g V L [.ref (ad g 224), .int x, .int li] (some (.int 0)) (thr 1 (thr 0 V)) L := by
  refine MC.of [some (.ref (ad g 224)), some (.int x), some (.int li)] (by decide +kernel) rfl (Nat.le_of_ble_eq_true rfl) (fun p e s m args below meth c C => ?_)
  skip
  refine j_aload_n C dX7_paymentFor_0 rfl rfl ?_
  refine j_iconst (v := (nI 0)) C dX7_paymentFor_1 (by decide) ?_
  refine jp_LeaseBookModel_thrown C (by first | assumption | rfl | exact kd_sums (by assumption) | exact kd_st1 (by assumption) | exact kd_st2 (by assumption) | exact kd_ls (by first | assumption | rfl) (by assumption) | exact kd_sb (by first | assumption | rfl) (by assumption) | exact kd_sv (by assumption)) qf_X7_25 dX7_paymentFor_2 ?_
  refine j_aload_n C dX7_paymentFor_5 rfl rfl ?_
  refine j_iload_n C dX7_paymentFor_6 rfl rfl ?_
  refine j_callV1r C (oa_X7 (by first | assumption | rfl | exact kd_sums (by assumption) | exact kd_st1 (by assumption) | exact kd_st2 (by assumption) | exact kd_ls (by first | assumption | rfl) (by assumption) | exact kd_sb (by first | assumption | rfl) (by assumption) | exact kd_sv (by assumption))) rfl rfl (c_X7_isLease) qm_X7_84 qi_X7_isLease qs_X7_isLease qn_X7 qc_X7_isLease fit_X7_isLease ⟨Nat.le_of_ble_eq_true rfl, Nat.le_of_ble_eq_true rfl, Nat.le_of_ble_eq_true rfl, Nat.le_of_ble_eq_true rfl⟩ (Nat.le_of_ble_eq_true rfl) dX7_paymentFor_7 ?_
  refine j_if_ne (tgt := 19) C dX7_paymentFor_10 (by decide) (fun h10 => ?_) (fun h10 => ?_)
  · replace h10 := b2i_1 h10
    exfalso
    first | contradiction | exact absurd (isL hV0 hk) (by assumption) | exact absurd ⟨by assumption, by assumption⟩ hbad | exact absurd ⟨by assumption, by assumption, by assumption⟩ hbad | exact absurd ⟨by assumption, by assumption, by assumption, by assumption⟩ hbad | exact absurd (by assumption) hbad
  · replace h10 := b2i_0 h10
    refine j_aload_n C dX7_paymentFor_13 rfl rfl ?_
    refine j_iconst (v := (nI 1)) C dX7_paymentFor_14 (by decide) ?_
    refine j_callV1r C (oa_X7 (by first | assumption | rfl | exact kd_sums (by assumption) | exact kd_st1 (by assumption) | exact kd_st2 (by assumption) | exact kd_ls (by first | assumption | rfl) (by assumption) | exact kd_sb (by first | assumption | rfl) (by assumption) | exact kd_sv (by assumption))) rfl rfl (c_X7_fails) qm_X7_67 qi_X7_fails qs_X7_fails qn_X7 qc_X7_fails fit_X7_fails ⟨Nat.le_of_ble_eq_true rfl, Nat.le_of_ble_eq_true rfl, Nat.le_of_ble_eq_true rfl, Nat.le_of_ble_eq_true rfl⟩ (Nat.le_of_ble_eq_true rfl) dX7_paymentFor_15 ?_
    exact j_iret C dX7_paymentFor_18 (by rfl) (by rfl) (by rfl)
set_option maxHeartbeats 4000000 in
theorem c_X7_paymentFor_2 {l : Launch} {g : GC} {V : Mem} {L : LMem} {k nl ns : Nat} (hk : k < nl) (hR : RR nl ns V) {li : Int32} (hbad : ¬ (nI 0 ≤ li ∧ li ≤ nI 10000000)) : MC l yX7_paymentFor cX7_paymentFor 3 (some .int) 6 g V L [.ref (ad g 224), .int (nI k), .int li] (some (.int 0)) (thr 2 (thr 0 V)) L := by
  refine MC.of [some (.ref (ad g 224)), some (.int (nI k)), some (.int li)] (by decide +kernel) rfl (Nat.le_of_ble_eq_true rfl) (fun p e s m args below meth c C => ?_)
  have hV0 : RR nl ns (mset V 224 6 (nI 0)) := hR.put (Or.inl (by decide))
  have hk8 : k < 8 := Nat.lt_of_lt_of_le hk hR.1
  refine j_aload_n C dX7_paymentFor_0 rfl rfl ?_
  refine j_iconst (v := (nI 0)) C dX7_paymentFor_1 (by decide) ?_
  refine jp_LeaseBookModel_thrown C (by first | assumption | rfl | exact kd_sums (by assumption) | exact kd_st1 (by assumption) | exact kd_st2 (by assumption) | exact kd_ls (by first | assumption | rfl) (by assumption) | exact kd_sb (by first | assumption | rfl) (by assumption) | exact kd_sv (by assumption)) qf_X7_25 dX7_paymentFor_2 ?_
  refine j_aload_n C dX7_paymentFor_5 rfl rfl ?_
  refine j_iload_n C dX7_paymentFor_6 rfl rfl ?_
  refine j_callV1r C (oa_X7 (by first | assumption | rfl | exact kd_sums (by assumption) | exact kd_st1 (by assumption) | exact kd_st2 (by assumption) | exact kd_ls (by first | assumption | rfl) (by assumption) | exact kd_sb (by first | assumption | rfl) (by assumption) | exact kd_sv (by assumption))) rfl rfl (c_X7_isLease) qm_X7_84 qi_X7_isLease qs_X7_isLease qn_X7 qc_X7_isLease fit_X7_isLease ⟨Nat.le_of_ble_eq_true rfl, Nat.le_of_ble_eq_true rfl, Nat.le_of_ble_eq_true rfl, Nat.le_of_ble_eq_true rfl⟩ (Nat.le_of_ble_eq_true rfl) dX7_paymentFor_7 ?_
  refine j_if_ne (tgt := 19) C dX7_paymentFor_10 (by decide) (fun h10 => ?_) (fun h10 => ?_)
  · replace h10 := b2i_1 h10
    refine j_iload_n C dX7_paymentFor_19 rfl rfl ?_
    refine j_iconst (v := (nI 0)) C dX7_paymentFor_20 (by decide) ?_
    refine j_ldc (v := nI 10000000) C qk_X7_177 dX7_paymentFor_21 ?_
    refine j_callS3r C (c_X7_in) qm_X7_42 qt_X7_in qn_X7 qc_X7_in fit_X7_in ⟨Nat.le_of_ble_eq_true rfl, Nat.le_of_ble_eq_true rfl, Nat.le_of_ble_eq_true rfl, Nat.le_of_ble_eq_true rfl⟩ (Nat.le_of_ble_eq_true rfl) dX7_paymentFor_23 ?_
    refine j_if_eq (tgt := 38) C dX7_paymentFor_26 (by decide) (fun h26 => ?_) (fun h26 => ?_)
    · replace h26 := b2i_0 h26
      refine j_aload_n C dX7_paymentFor_38 rfl rfl ?_
      refine j_iconst (v := (nI 2)) C dX7_paymentFor_39 (by decide) ?_
      refine j_callV1r C (oa_X7 (by first | assumption | rfl | exact kd_sums (by assumption) | exact kd_st1 (by assumption) | exact kd_st2 (by assumption) | exact kd_ls (by first | assumption | rfl) (by assumption) | exact kd_sb (by first | assumption | rfl) (by assumption) | exact kd_sv (by assumption))) rfl rfl (c_X7_fails) qm_X7_67 qi_X7_fails qs_X7_fails qn_X7 qc_X7_fails fit_X7_fails ⟨Nat.le_of_ble_eq_true rfl, Nat.le_of_ble_eq_true rfl, Nat.le_of_ble_eq_true rfl, Nat.le_of_ble_eq_true rfl⟩ (Nat.le_of_ble_eq_true rfl) dX7_paymentFor_40 ?_
      exact j_iret C dX7_paymentFor_43 (by rfl) (by rfl) (by rfl)
    · replace h26 := b2i_1 h26
      exfalso
      first | contradiction | exact absurd (isL hV0 hk) (by assumption) | exact absurd ⟨by assumption, by assumption⟩ hbad | exact absurd ⟨by assumption, by assumption, by assumption⟩ hbad | exact absurd ⟨by assumption, by assumption, by assumption, by assumption⟩ hbad | exact absurd (by assumption) hbad
  · replace h10 := b2i_0 h10
    exfalso
    first | contradiction | exact absurd (isL hV0 hk) (by assumption) | exact absurd ⟨by assumption, by assumption⟩ hbad | exact absurd ⟨by assumption, by assumption, by assumption⟩ hbad | exact absurd ⟨by assumption, by assumption, by assumption, by assumption⟩ hbad | exact absurd (by assumption) hbad
set_option maxHeartbeats 4000000 in
theorem c_X7_paymentFor_ok {l : Launch} {g : GC} {V : Mem} {L : LMem} {k nl ns : Nat} (hk : k < nl) (hR : RR nl ns V) {li : Int32} (hl : nI 0 ≤ li ∧ li ≤ nI 10000000) : MC l yX7_paymentFor cX7_paymentFor 3 (some .int) 6 g V L [.ref (ad g 224), .int (nI k), .int li] (some (.int (rPay (thr 0 V) k li))) (thr 0 V) L := by
  refine MC.of [some (.ref (ad g 224)), some (.int (nI k)), some (.int li)] (by decide +kernel) rfl (Nat.le_of_ble_eq_true rfl) (fun p e s m args below meth c C => ?_)
  have hV0 : RR nl ns (mset V 224 6 (nI 0)) := hR.put (Or.inl (by decide))
  have hk8 : k < 8 := Nat.lt_of_lt_of_le hk hR.1
  refine j_aload_n C dX7_paymentFor_0 rfl rfl ?_
  refine j_iconst (v := (nI 0)) C dX7_paymentFor_1 (by decide) ?_
  refine jp_LeaseBookModel_thrown C (by first | assumption | rfl | exact kd_sums (by assumption) | exact kd_st1 (by assumption) | exact kd_st2 (by assumption) | exact kd_ls (by first | assumption | rfl) (by assumption) | exact kd_sb (by first | assumption | rfl) (by assumption) | exact kd_sv (by assumption)) qf_X7_25 dX7_paymentFor_2 ?_
  refine j_aload_n C dX7_paymentFor_5 rfl rfl ?_
  refine j_iload_n C dX7_paymentFor_6 rfl rfl ?_
  refine j_callV1r C (oa_X7 (by first | assumption | rfl | exact kd_sums (by assumption) | exact kd_st1 (by assumption) | exact kd_st2 (by assumption) | exact kd_ls (by first | assumption | rfl) (by assumption) | exact kd_sb (by first | assumption | rfl) (by assumption) | exact kd_sv (by assumption))) rfl rfl (c_X7_isLease) qm_X7_84 qi_X7_isLease qs_X7_isLease qn_X7 qc_X7_isLease fit_X7_isLease ⟨Nat.le_of_ble_eq_true rfl, Nat.le_of_ble_eq_true rfl, Nat.le_of_ble_eq_true rfl, Nat.le_of_ble_eq_true rfl⟩ (Nat.le_of_ble_eq_true rfl) dX7_paymentFor_7 ?_
  refine j_if_ne (tgt := 19) C dX7_paymentFor_10 (by decide) (fun h10 => ?_) (fun h10 => ?_)
  · replace h10 := b2i_1 h10
    refine j_iload_n C dX7_paymentFor_19 rfl rfl ?_
    refine j_iconst (v := (nI 0)) C dX7_paymentFor_20 (by decide) ?_
    refine j_ldc (v := nI 10000000) C qk_X7_177 dX7_paymentFor_21 ?_
    refine j_callS3r C (c_X7_in) qm_X7_42 qt_X7_in qn_X7 qc_X7_in fit_X7_in ⟨Nat.le_of_ble_eq_true rfl, Nat.le_of_ble_eq_true rfl, Nat.le_of_ble_eq_true rfl, Nat.le_of_ble_eq_true rfl⟩ (Nat.le_of_ble_eq_true rfl) dX7_paymentFor_23 ?_
    refine j_if_eq (tgt := 38) C dX7_paymentFor_26 (by decide) (fun h26 => ?_) (fun h26 => ?_)
    · replace h26 := b2i_0 h26
      exfalso
      first | contradiction | exact absurd (isL hV0 hk) (by assumption) | exact absurd ⟨by assumption, by assumption⟩ hbad | exact absurd ⟨by assumption, by assumption, by assumption⟩ hbad | exact absurd ⟨by assumption, by assumption, by assumption, by assumption⟩ hbad
    · replace h26 := b2i_1 h26
      refine j_aload_n C dX7_paymentFor_29 rfl rfl ?_
      refine j_iload_n C dX7_paymentFor_30 rfl rfl ?_
      refine j_iload_n C dX7_paymentFor_31 rfl rfl ?_
      refine j_callV2r C (oa_X7 (by first | assumption | rfl | exact kd_sums (by assumption) | exact kd_st1 (by assumption) | exact kd_st2 (by assumption) | exact kd_ls (by first | assumption | rfl) (by assumption) | exact kd_sb (by first | assumption | rfl) (by assumption) | exact kd_sv (by assumption))) rfl rfl (c_X7_paymentOf hk hV0) qm_X7_178 qi_X7_paymentOf qs_X7_paymentOf qn_X7 qc_X7_paymentOf fit_X7_paymentOf ⟨Nat.le_of_ble_eq_true rfl, Nat.le_of_ble_eq_true rfl, Nat.le_of_ble_eq_true rfl, Nat.le_of_ble_eq_true rfl⟩ (Nat.le_of_ble_eq_true rfl) dX7_paymentFor_32 ?_
      refine j_goto (tgt := 43) C dX7_paymentFor_35 (by decide) ?_
      exact j_iret C dX7_paymentFor_43 (by rfl) (by rfl) (by rfl)
  · replace h10 := b2i_0 h10
    exfalso
    first | contradiction | exact absurd (isL hV0 hk) (by assumption) | exact absurd ⟨by assumption, by assumption⟩ hbad | exact absurd ⟨by assumption, by assumption, by assumption⟩ hbad | exact absurd ⟨by assumption, by assumption, by assumption, by assumption⟩ hbad
set_option maxHeartbeats 4000000 in
theorem c_X7_fairReceipt_1 {l : Launch} {g : GC} {V : Mem} {L : LMem} {x : Int32} {t n1 : Int32} (hbad : ¬ (nI 0 ≤ x ∧ x ≤ V 225 0 - nI 1)) : MC l yX7_fairReceipt cX7_fairReceipt 4 (some .int) 6 g V L [.ref (ad g 224), .int x, .int t, .int n1] (some (.int 0)) (thr 1 (thr 0 V)) L := by
  refine MC.of [some (.ref (ad g 224)), some (.int x), some (.int t), some (.int n1)] (by decide +kernel) rfl (Nat.le_of_ble_eq_true rfl) (fun p e s m args below meth c C => ?_)
  skip
  refine j_aload_n C dX7_fairReceipt_0 rfl rfl ?_
  refine j_iconst (v := (nI 0)) C dX7_fairReceipt_1 (by decide) ?_
  refine jp_LeaseBookModel_thrown C (by first | assumption | rfl | exact kd_sums (by assumption) | exact kd_st1 (by assumption) | exact kd_st2 (by assumption) | exact kd_ls (by first | assumption | rfl) (by assumption) | exact kd_sb (by first | assumption | rfl) (by assumption) | exact kd_sv (by assumption)) qf_X7_25 dX7_fairReceipt_2 ?_
  refine j_aload_n C dX7_fairReceipt_5 rfl rfl ?_
  refine j_iload_n C dX7_fairReceipt_6 rfl rfl ?_
  refine j_callV1r C (oa_X7 (by first | assumption | rfl | exact kd_sums (by assumption) | exact kd_st1 (by assumption) | exact kd_st2 (by assumption) | exact kd_ls (by first | assumption | rfl) (by assumption) | exact kd_sb (by first | assumption | rfl) (by assumption) | exact kd_sv (by assumption))) rfl rfl (c_X7_isLease) qm_X7_84 qi_X7_isLease qs_X7_isLease qn_X7 qc_X7_isLease fit_X7_isLease ⟨Nat.le_of_ble_eq_true rfl, Nat.le_of_ble_eq_true rfl, Nat.le_of_ble_eq_true rfl, Nat.le_of_ble_eq_true rfl⟩ (Nat.le_of_ble_eq_true rfl) dX7_fairReceipt_7 ?_
  refine j_if_ne (tgt := 19) C dX7_fairReceipt_10 (by decide) (fun h10 => ?_) (fun h10 => ?_)
  · replace h10 := b2i_1 h10
    exfalso
    first | contradiction | exact absurd (isL hV0 hk) (by assumption) | exact absurd ⟨by assumption, by assumption⟩ hbad | exact absurd ⟨by assumption, by assumption, by assumption⟩ hbad | exact absurd ⟨by assumption, by assumption, by assumption, by assumption⟩ hbad | exact absurd (by assumption) hbad
  · replace h10 := b2i_0 h10
    refine j_aload_n C dX7_fairReceipt_13 rfl rfl ?_
    refine j_iconst (v := (nI 1)) C dX7_fairReceipt_14 (by decide) ?_
    refine j_callV1r C (oa_X7 (by first | assumption | rfl | exact kd_sums (by assumption) | exact kd_st1 (by assumption) | exact kd_st2 (by assumption) | exact kd_ls (by first | assumption | rfl) (by assumption) | exact kd_sb (by first | assumption | rfl) (by assumption) | exact kd_sv (by assumption))) rfl rfl (c_X7_fails) qm_X7_67 qi_X7_fails qs_X7_fails qn_X7 qc_X7_fails fit_X7_fails ⟨Nat.le_of_ble_eq_true rfl, Nat.le_of_ble_eq_true rfl, Nat.le_of_ble_eq_true rfl, Nat.le_of_ble_eq_true rfl⟩ (Nat.le_of_ble_eq_true rfl) dX7_fairReceipt_15 ?_
    exact j_iret C dX7_fairReceipt_18 (by rfl) (by rfl) (by rfl)
set_option maxHeartbeats 4000000 in
theorem c_X7_fairReceipt_2 {l : Launch} {g : GC} {V : Mem} {L : LMem} {k nl ns : Nat} (hk : k < nl) (hR : RR nl ns V) {t n1 : Int32} (hbad : ¬ (partR t ∧ termR n1)) : MC l yX7_fairReceipt cX7_fairReceipt 4 (some .int) 6 g V L [.ref (ad g 224), .int (nI k), .int t, .int n1] (some (.int 0)) (thr 2 (thr 0 V)) L := by
  refine MC.of [some (.ref (ad g 224)), some (.int (nI k)), some (.int t), some (.int n1)] (by decide +kernel) rfl (Nat.le_of_ble_eq_true rfl) (fun p e s m args below meth c C => ?_)
  have hV0 : RR nl ns (mset V 224 6 (nI 0)) := hR.put (Or.inl (by decide))
  have hk8 : k < 8 := Nat.lt_of_lt_of_le hk hR.1
  refine j_aload_n C dX7_fairReceipt_0 rfl rfl ?_
  refine j_iconst (v := (nI 0)) C dX7_fairReceipt_1 (by decide) ?_
  refine jp_LeaseBookModel_thrown C (by first | assumption | rfl | exact kd_sums (by assumption) | exact kd_st1 (by assumption) | exact kd_st2 (by assumption) | exact kd_ls (by first | assumption | rfl) (by assumption) | exact kd_sb (by first | assumption | rfl) (by assumption) | exact kd_sv (by assumption)) qf_X7_25 dX7_fairReceipt_2 ?_
  refine j_aload_n C dX7_fairReceipt_5 rfl rfl ?_
  refine j_iload_n C dX7_fairReceipt_6 rfl rfl ?_
  refine j_callV1r C (oa_X7 (by first | assumption | rfl | exact kd_sums (by assumption) | exact kd_st1 (by assumption) | exact kd_st2 (by assumption) | exact kd_ls (by first | assumption | rfl) (by assumption) | exact kd_sb (by first | assumption | rfl) (by assumption) | exact kd_sv (by assumption))) rfl rfl (c_X7_isLease) qm_X7_84 qi_X7_isLease qs_X7_isLease qn_X7 qc_X7_isLease fit_X7_isLease ⟨Nat.le_of_ble_eq_true rfl, Nat.le_of_ble_eq_true rfl, Nat.le_of_ble_eq_true rfl, Nat.le_of_ble_eq_true rfl⟩ (Nat.le_of_ble_eq_true rfl) dX7_fairReceipt_7 ?_
  refine j_if_ne (tgt := 19) C dX7_fairReceipt_10 (by decide) (fun h10 => ?_) (fun h10 => ?_)
  · replace h10 := b2i_1 h10
    refine j_iload_n C dX7_fairReceipt_19 rfl rfl ?_
    refine j_callS1r C (c_X7_isPart) qm_X7_93 qt_X7_isPart qn_X7 qc_X7_isPart fit_X7_isPart ⟨Nat.le_of_ble_eq_true rfl, Nat.le_of_ble_eq_true rfl, Nat.le_of_ble_eq_true rfl, Nat.le_of_ble_eq_true rfl⟩ (Nat.le_of_ble_eq_true rfl) dX7_fairReceipt_20 ?_
    refine j_if_eq (tgt := 43) C dX7_fairReceipt_23 (by decide) (fun h23 => ?_) (fun h23 => ?_)
    · replace h23 := b2i_0 h23
      refine j_aload_n C dX7_fairReceipt_43 rfl rfl ?_
      refine j_iconst (v := (nI 2)) C dX7_fairReceipt_44 (by decide) ?_
      refine j_callV1r C (oa_X7 (by first | assumption | rfl | exact kd_sums (by assumption) | exact kd_st1 (by assumption) | exact kd_st2 (by assumption) | exact kd_ls (by first | assumption | rfl) (by assumption) | exact kd_sb (by first | assumption | rfl) (by assumption) | exact kd_sv (by assumption))) rfl rfl (c_X7_fails) qm_X7_67 qi_X7_fails qs_X7_fails qn_X7 qc_X7_fails fit_X7_fails ⟨Nat.le_of_ble_eq_true rfl, Nat.le_of_ble_eq_true rfl, Nat.le_of_ble_eq_true rfl, Nat.le_of_ble_eq_true rfl⟩ (Nat.le_of_ble_eq_true rfl) dX7_fairReceipt_45 ?_
      exact j_iret C dX7_fairReceipt_48 (by rfl) (by rfl) (by rfl)
    · replace h23 := b2i_1 h23
      refine j_iload_n C dX7_fairReceipt_26 rfl rfl ?_
      refine j_callS1r C (c_X7_isTerm) qm_X7_61 qt_X7_isTerm qn_X7 qc_X7_isTerm fit_X7_isTerm ⟨Nat.le_of_ble_eq_true rfl, Nat.le_of_ble_eq_true rfl, Nat.le_of_ble_eq_true rfl, Nat.le_of_ble_eq_true rfl⟩ (Nat.le_of_ble_eq_true rfl) dX7_fairReceipt_27 ?_
      refine j_if_eq (tgt := 43) C dX7_fairReceipt_30 (by decide) (fun h30 => ?_) (fun h30 => ?_)
      · replace h30 := b2i_0 h30
        refine j_aload_n C dX7_fairReceipt_43 rfl rfl ?_
        refine j_iconst (v := (nI 2)) C dX7_fairReceipt_44 (by decide) ?_
        refine j_callV1r C (oa_X7 (by first | assumption | rfl | exact kd_sums (by assumption) | exact kd_st1 (by assumption) | exact kd_st2 (by assumption) | exact kd_ls (by first | assumption | rfl) (by assumption) | exact kd_sb (by first | assumption | rfl) (by assumption) | exact kd_sv (by assumption))) rfl rfl (c_X7_fails) qm_X7_67 qi_X7_fails qs_X7_fails qn_X7 qc_X7_fails fit_X7_fails ⟨Nat.le_of_ble_eq_true rfl, Nat.le_of_ble_eq_true rfl, Nat.le_of_ble_eq_true rfl, Nat.le_of_ble_eq_true rfl⟩ (Nat.le_of_ble_eq_true rfl) dX7_fairReceipt_45 ?_
        exact j_iret C dX7_fairReceipt_48 (by rfl) (by rfl) (by rfl)
      · replace h30 := b2i_1 h30
        exfalso
        first | contradiction | exact absurd (isL hV0 hk) (by assumption) | exact absurd ⟨by assumption, by assumption⟩ hbad | exact absurd ⟨by assumption, by assumption, by assumption⟩ hbad | exact absurd ⟨by assumption, by assumption, by assumption, by assumption⟩ hbad | exact absurd (by assumption) hbad
  · replace h10 := b2i_0 h10
    exfalso
    first | contradiction | exact absurd (isL hV0 hk) (by assumption) | exact absurd ⟨by assumption, by assumption⟩ hbad | exact absurd ⟨by assumption, by assumption, by assumption⟩ hbad | exact absurd ⟨by assumption, by assumption, by assumption, by assumption⟩ hbad | exact absurd (by assumption) hbad
set_option maxHeartbeats 4000000 in
theorem c_X7_fairReceipt_ok {l : Launch} {g : GC} {V : Mem} {L : LMem} {k nl ns : Nat} (hk : k < nl) (hR : RR nl ns V) {t n1 : Int32} (h1 : partR t) (h2 : termR n1) : MC l yX7_fairReceipt cX7_fairReceipt 4 (some .int) 6 g V L [.ref (ad g 224), .int (nI k), .int t, .int n1] (some (.int (rRec (thr 0 V) k ns t n1))) (thr 0 V) L := by
  refine MC.of [some (.ref (ad g 224)), some (.int (nI k)), some (.int t), some (.int n1)] (by decide +kernel) rfl (Nat.le_of_ble_eq_true rfl) (fun p e s m args below meth c C => ?_)
  have hV0 : RR nl ns (mset V 224 6 (nI 0)) := hR.put (Or.inl (by decide))
  have hk8 : k < 8 := Nat.lt_of_lt_of_le hk hR.1
  refine j_aload_n C dX7_fairReceipt_0 rfl rfl ?_
  refine j_iconst (v := (nI 0)) C dX7_fairReceipt_1 (by decide) ?_
  refine jp_LeaseBookModel_thrown C (by first | assumption | rfl | exact kd_sums (by assumption) | exact kd_st1 (by assumption) | exact kd_st2 (by assumption) | exact kd_ls (by first | assumption | rfl) (by assumption) | exact kd_sb (by first | assumption | rfl) (by assumption) | exact kd_sv (by assumption)) qf_X7_25 dX7_fairReceipt_2 ?_
  refine j_aload_n C dX7_fairReceipt_5 rfl rfl ?_
  refine j_iload_n C dX7_fairReceipt_6 rfl rfl ?_
  refine j_callV1r C (oa_X7 (by first | assumption | rfl | exact kd_sums (by assumption) | exact kd_st1 (by assumption) | exact kd_st2 (by assumption) | exact kd_ls (by first | assumption | rfl) (by assumption) | exact kd_sb (by first | assumption | rfl) (by assumption) | exact kd_sv (by assumption))) rfl rfl (c_X7_isLease) qm_X7_84 qi_X7_isLease qs_X7_isLease qn_X7 qc_X7_isLease fit_X7_isLease ⟨Nat.le_of_ble_eq_true rfl, Nat.le_of_ble_eq_true rfl, Nat.le_of_ble_eq_true rfl, Nat.le_of_ble_eq_true rfl⟩ (Nat.le_of_ble_eq_true rfl) dX7_fairReceipt_7 ?_
  refine j_if_ne (tgt := 19) C dX7_fairReceipt_10 (by decide) (fun h10 => ?_) (fun h10 => ?_)
  · replace h10 := b2i_1 h10
    refine j_iload_n C dX7_fairReceipt_19 rfl rfl ?_
    refine j_callS1r C (c_X7_isPart) qm_X7_93 qt_X7_isPart qn_X7 qc_X7_isPart fit_X7_isPart ⟨Nat.le_of_ble_eq_true rfl, Nat.le_of_ble_eq_true rfl, Nat.le_of_ble_eq_true rfl, Nat.le_of_ble_eq_true rfl⟩ (Nat.le_of_ble_eq_true rfl) dX7_fairReceipt_20 ?_
    refine j_if_eq (tgt := 43) C dX7_fairReceipt_23 (by decide) (fun h23 => ?_) (fun h23 => ?_)
    · replace h23 := b2i_0 h23
      exfalso
      first | contradiction | exact absurd (isL hV0 hk) (by assumption) | exact absurd ⟨by assumption, by assumption⟩ hbad | exact absurd ⟨by assumption, by assumption, by assumption⟩ hbad | exact absurd ⟨by assumption, by assumption, by assumption, by assumption⟩ hbad
    · replace h23 := b2i_1 h23
      refine j_iload_n C dX7_fairReceipt_26 rfl rfl ?_
      refine j_callS1r C (c_X7_isTerm) qm_X7_61 qt_X7_isTerm qn_X7 qc_X7_isTerm fit_X7_isTerm ⟨Nat.le_of_ble_eq_true rfl, Nat.le_of_ble_eq_true rfl, Nat.le_of_ble_eq_true rfl, Nat.le_of_ble_eq_true rfl⟩ (Nat.le_of_ble_eq_true rfl) dX7_fairReceipt_27 ?_
      refine j_if_eq (tgt := 43) C dX7_fairReceipt_30 (by decide) (fun h30 => ?_) (fun h30 => ?_)
      · replace h30 := b2i_0 h30
        exfalso
        first | contradiction | exact absurd (isL hV0 hk) (by assumption) | exact absurd ⟨by assumption, by assumption⟩ hbad | exact absurd ⟨by assumption, by assumption, by assumption⟩ hbad | exact absurd ⟨by assumption, by assumption, by assumption, by assumption⟩ hbad
      · replace h30 := b2i_1 h30
        refine j_aload_n C dX7_fairReceipt_33 rfl rfl ?_
        refine j_iload_n C dX7_fairReceipt_34 rfl rfl ?_
        refine j_iload_n C dX7_fairReceipt_35 rfl rfl ?_
        refine j_iload_n C dX7_fairReceipt_36 rfl rfl ?_
        refine j_callV3r C (oa_X7 (by first | assumption | rfl | exact kd_sums (by assumption) | exact kd_st1 (by assumption) | exact kd_st2 (by assumption) | exact kd_ls (by first | assumption | rfl) (by assumption) | exact kd_sb (by first | assumption | rfl) (by assumption) | exact kd_sv (by assumption))) rfl rfl (c_X7_receiptOf hk hV0) qm_X7_184 qi_X7_receiptOf qs_X7_receiptOf qn_X7 qc_X7_receiptOf fit_X7_receiptOf ⟨Nat.le_of_ble_eq_true rfl, Nat.le_of_ble_eq_true rfl, Nat.le_of_ble_eq_true rfl, Nat.le_of_ble_eq_true rfl⟩ (Nat.le_of_ble_eq_true rfl) dX7_fairReceipt_37 ?_
        refine j_goto (tgt := 48) C dX7_fairReceipt_40 (by decide) ?_
        exact j_iret C dX7_fairReceipt_48 (by rfl) (by rfl) (by rfl)
  · replace h10 := b2i_0 h10
    exfalso
    first | contradiction | exact absurd (isL hV0 hk) (by assumption) | exact absurd ⟨by assumption, by assumption⟩ hbad | exact absurd ⟨by assumption, by assumption, by assumption⟩ hbad | exact absurd ⟨by assumption, by assumption, by assumption, by assumption⟩ hbad
set_option maxHeartbeats 4000000 in
theorem c_X7_ifMeasured_1 {l : Launch} {g : GC} {V : Mem} {L : LMem} {x : Int32} {p1 n1 r y : Int32} (hbad : ¬ (nI 0 ≤ x ∧ x ≤ V 225 0 - nI 1)) : MC l yX7_ifMeasured cX7_ifMeasured 6 (some .int) 6 g V L [.ref (ad g 224), .int x, .int p1, .int n1, .int r, .int y] (some (.int 0)) (thr 1 (thr 0 V)) L := by
  refine MC.of [some (.ref (ad g 224)), some (.int x), some (.int p1), some (.int n1), some (.int r), some (.int y)] (by decide +kernel) rfl (Nat.le_of_ble_eq_true rfl) (fun p e s m args below meth c C => ?_)
  skip
  refine j_aload_n C dX7_ifMeasured_0 rfl rfl ?_
  refine j_iconst (v := (nI 0)) C dX7_ifMeasured_1 (by decide) ?_
  refine jp_LeaseBookModel_thrown C (by first | assumption | rfl | exact kd_sums (by assumption) | exact kd_st1 (by assumption) | exact kd_st2 (by assumption) | exact kd_ls (by first | assumption | rfl) (by assumption) | exact kd_sb (by first | assumption | rfl) (by assumption) | exact kd_sv (by assumption)) qf_X7_25 dX7_ifMeasured_2 ?_
  refine j_aload_n C dX7_ifMeasured_5 rfl rfl ?_
  refine j_iload_n C dX7_ifMeasured_6 rfl rfl ?_
  refine j_callV1r C (oa_X7 (by first | assumption | rfl | exact kd_sums (by assumption) | exact kd_st1 (by assumption) | exact kd_st2 (by assumption) | exact kd_ls (by first | assumption | rfl) (by assumption) | exact kd_sb (by first | assumption | rfl) (by assumption) | exact kd_sv (by assumption))) rfl rfl (c_X7_isLease) qm_X7_84 qi_X7_isLease qs_X7_isLease qn_X7 qc_X7_isLease fit_X7_isLease ⟨Nat.le_of_ble_eq_true rfl, Nat.le_of_ble_eq_true rfl, Nat.le_of_ble_eq_true rfl, Nat.le_of_ble_eq_true rfl⟩ (Nat.le_of_ble_eq_true rfl) dX7_ifMeasured_7 ?_
  refine j_if_ne (tgt := 19) C dX7_ifMeasured_10 (by decide) (fun h10 => ?_) (fun h10 => ?_)
  · replace h10 := b2i_1 h10
    exfalso
    first | contradiction | exact absurd (isL hV0 hk) (by assumption) | exact absurd ⟨by assumption, by assumption⟩ hbad | exact absurd ⟨by assumption, by assumption, by assumption⟩ hbad | exact absurd ⟨by assumption, by assumption, by assumption, by assumption⟩ hbad | exact absurd (by assumption) hbad
  · replace h10 := b2i_0 h10
    refine j_aload_n C dX7_ifMeasured_13 rfl rfl ?_
    refine j_iconst (v := (nI 1)) C dX7_ifMeasured_14 (by decide) ?_
    refine j_callV1r C (oa_X7 (by first | assumption | rfl | exact kd_sums (by assumption) | exact kd_st1 (by assumption) | exact kd_st2 (by assumption) | exact kd_ls (by first | assumption | rfl) (by assumption) | exact kd_sb (by first | assumption | rfl) (by assumption) | exact kd_sv (by assumption))) rfl rfl (c_X7_fails) qm_X7_67 qi_X7_fails qs_X7_fails qn_X7 qc_X7_fails fit_X7_fails ⟨Nat.le_of_ble_eq_true rfl, Nat.le_of_ble_eq_true rfl, Nat.le_of_ble_eq_true rfl, Nat.le_of_ble_eq_true rfl⟩ (Nat.le_of_ble_eq_true rfl) dX7_ifMeasured_15 ?_
    exact j_iret C dX7_ifMeasured_18 (by rfl) (by rfl) (by rfl)
set_option maxHeartbeats 4000000 in
theorem c_X7_ifMeasured_2 {l : Launch} {g : GC} {V : Mem} {L : LMem} {k nl ns : Nat} (hk : k < nl) (hR : RR nl ns V) {p1 n1 r y : Int32} (hbad : ¬ (money p1 ∧ termR n1 ∧ rateR r ∧ nI 0 ≤ y ∧ y ≤ nI 2)) : MC l yX7_ifMeasured cX7_ifMeasured 6 (some .int) 6 g V L [.ref (ad g 224), .int (nI k), .int p1, .int n1, .int r, .int y] (some (.int 0)) (thr 2 (thr 0 V)) L := by
  refine MC.of [some (.ref (ad g 224)), some (.int (nI k)), some (.int p1), some (.int n1), some (.int r), some (.int y)] (by decide +kernel) rfl (Nat.le_of_ble_eq_true rfl) (fun p e s m args below meth c C => ?_)
  have hV0 : RR nl ns (mset V 224 6 (nI 0)) := hR.put (Or.inl (by decide))
  have hk8 : k < 8 := Nat.lt_of_lt_of_le hk hR.1
  refine j_aload_n C dX7_ifMeasured_0 rfl rfl ?_
  refine j_iconst (v := (nI 0)) C dX7_ifMeasured_1 (by decide) ?_
  refine jp_LeaseBookModel_thrown C (by first | assumption | rfl | exact kd_sums (by assumption) | exact kd_st1 (by assumption) | exact kd_st2 (by assumption) | exact kd_ls (by first | assumption | rfl) (by assumption) | exact kd_sb (by first | assumption | rfl) (by assumption) | exact kd_sv (by assumption)) qf_X7_25 dX7_ifMeasured_2 ?_
  refine j_aload_n C dX7_ifMeasured_5 rfl rfl ?_
  refine j_iload_n C dX7_ifMeasured_6 rfl rfl ?_
  refine j_callV1r C (oa_X7 (by first | assumption | rfl | exact kd_sums (by assumption) | exact kd_st1 (by assumption) | exact kd_st2 (by assumption) | exact kd_ls (by first | assumption | rfl) (by assumption) | exact kd_sb (by first | assumption | rfl) (by assumption) | exact kd_sv (by assumption))) rfl rfl (c_X7_isLease) qm_X7_84 qi_X7_isLease qs_X7_isLease qn_X7 qc_X7_isLease fit_X7_isLease ⟨Nat.le_of_ble_eq_true rfl, Nat.le_of_ble_eq_true rfl, Nat.le_of_ble_eq_true rfl, Nat.le_of_ble_eq_true rfl⟩ (Nat.le_of_ble_eq_true rfl) dX7_ifMeasured_7 ?_
  refine j_if_ne (tgt := 19) C dX7_ifMeasured_10 (by decide) (fun h10 => ?_) (fun h10 => ?_)
  · replace h10 := b2i_1 h10
    refine j_iload_n C dX7_ifMeasured_19 rfl rfl ?_
    refine j_callS1r C (c_X7_isMoney) qm_X7_57 qt_X7_isMoney qn_X7 qc_X7_isMoney fit_X7_isMoney ⟨Nat.le_of_ble_eq_true rfl, Nat.le_of_ble_eq_true rfl, Nat.le_of_ble_eq_true rfl, Nat.le_of_ble_eq_true rfl⟩ (Nat.le_of_ble_eq_true rfl) dX7_ifMeasured_20 ?_
    refine j_if_eq (tgt := 51) C dX7_ifMeasured_23 (by decide) (fun h23 => ?_) (fun h23 => ?_)
    · replace h23 := b2i_0 h23
      refine j_aload_n C dX7_ifMeasured_51 rfl rfl ?_
      refine j_iconst (v := (nI 2)) C dX7_ifMeasured_52 (by decide) ?_
      refine j_callV1r C (oa_X7 (by first | assumption | rfl | exact kd_sums (by assumption) | exact kd_st1 (by assumption) | exact kd_st2 (by assumption) | exact kd_ls (by first | assumption | rfl) (by assumption) | exact kd_sb (by first | assumption | rfl) (by assumption) | exact kd_sv (by assumption))) rfl rfl (c_X7_fails) qm_X7_67 qi_X7_fails qs_X7_fails qn_X7 qc_X7_fails fit_X7_fails ⟨Nat.le_of_ble_eq_true rfl, Nat.le_of_ble_eq_true rfl, Nat.le_of_ble_eq_true rfl, Nat.le_of_ble_eq_true rfl⟩ (Nat.le_of_ble_eq_true rfl) dX7_ifMeasured_53 ?_
      exact j_iret C dX7_ifMeasured_56 (by rfl) (by rfl) (by rfl)
    · replace h23 := b2i_1 h23
      refine j_iload_n C dX7_ifMeasured_26 rfl rfl ?_
      refine j_callS1r C (c_X7_isTerm) qm_X7_61 qt_X7_isTerm qn_X7 qc_X7_isTerm fit_X7_isTerm ⟨Nat.le_of_ble_eq_true rfl, Nat.le_of_ble_eq_true rfl, Nat.le_of_ble_eq_true rfl, Nat.le_of_ble_eq_true rfl⟩ (Nat.le_of_ble_eq_true rfl) dX7_ifMeasured_27 ?_
      refine j_if_eq (tgt := 51) C dX7_ifMeasured_30 (by decide) (fun h30 => ?_) (fun h30 => ?_)
      · replace h30 := b2i_0 h30
        refine j_aload_n C dX7_ifMeasured_51 rfl rfl ?_
        refine j_iconst (v := (nI 2)) C dX7_ifMeasured_52 (by decide) ?_
        refine j_callV1r C (oa_X7 (by first | assumption | rfl | exact kd_sums (by assumption) | exact kd_st1 (by assumption) | exact kd_st2 (by assumption) | exact kd_ls (by first | assumption | rfl) (by assumption) | exact kd_sb (by first | assumption | rfl) (by assumption) | exact kd_sv (by assumption))) rfl rfl (c_X7_fails) qm_X7_67 qi_X7_fails qs_X7_fails qn_X7 qc_X7_fails fit_X7_fails ⟨Nat.le_of_ble_eq_true rfl, Nat.le_of_ble_eq_true rfl, Nat.le_of_ble_eq_true rfl, Nat.le_of_ble_eq_true rfl⟩ (Nat.le_of_ble_eq_true rfl) dX7_ifMeasured_53 ?_
        exact j_iret C dX7_ifMeasured_56 (by rfl) (by rfl) (by rfl)
      · replace h30 := b2i_1 h30
        refine j_iload C dX7_ifMeasured_33 rfl ?_
        refine j_callS1r C (c_X7_isRate) qm_X7_64 qt_X7_isRate qn_X7 qc_X7_isRate fit_X7_isRate ⟨Nat.le_of_ble_eq_true rfl, Nat.le_of_ble_eq_true rfl, Nat.le_of_ble_eq_true rfl, Nat.le_of_ble_eq_true rfl⟩ (Nat.le_of_ble_eq_true rfl) dX7_ifMeasured_35 ?_
        refine j_if_eq (tgt := 51) C dX7_ifMeasured_38 (by decide) (fun h38 => ?_) (fun h38 => ?_)
        · replace h38 := b2i_0 h38
          refine j_aload_n C dX7_ifMeasured_51 rfl rfl ?_
          refine j_iconst (v := (nI 2)) C dX7_ifMeasured_52 (by decide) ?_
          refine j_callV1r C (oa_X7 (by first | assumption | rfl | exact kd_sums (by assumption) | exact kd_st1 (by assumption) | exact kd_st2 (by assumption) | exact kd_ls (by first | assumption | rfl) (by assumption) | exact kd_sb (by first | assumption | rfl) (by assumption) | exact kd_sv (by assumption))) rfl rfl (c_X7_fails) qm_X7_67 qi_X7_fails qs_X7_fails qn_X7 qc_X7_fails fit_X7_fails ⟨Nat.le_of_ble_eq_true rfl, Nat.le_of_ble_eq_true rfl, Nat.le_of_ble_eq_true rfl, Nat.le_of_ble_eq_true rfl⟩ (Nat.le_of_ble_eq_true rfl) dX7_ifMeasured_53 ?_
          exact j_iret C dX7_ifMeasured_56 (by rfl) (by rfl) (by rfl)
        · replace h38 := b2i_1 h38
          refine j_iload C dX7_ifMeasured_41 rfl ?_
          refine j_iconst (v := (nI 0)) C dX7_ifMeasured_43 (by decide) ?_
          refine j_iconst (v := (nI 2)) C dX7_ifMeasured_44 (by decide) ?_
          refine j_callS3r C (c_X7_in) qm_X7_42 qt_X7_in qn_X7 qc_X7_in fit_X7_in ⟨Nat.le_of_ble_eq_true rfl, Nat.le_of_ble_eq_true rfl, Nat.le_of_ble_eq_true rfl, Nat.le_of_ble_eq_true rfl⟩ (Nat.le_of_ble_eq_true rfl) dX7_ifMeasured_45 ?_
          refine j_if_ne (tgt := 57) C dX7_ifMeasured_48 (by decide) (fun h48 => ?_) (fun h48 => ?_)
          · replace h48 := b2i_1 h48
            exfalso
            first | contradiction | exact absurd (isL hV0 hk) (by assumption) | exact absurd ⟨by assumption, by assumption⟩ hbad | exact absurd ⟨by assumption, by assumption, by assumption⟩ hbad | exact absurd ⟨by assumption, by assumption, by assumption, by assumption⟩ hbad | exact absurd (by assumption) hbad
          · replace h48 := b2i_0 h48
            refine j_aload_n C dX7_ifMeasured_51 rfl rfl ?_
            refine j_iconst (v := (nI 2)) C dX7_ifMeasured_52 (by decide) ?_
            refine j_callV1r C (oa_X7 (by first | assumption | rfl | exact kd_sums (by assumption) | exact kd_st1 (by assumption) | exact kd_st2 (by assumption) | exact kd_ls (by first | assumption | rfl) (by assumption) | exact kd_sb (by first | assumption | rfl) (by assumption) | exact kd_sv (by assumption))) rfl rfl (c_X7_fails) qm_X7_67 qi_X7_fails qs_X7_fails qn_X7 qc_X7_fails fit_X7_fails ⟨Nat.le_of_ble_eq_true rfl, Nat.le_of_ble_eq_true rfl, Nat.le_of_ble_eq_true rfl, Nat.le_of_ble_eq_true rfl⟩ (Nat.le_of_ble_eq_true rfl) dX7_ifMeasured_53 ?_
            exact j_iret C dX7_ifMeasured_56 (by rfl) (by rfl) (by rfl)
  · replace h10 := b2i_0 h10
    exfalso
    first | contradiction | exact absurd (isL hV0 hk) (by assumption) | exact absurd ⟨by assumption, by assumption⟩ hbad | exact absurd ⟨by assumption, by assumption, by assumption⟩ hbad | exact absurd ⟨by assumption, by assumption, by assumption, by assumption⟩ hbad | exact absurd (by assumption) hbad
set_option maxHeartbeats 4000000 in
theorem c_X7_ifMeasured_ok {l : Launch} {g : GC} {V : Mem} {L : LMem} {k nl ns : Nat} (hk : k < nl) (hR : RR nl ns V) {p1 n1 r : Int32} {w : Nat} (h1 : money p1) (h2 : termR n1) (h3 : rateR r) (hw : w < 3) : MC l yX7_ifMeasured cX7_ifMeasured 6 (some .int) 6 g V L [.ref (ad g 224), .int (nI k), .int p1, .int n1, .int r, .int (nI w)] (some (.int (if rRuns (thr 0 V) k then rMsd (rAside (thr 0 V)) k ns p1 n1 r w else -1))) (if rRuns (thr 0 V) k then rAside (thr 0 V) else (thr 0 V)) L := by
  refine MC.of [some (.ref (ad g 224)), some (.int (nI k)), some (.int p1), some (.int n1), some (.int r), some (.int (nI w))] (by decide +kernel) rfl (Nat.le_of_ble_eq_true rfl) (fun p e s m args below meth c C => ?_)
  have hV0 : RR nl ns (mset V 224 6 (nI 0)) := hR.put (Or.inl (by decide))
  have hk8 : k < 8 := Nat.lt_of_lt_of_le hk hR.1
  refine j_aload_n C dX7_ifMeasured_0 rfl rfl ?_
  refine j_iconst (v := (nI 0)) C dX7_ifMeasured_1 (by decide) ?_
  refine jp_LeaseBookModel_thrown C (by first | assumption | rfl | exact kd_sums (by assumption) | exact kd_st1 (by assumption) | exact kd_st2 (by assumption) | exact kd_ls (by first | assumption | rfl) (by assumption) | exact kd_sb (by first | assumption | rfl) (by assumption) | exact kd_sv (by assumption)) qf_X7_25 dX7_ifMeasured_2 ?_
  refine j_aload_n C dX7_ifMeasured_5 rfl rfl ?_
  refine j_iload_n C dX7_ifMeasured_6 rfl rfl ?_
  refine j_callV1r C (oa_X7 (by first | assumption | rfl | exact kd_sums (by assumption) | exact kd_st1 (by assumption) | exact kd_st2 (by assumption) | exact kd_ls (by first | assumption | rfl) (by assumption) | exact kd_sb (by first | assumption | rfl) (by assumption) | exact kd_sv (by assumption))) rfl rfl (c_X7_isLease) qm_X7_84 qi_X7_isLease qs_X7_isLease qn_X7 qc_X7_isLease fit_X7_isLease ⟨Nat.le_of_ble_eq_true rfl, Nat.le_of_ble_eq_true rfl, Nat.le_of_ble_eq_true rfl, Nat.le_of_ble_eq_true rfl⟩ (Nat.le_of_ble_eq_true rfl) dX7_ifMeasured_7 ?_
  refine j_if_ne (tgt := 19) C dX7_ifMeasured_10 (by decide) (fun h10 => ?_) (fun h10 => ?_)
  · replace h10 := b2i_1 h10
    refine j_iload_n C dX7_ifMeasured_19 rfl rfl ?_
    refine j_callS1r C (c_X7_isMoney) qm_X7_57 qt_X7_isMoney qn_X7 qc_X7_isMoney fit_X7_isMoney ⟨Nat.le_of_ble_eq_true rfl, Nat.le_of_ble_eq_true rfl, Nat.le_of_ble_eq_true rfl, Nat.le_of_ble_eq_true rfl⟩ (Nat.le_of_ble_eq_true rfl) dX7_ifMeasured_20 ?_
    refine j_if_eq (tgt := 51) C dX7_ifMeasured_23 (by decide) (fun h23 => ?_) (fun h23 => ?_)
    · replace h23 := b2i_0 h23
      exfalso
      first | contradiction | exact absurd (isL hV0 hk) (by assumption) | exact absurd ⟨by assumption, by assumption⟩ hbad | exact absurd ⟨by assumption, by assumption, by assumption⟩ hbad | exact absurd ⟨by assumption, by assumption, by assumption, by assumption⟩ hbad | exact absurd (show nI 0 ≤ nI w ∧ nI w ≤ nI 2 from inN (by omega) (by omega) (by omega)) (by assumption)
    · replace h23 := b2i_1 h23
      refine j_iload_n C dX7_ifMeasured_26 rfl rfl ?_
      refine j_callS1r C (c_X7_isTerm) qm_X7_61 qt_X7_isTerm qn_X7 qc_X7_isTerm fit_X7_isTerm ⟨Nat.le_of_ble_eq_true rfl, Nat.le_of_ble_eq_true rfl, Nat.le_of_ble_eq_true rfl, Nat.le_of_ble_eq_true rfl⟩ (Nat.le_of_ble_eq_true rfl) dX7_ifMeasured_27 ?_
      refine j_if_eq (tgt := 51) C dX7_ifMeasured_30 (by decide) (fun h30 => ?_) (fun h30 => ?_)
      · replace h30 := b2i_0 h30
        exfalso
        first | contradiction | exact absurd (isL hV0 hk) (by assumption) | exact absurd ⟨by assumption, by assumption⟩ hbad | exact absurd ⟨by assumption, by assumption, by assumption⟩ hbad | exact absurd ⟨by assumption, by assumption, by assumption, by assumption⟩ hbad | exact absurd (show nI 0 ≤ nI w ∧ nI w ≤ nI 2 from inN (by omega) (by omega) (by omega)) (by assumption)
      · replace h30 := b2i_1 h30
        refine j_iload C dX7_ifMeasured_33 rfl ?_
        refine j_callS1r C (c_X7_isRate) qm_X7_64 qt_X7_isRate qn_X7 qc_X7_isRate fit_X7_isRate ⟨Nat.le_of_ble_eq_true rfl, Nat.le_of_ble_eq_true rfl, Nat.le_of_ble_eq_true rfl, Nat.le_of_ble_eq_true rfl⟩ (Nat.le_of_ble_eq_true rfl) dX7_ifMeasured_35 ?_
        refine j_if_eq (tgt := 51) C dX7_ifMeasured_38 (by decide) (fun h38 => ?_) (fun h38 => ?_)
        · replace h38 := b2i_0 h38
          exfalso
          first | contradiction | exact absurd (isL hV0 hk) (by assumption) | exact absurd ⟨by assumption, by assumption⟩ hbad | exact absurd ⟨by assumption, by assumption, by assumption⟩ hbad | exact absurd ⟨by assumption, by assumption, by assumption, by assumption⟩ hbad | exact absurd (show nI 0 ≤ nI w ∧ nI w ≤ nI 2 from inN (by omega) (by omega) (by omega)) (by assumption)
        · replace h38 := b2i_1 h38
          refine j_iload C dX7_ifMeasured_41 rfl ?_
          refine j_iconst (v := (nI 0)) C dX7_ifMeasured_43 (by decide) ?_
          refine j_iconst (v := (nI 2)) C dX7_ifMeasured_44 (by decide) ?_
          refine j_callS3r C (c_X7_in) qm_X7_42 qt_X7_in qn_X7 qc_X7_in fit_X7_in ⟨Nat.le_of_ble_eq_true rfl, Nat.le_of_ble_eq_true rfl, Nat.le_of_ble_eq_true rfl, Nat.le_of_ble_eq_true rfl⟩ (Nat.le_of_ble_eq_true rfl) dX7_ifMeasured_45 ?_
          refine j_if_ne (tgt := 57) C dX7_ifMeasured_48 (by decide) (fun h48 => ?_) (fun h48 => ?_)
          · replace h48 := b2i_1 h48
            refine j_aload_n C dX7_ifMeasured_57 rfl rfl ?_
            refine j_iload_n C dX7_ifMeasured_58 rfl rfl ?_
            refine j_iload_n C dX7_ifMeasured_59 rfl rfl ?_
            refine j_iload_n C dX7_ifMeasured_60 rfl rfl ?_
            refine j_iload C dX7_ifMeasured_61 rfl ?_
            refine j_iload C dX7_ifMeasured_63 rfl ?_
            refine j_callV5r C (oa_X7 (by first | assumption | rfl | exact kd_sums (by assumption) | exact kd_st1 (by assumption) | exact kd_st2 (by assumption) | exact kd_ls (by first | assumption | rfl) (by assumption) | exact kd_sb (by first | assumption | rfl) (by assumption) | exact kd_sv (by assumption))) rfl rfl (c_X7_measuredOf hk8 hw h3 hV0) qm_X7_173 qi_X7_measuredOf qs_X7_measuredOf qn_X7 qc_X7_measuredOf fit_X7_measuredOf ⟨Nat.le_of_ble_eq_true rfl, Nat.le_of_ble_eq_true rfl, Nat.le_of_ble_eq_true rfl, Nat.le_of_ble_eq_true rfl⟩ (Nat.le_of_ble_eq_true rfl) dX7_ifMeasured_65 ?_
            exact j_iret C dX7_ifMeasured_68 (by rfl) (by rfl) (by rfl)
          · replace h48 := b2i_0 h48
            exfalso
            first | contradiction | exact absurd (isL hV0 hk) (by assumption) | exact absurd ⟨by assumption, by assumption⟩ hbad | exact absurd ⟨by assumption, by assumption, by assumption⟩ hbad | exact absurd ⟨by assumption, by assumption, by assumption, by assumption⟩ hbad | exact absurd (show nI 0 ≤ nI w ∧ nI w ≤ nI 2 from inN (by omega) (by omega) (by omega)) (by assumption)
  · replace h10 := b2i_0 h10
    exfalso
    first | contradiction | exact absurd (isL hV0 hk) (by assumption) | exact absurd ⟨by assumption, by assumption⟩ hbad | exact absurd ⟨by assumption, by assumption, by assumption⟩ hbad | exact absurd ⟨by assumption, by assumption, by assumption, by assumption⟩ hbad | exact absurd (show nI 0 ≤ nI w ∧ nI w ≤ nI 2 from inN (by omega) (by omega) (by omega)) (by assumption)
set_option maxHeartbeats 4000000 in
theorem c_X7_rateWithin_1 {l : Launch} {g : GC} {V : Mem} {L : LMem} {x : Int32} (hbad : ¬ (nI 0 ≤ x ∧ x ≤ V 225 0 - nI 1)) : MC l yX7_rateWithin cX7_rateWithin 2 (some .int) 6 g V L [.ref (ad g 224), .int x] (some (.int 0)) (thr 1 (thr 0 V)) L := by
  refine MC.of [some (.ref (ad g 224)), some (.int x)] (by decide +kernel) rfl (Nat.le_of_ble_eq_true rfl) (fun p e s m args below meth c C => ?_)
  skip
  refine j_aload_n C dX7_rateWithin_0 rfl rfl ?_
  refine j_iconst (v := (nI 0)) C dX7_rateWithin_1 (by decide) ?_
  refine jp_LeaseBookModel_thrown C (by first | assumption | rfl | exact kd_sums (by assumption) | exact kd_st1 (by assumption) | exact kd_st2 (by assumption) | exact kd_ls (by first | assumption | rfl) (by assumption) | exact kd_sb (by first | assumption | rfl) (by assumption) | exact kd_sv (by assumption)) qf_X7_25 dX7_rateWithin_2 ?_
  refine j_aload_n C dX7_rateWithin_5 rfl rfl ?_
  refine j_iload_n C dX7_rateWithin_6 rfl rfl ?_
  refine j_callV1r C (oa_X7 (by first | assumption | rfl | exact kd_sums (by assumption) | exact kd_st1 (by assumption) | exact kd_st2 (by assumption) | exact kd_ls (by first | assumption | rfl) (by assumption) | exact kd_sb (by first | assumption | rfl) (by assumption) | exact kd_sv (by assumption))) rfl rfl (c_X7_isLease) qm_X7_84 qi_X7_isLease qs_X7_isLease qn_X7 qc_X7_isLease fit_X7_isLease ⟨Nat.le_of_ble_eq_true rfl, Nat.le_of_ble_eq_true rfl, Nat.le_of_ble_eq_true rfl, Nat.le_of_ble_eq_true rfl⟩ (Nat.le_of_ble_eq_true rfl) dX7_rateWithin_7 ?_
  refine j_if_eq (tgt := 21) C dX7_rateWithin_10 (by decide) (fun h10 => ?_) (fun h10 => ?_)
  · replace h10 := b2i_0 h10
    refine j_aload_n C dX7_rateWithin_21 rfl rfl ?_
    refine j_iconst (v := (nI 1)) C dX7_rateWithin_22 (by decide) ?_
    refine j_callV1r C (oa_X7 (by first | assumption | rfl | exact kd_sums (by assumption) | exact kd_st1 (by assumption) | exact kd_st2 (by assumption) | exact kd_ls (by first | assumption | rfl) (by assumption) | exact kd_sb (by first | assumption | rfl) (by assumption) | exact kd_sv (by assumption))) rfl rfl (c_X7_fails) qm_X7_67 qi_X7_fails qs_X7_fails qn_X7 qc_X7_fails fit_X7_fails ⟨Nat.le_of_ble_eq_true rfl, Nat.le_of_ble_eq_true rfl, Nat.le_of_ble_eq_true rfl, Nat.le_of_ble_eq_true rfl⟩ (Nat.le_of_ble_eq_true rfl) dX7_rateWithin_23 ?_
    exact j_iret C dX7_rateWithin_26 (by rfl) (by rfl) (by rfl)
  · replace h10 := b2i_1 h10
    exfalso
    first | contradiction | exact absurd (isL hV0 hk) (by assumption) | exact absurd ⟨by assumption, by assumption⟩ hbad | exact absurd ⟨by assumption, by assumption, by assumption⟩ hbad | exact absurd ⟨by assumption, by assumption, by assumption, by assumption⟩ hbad | exact absurd (by assumption) hbad
set_option maxHeartbeats 4000000 in
theorem c_X7_rateWithin_ok {l : Launch} {g : GC} {V : Mem} {L : LMem} {k nl ns : Nat} (hk : k < nl) (hR : RR nl ns V) : MC l yX7_rateWithin cX7_rateWithin 2 (some .int) 6 g V L [.ref (ad g 224), .int (nI k)] (some (.int (rRate (thr 0 V) k))) (thr 0 V) L := by
  refine MC.of [some (.ref (ad g 224)), some (.int (nI k))] (by decide +kernel) rfl (Nat.le_of_ble_eq_true rfl) (fun p e s m args below meth c C => ?_)
  have hV0 : RR nl ns (mset V 224 6 (nI 0)) := hR.put (Or.inl (by decide))
  have hk8 : k < 8 := Nat.lt_of_lt_of_le hk hR.1
  refine j_aload_n C dX7_rateWithin_0 rfl rfl ?_
  refine j_iconst (v := (nI 0)) C dX7_rateWithin_1 (by decide) ?_
  refine jp_LeaseBookModel_thrown C (by first | assumption | rfl | exact kd_sums (by assumption) | exact kd_st1 (by assumption) | exact kd_st2 (by assumption) | exact kd_ls (by first | assumption | rfl) (by assumption) | exact kd_sb (by first | assumption | rfl) (by assumption) | exact kd_sv (by assumption)) qf_X7_25 dX7_rateWithin_2 ?_
  refine j_aload_n C dX7_rateWithin_5 rfl rfl ?_
  refine j_iload_n C dX7_rateWithin_6 rfl rfl ?_
  refine j_callV1r C (oa_X7 (by first | assumption | rfl | exact kd_sums (by assumption) | exact kd_st1 (by assumption) | exact kd_st2 (by assumption) | exact kd_ls (by first | assumption | rfl) (by assumption) | exact kd_sb (by first | assumption | rfl) (by assumption) | exact kd_sv (by assumption))) rfl rfl (c_X7_isLease) qm_X7_84 qi_X7_isLease qs_X7_isLease qn_X7 qc_X7_isLease fit_X7_isLease ⟨Nat.le_of_ble_eq_true rfl, Nat.le_of_ble_eq_true rfl, Nat.le_of_ble_eq_true rfl, Nat.le_of_ble_eq_true rfl⟩ (Nat.le_of_ble_eq_true rfl) dX7_rateWithin_7 ?_
  refine j_if_eq (tgt := 21) C dX7_rateWithin_10 (by decide) (fun h10 => ?_) (fun h10 => ?_)
  · replace h10 := b2i_0 h10
    exfalso
    first | contradiction | exact absurd (isL hV0 hk) (by assumption) | exact absurd ⟨by assumption, by assumption⟩ hbad | exact absurd ⟨by assumption, by assumption, by assumption⟩ hbad | exact absurd ⟨by assumption, by assumption, by assumption, by assumption⟩ hbad
  · replace h10 := b2i_1 h10
    refine j_aload_n C dX7_rateWithin_13 rfl rfl ?_
    refine j_iload_n C dX7_rateWithin_14 rfl rfl ?_
    refine j_callV1r C (oa_X7 (by first | assumption | rfl | exact kd_sums (by assumption) | exact kd_st1 (by assumption) | exact kd_st2 (by assumption) | exact kd_ls (by first | assumption | rfl) (by assumption) | exact kd_sb (by first | assumption | rfl) (by assumption) | exact kd_sv (by assumption))) rfl rfl (c_X7_rateOf hk hV0) qm_X7_181 qi_X7_rateOf qs_X7_rateOf qn_X7 qc_X7_rateOf fit_X7_rateOf ⟨Nat.le_of_ble_eq_true rfl, Nat.le_of_ble_eq_true rfl, Nat.le_of_ble_eq_true rfl, Nat.le_of_ble_eq_true rfl⟩ (Nat.le_of_ble_eq_true rfl) dX7_rateWithin_15 ?_
    refine j_goto (tgt := 26) C dX7_rateWithin_18 (by decide) ?_
    exact j_iret C dX7_rateWithin_26 (by rfl) (by rfl) (by rfl)
set_option maxHeartbeats 4000000 in
theorem c_X7_sublease_1 {l : Launch} {g : GC} {V : Mem} {L : LMem} {x y : Int32} (hbad : ¬ (nI 0 ≤ x ∧ x ≤ V 225 1 - nI 1)) : MC l yX7_sublease cX7_sublease 3 (some .int) 6 g V L [.ref (ad g 224), .int x, .int y] (some (.int 0)) (thr 1 (thr 0 V)) L := by
  refine MC.of [some (.ref (ad g 224)), some (.int x), some (.int y)] (by decide +kernel) rfl (Nat.le_of_ble_eq_true rfl) (fun p e s m args below meth c C => ?_)
  skip
  refine j_aload_n C dX7_sublease_0 rfl rfl ?_
  refine j_iconst (v := (nI 0)) C dX7_sublease_1 (by decide) ?_
  refine jp_LeaseBookModel_thrown C (by first | assumption | rfl | exact kd_sums (by assumption) | exact kd_st1 (by assumption) | exact kd_st2 (by assumption) | exact kd_ls (by first | assumption | rfl) (by assumption) | exact kd_sb (by first | assumption | rfl) (by assumption) | exact kd_sv (by assumption)) qf_X7_25 dX7_sublease_2 ?_
  refine j_iload_n C dX7_sublease_5 rfl rfl ?_
  refine j_iconst (v := (nI 0)) C dX7_sublease_6 (by decide) ?_
  refine j_aload_n C dX7_sublease_7 rfl rfl ?_
  refine jg_LeaseBookModel_z C (by first | assumption | rfl | exact kd_sums (by assumption) | exact kd_st1 (by assumption) | exact kd_st2 (by assumption) | exact kd_ls (by first | assumption | rfl) (by assumption) | exact kd_sb (by first | assumption | rfl) (by assumption) | exact kd_sv (by assumption)) qf_X7_7 dX7_sublease_8 ?_
  refine j_iconst (v := (nI 1)) C dX7_sublease_11 (by decide) ?_
  refine j_ialdN C (by first | assumption | rfl | exact kd_sums (by assumption) | exact kd_st1 (by assumption) | exact kd_st2 (by assumption) | exact kd_ls (by first | assumption | rfl) (by assumption) | exact kd_sb (by first | assumption | rfl) (by assumption) | exact kd_sv (by assumption)) rfl rfl (by omega) dX7_sublease_12 ?_
  refine j_iconst (v := (nI 1)) C dX7_sublease_13 (by decide) ?_
  refine j_isub C dX7_sublease_14 ?_
  refine j_callS3r C (c_X7_in) qm_X7_42 qt_X7_in qn_X7 qc_X7_in fit_X7_in ⟨Nat.le_of_ble_eq_true rfl, Nat.le_of_ble_eq_true rfl, Nat.le_of_ble_eq_true rfl, Nat.le_of_ble_eq_true rfl⟩ (Nat.le_of_ble_eq_true rfl) dX7_sublease_15 ?_
  refine j_if_ne (tgt := 27) C dX7_sublease_18 (by decide) (fun h18 => ?_) (fun h18 => ?_)
  · replace h18 := b2i_1 h18
    exfalso
    first | contradiction | exact absurd (isL hV0 hk) (by assumption) | exact absurd ⟨by assumption, by assumption⟩ hbad | exact absurd ⟨by assumption, by assumption, by assumption⟩ hbad | exact absurd ⟨by assumption, by assumption, by assumption, by assumption⟩ hbad | exact absurd (by assumption) hbad
  · replace h18 := b2i_0 h18
    refine j_aload_n C dX7_sublease_21 rfl rfl ?_
    refine j_iconst (v := (nI 1)) C dX7_sublease_22 (by decide) ?_
    refine j_callV1r C (oa_X7 (by first | assumption | rfl | exact kd_sums (by assumption) | exact kd_st1 (by assumption) | exact kd_st2 (by assumption) | exact kd_ls (by first | assumption | rfl) (by assumption) | exact kd_sb (by first | assumption | rfl) (by assumption) | exact kd_sv (by assumption))) rfl rfl (c_X7_fails) qm_X7_67 qi_X7_fails qs_X7_fails qn_X7 qc_X7_fails fit_X7_fails ⟨Nat.le_of_ble_eq_true rfl, Nat.le_of_ble_eq_true rfl, Nat.le_of_ble_eq_true rfl, Nat.le_of_ble_eq_true rfl⟩ (Nat.le_of_ble_eq_true rfl) dX7_sublease_23 ?_
    exact j_iret C dX7_sublease_26 (by rfl) (by rfl) (by rfl)
set_option maxHeartbeats 4000000 in
theorem c_X7_sublease_2 {l : Launch} {g : GC} {V : Mem} {L : LMem} {k nl ns : Nat} (hk : k < ns) (hR : RR nl ns V) {y : Int32} (hbad : ¬ (nI 0 ≤ y ∧ y ≤ nI 5)) : MC l yX7_sublease cX7_sublease 3 (some .int) 6 g V L [.ref (ad g 224), .int (nI k), .int y] (some (.int 0)) (thr 2 (thr 0 V)) L := by
  refine MC.of [some (.ref (ad g 224)), some (.int (nI k)), some (.int y)] (by decide +kernel) rfl (Nat.le_of_ble_eq_true rfl) (fun p e s m args below meth c C => ?_)
  have hV0 : RR nl ns (mset V 224 6 (nI 0)) := hR.put (Or.inl (by decide))
  refine j_aload_n C dX7_sublease_0 rfl rfl ?_
  refine j_iconst (v := (nI 0)) C dX7_sublease_1 (by decide) ?_
  refine jp_LeaseBookModel_thrown C (by first | assumption | rfl | exact kd_sums (by assumption) | exact kd_st1 (by assumption) | exact kd_st2 (by assumption) | exact kd_ls (by first | assumption | rfl) (by assumption) | exact kd_sb (by first | assumption | rfl) (by assumption) | exact kd_sv (by assumption)) qf_X7_25 dX7_sublease_2 ?_
  refine j_iload_n C dX7_sublease_5 rfl rfl ?_
  refine j_iconst (v := (nI 0)) C dX7_sublease_6 (by decide) ?_
  refine j_aload_n C dX7_sublease_7 rfl rfl ?_
  refine jg_LeaseBookModel_z C (by first | assumption | rfl | exact kd_sums (by assumption) | exact kd_st1 (by assumption) | exact kd_st2 (by assumption) | exact kd_ls (by first | assumption | rfl) (by assumption) | exact kd_sb (by first | assumption | rfl) (by assumption) | exact kd_sv (by assumption)) qf_X7_7 dX7_sublease_8 ?_
  refine j_iconst (v := (nI 1)) C dX7_sublease_11 (by decide) ?_
  refine j_ialdN C (by first | assumption | rfl | exact kd_sums (by assumption) | exact kd_st1 (by assumption) | exact kd_st2 (by assumption) | exact kd_ls (by first | assumption | rfl) (by assumption) | exact kd_sb (by first | assumption | rfl) (by assumption) | exact kd_sv (by assumption)) rfl rfl (by omega) dX7_sublease_12 ?_
  refine j_iconst (v := (nI 1)) C dX7_sublease_13 (by decide) ?_
  refine j_isub C dX7_sublease_14 ?_
  refine j_callS3r C (c_X7_in) qm_X7_42 qt_X7_in qn_X7 qc_X7_in fit_X7_in ⟨Nat.le_of_ble_eq_true rfl, Nat.le_of_ble_eq_true rfl, Nat.le_of_ble_eq_true rfl, Nat.le_of_ble_eq_true rfl⟩ (Nat.le_of_ble_eq_true rfl) dX7_sublease_15 ?_
  refine j_if_ne (tgt := 27) C dX7_sublease_18 (by decide) (fun h18 => ?_) (fun h18 => ?_)
  · replace h18 := b2i_1 h18
    refine j_iload_n C dX7_sublease_27 rfl rfl ?_
    refine j_iconst (v := (nI 0)) C dX7_sublease_28 (by decide) ?_
    refine j_iconst (v := (nI 5)) C dX7_sublease_29 (by decide) ?_
    refine j_callS3r C (c_X7_in) qm_X7_42 qt_X7_in qn_X7 qc_X7_in fit_X7_in ⟨Nat.le_of_ble_eq_true rfl, Nat.le_of_ble_eq_true rfl, Nat.le_of_ble_eq_true rfl, Nat.le_of_ble_eq_true rfl⟩ (Nat.le_of_ble_eq_true rfl) dX7_sublease_30 ?_
    refine j_if_eq (tgt := 50) C dX7_sublease_33 (by decide) (fun h33 => ?_) (fun h33 => ?_)
    · replace h33 := b2i_0 h33
      refine j_aload_n C dX7_sublease_50 rfl rfl ?_
      refine j_iconst (v := (nI 2)) C dX7_sublease_51 (by decide) ?_
      refine j_callV1r C (oa_X7 (by first | assumption | rfl | exact kd_sums (by assumption) | exact kd_st1 (by assumption) | exact kd_st2 (by assumption) | exact kd_ls (by first | assumption | rfl) (by assumption) | exact kd_sb (by first | assumption | rfl) (by assumption) | exact kd_sv (by assumption))) rfl rfl (c_X7_fails) qm_X7_67 qi_X7_fails qs_X7_fails qn_X7 qc_X7_fails fit_X7_fails ⟨Nat.le_of_ble_eq_true rfl, Nat.le_of_ble_eq_true rfl, Nat.le_of_ble_eq_true rfl, Nat.le_of_ble_eq_true rfl⟩ (Nat.le_of_ble_eq_true rfl) dX7_sublease_52 ?_
      exact j_iret C dX7_sublease_55 (by rfl) (by rfl) (by rfl)
    · replace h33 := b2i_1 h33
      exfalso
      first | contradiction | exact absurd (isL hV0 hk) (by assumption) | exact absurd ⟨by assumption, by assumption⟩ hbad | exact absurd ⟨by assumption, by assumption, by assumption⟩ hbad | exact absurd ⟨by assumption, by assumption, by assumption, by assumption⟩ hbad | exact absurd (by assumption) hbad | exact absurd (isS hV0 hk) (by assumption)
  · replace h18 := b2i_0 h18
    exfalso
    first | contradiction | exact absurd (isL hV0 hk) (by assumption) | exact absurd ⟨by assumption, by assumption⟩ hbad | exact absurd ⟨by assumption, by assumption, by assumption⟩ hbad | exact absurd ⟨by assumption, by assumption, by assumption, by assumption⟩ hbad | exact absurd (by assumption) hbad | exact absurd (isS hV0 hk) (by assumption)
set_option maxHeartbeats 4000000 in
theorem c_X7_sublease_ok {l : Launch} {g : GC} {V : Mem} {L : LMem} {k nl ns w : Nat} (hk : k < ns) (hR : RR nl ns V) (hw : w < 6) : MC l yX7_sublease cX7_sublease 3 (some .int) 6 g V L [.ref (ad g 224), .int (nI k), .int (nI w)] (some (.int ((thr 0 V) 225 (179 + 6 * k + w)))) (thr 0 V) L := by
  refine MC.of [some (.ref (ad g 224)), some (.int (nI k)), some (.int (nI w))] (by decide +kernel) rfl (Nat.le_of_ble_eq_true rfl) (fun p e s m args below meth c C => ?_)
  have hV0 : RR nl ns (mset V 224 6 (nI 0)) := hR.put (Or.inl (by decide))
  have h12 := hR.2.1
  refine j_aload_n C dX7_sublease_0 rfl rfl ?_
  refine j_iconst (v := (nI 0)) C dX7_sublease_1 (by decide) ?_
  refine jp_LeaseBookModel_thrown C (by first | assumption | rfl | exact kd_sums (by assumption) | exact kd_st1 (by assumption) | exact kd_st2 (by assumption) | exact kd_ls (by first | assumption | rfl) (by assumption) | exact kd_sb (by first | assumption | rfl) (by assumption) | exact kd_sv (by assumption)) qf_X7_25 dX7_sublease_2 ?_
  refine j_iload_n C dX7_sublease_5 rfl rfl ?_
  refine j_iconst (v := (nI 0)) C dX7_sublease_6 (by decide) ?_
  refine j_aload_n C dX7_sublease_7 rfl rfl ?_
  refine jg_LeaseBookModel_z C (by first | assumption | rfl | exact kd_sums (by assumption) | exact kd_st1 (by assumption) | exact kd_st2 (by assumption) | exact kd_ls (by first | assumption | rfl) (by assumption) | exact kd_sb (by first | assumption | rfl) (by assumption) | exact kd_sv (by assumption)) qf_X7_7 dX7_sublease_8 ?_
  refine j_iconst (v := (nI 1)) C dX7_sublease_11 (by decide) ?_
  refine j_ialdN C (by first | assumption | rfl | exact kd_sums (by assumption) | exact kd_st1 (by assumption) | exact kd_st2 (by assumption) | exact kd_ls (by first | assumption | rfl) (by assumption) | exact kd_sb (by first | assumption | rfl) (by assumption) | exact kd_sv (by assumption)) rfl rfl (by omega) dX7_sublease_12 ?_
  refine j_iconst (v := (nI 1)) C dX7_sublease_13 (by decide) ?_
  refine j_isub C dX7_sublease_14 ?_
  refine j_callS3r C (c_X7_in) qm_X7_42 qt_X7_in qn_X7 qc_X7_in fit_X7_in ⟨Nat.le_of_ble_eq_true rfl, Nat.le_of_ble_eq_true rfl, Nat.le_of_ble_eq_true rfl, Nat.le_of_ble_eq_true rfl⟩ (Nat.le_of_ble_eq_true rfl) dX7_sublease_15 ?_
  refine j_if_ne (tgt := 27) C dX7_sublease_18 (by decide) (fun h18 => ?_) (fun h18 => ?_)
  · replace h18 := b2i_1 h18
    refine j_iload_n C dX7_sublease_27 rfl rfl ?_
    refine j_iconst (v := (nI 0)) C dX7_sublease_28 (by decide) ?_
    refine j_iconst (v := (nI 5)) C dX7_sublease_29 (by decide) ?_
    refine j_callS3r C (c_X7_in) qm_X7_42 qt_X7_in qn_X7 qc_X7_in fit_X7_in ⟨Nat.le_of_ble_eq_true rfl, Nat.le_of_ble_eq_true rfl, Nat.le_of_ble_eq_true rfl, Nat.le_of_ble_eq_true rfl⟩ (Nat.le_of_ble_eq_true rfl) dX7_sublease_30 ?_
    refine j_if_eq (tgt := 50) C dX7_sublease_33 (by decide) (fun h33 => ?_) (fun h33 => ?_)
    · replace h33 := b2i_0 h33
      exfalso
      first | contradiction | exact absurd (isL hV0 hk) (by assumption) | exact absurd ⟨by assumption, by assumption⟩ hbad | exact absurd ⟨by assumption, by assumption, by assumption⟩ hbad | exact absurd ⟨by assumption, by assumption, by assumption, by assumption⟩ hbad | exact absurd (show nI 0 ≤ nI w ∧ nI w ≤ nI 5 from inN (by omega) (by omega) (by omega)) (by assumption) | exact absurd (isS hV0 hk) (by assumption)
    · replace h33 := b2i_1 h33
      refine j_aload_n C dX7_sublease_36 rfl rfl ?_
      refine jg_LeaseBookModel_z C (by first | assumption | rfl | exact kd_sums (by assumption) | exact kd_st1 (by assumption) | exact kd_st2 (by assumption) | exact kd_ls (by first | assumption | rfl) (by assumption) | exact kd_sb (by first | assumption | rfl) (by assumption) | exact kd_sv (by assumption)) qf_X7_7 dX7_sublease_37 ?_
      refine j_iload_n C dX7_sublease_40 rfl rfl ?_
      refine j_callS1r C (c_X7_sub) qm_X7_77 qt_X7_sub qn_X7 qc_X7_sub fit_X7_sub ⟨Nat.le_of_ble_eq_true rfl, Nat.le_of_ble_eq_true rfl, Nat.le_of_ble_eq_true rfl, Nat.le_of_ble_eq_true rfl⟩ (Nat.le_of_ble_eq_true rfl) dX7_sublease_41 ?_
      refine j_iload_n C dX7_sublease_44 rfl rfl ?_
      refine j_iaddN C dX7_sublease_45 ?_
      refine j_ialdN C (by first | assumption | rfl | exact kd_sums (by assumption) | exact kd_st1 (by assumption) | exact kd_st2 (by assumption) | exact kd_ls (by first | assumption | rfl) (by assumption) | exact kd_sb (by first | assumption | rfl) (by assumption) | exact kd_sv (by assumption)) rfl rfl (by omega) dX7_sublease_46 ?_
      refine j_goto (tgt := 55) C dX7_sublease_47 (by decide) ?_
      exact j_iret C dX7_sublease_55 (by rfl) (by rfl) (by rfl)
  · replace h18 := b2i_0 h18
    exfalso
    first | contradiction | exact absurd (isL hV0 hk) (by assumption) | exact absurd ⟨by assumption, by assumption⟩ hbad | exact absurd ⟨by assumption, by assumption, by assumption⟩ hbad | exact absurd ⟨by assumption, by assumption, by assumption, by assumption⟩ hbad | exact absurd (show nI 0 ≤ nI w ∧ nI w ≤ nI 5 from inN (by omega) (by omega) (by omega)) (by assumption) | exact absurd (isS hV0 hk) (by assumption)
set_option maxHeartbeats 4000000 in
theorem c_X7_count_1 {l : Launch} {g : GC} {V : Mem} {L : LMem} {y : Int32} (hbad : ¬ (nI 0 ≤ y ∧ y ≤ nI 10)) : MC l yX7_count cX7_count 2 (some .int) 6 g V L [.ref (ad g 224), .int y] (some (.int 0)) (thr 1 (thr 0 V)) L := by
  refine MC.of [some (.ref (ad g 224)), some (.int y)] (by decide +kernel) rfl (Nat.le_of_ble_eq_true rfl) (fun p e s m args below meth c C => ?_)
  skip
  refine j_aload_n C dX7_count_0 rfl rfl ?_
  refine j_iconst (v := (nI 0)) C dX7_count_1 (by decide) ?_
  refine jp_LeaseBookModel_thrown C (by first | assumption | rfl | exact kd_sums (by assumption) | exact kd_st1 (by assumption) | exact kd_st2 (by assumption) | exact kd_ls (by first | assumption | rfl) (by assumption) | exact kd_sb (by first | assumption | rfl) (by assumption) | exact kd_sv (by assumption)) qf_X7_25 dX7_count_2 ?_
  refine j_iload_n C dX7_count_5 rfl rfl ?_
  refine j_iconst (v := (nI 0)) C dX7_count_6 (by decide) ?_
  refine j_bipush (v := (nI 10)) C dX7_count_7 (by decide) ?_
  refine j_callS3r C (c_X7_in) qm_X7_42 qt_X7_in qn_X7 qc_X7_in fit_X7_in ⟨Nat.le_of_ble_eq_true rfl, Nat.le_of_ble_eq_true rfl, Nat.le_of_ble_eq_true rfl, Nat.le_of_ble_eq_true rfl⟩ (Nat.le_of_ble_eq_true rfl) dX7_count_9 ?_
  refine j_if_eq (tgt := 23) C dX7_count_12 (by decide) (fun h12 => ?_) (fun h12 => ?_)
  · replace h12 := b2i_0 h12
    refine j_aload_n C dX7_count_23 rfl rfl ?_
    refine j_iconst (v := (nI 1)) C dX7_count_24 (by decide) ?_
    refine j_callV1r C (oa_X7 (by first | assumption | rfl | exact kd_sums (by assumption) | exact kd_st1 (by assumption) | exact kd_st2 (by assumption) | exact kd_ls (by first | assumption | rfl) (by assumption) | exact kd_sb (by first | assumption | rfl) (by assumption) | exact kd_sv (by assumption))) rfl rfl (c_X7_fails) qm_X7_67 qi_X7_fails qs_X7_fails qn_X7 qc_X7_fails fit_X7_fails ⟨Nat.le_of_ble_eq_true rfl, Nat.le_of_ble_eq_true rfl, Nat.le_of_ble_eq_true rfl, Nat.le_of_ble_eq_true rfl⟩ (Nat.le_of_ble_eq_true rfl) dX7_count_25 ?_
    exact j_iret C dX7_count_28 (by rfl) (by rfl) (by rfl)
  · replace h12 := b2i_1 h12
    exfalso
    first | contradiction | exact absurd (isL hV0 hk) (by assumption) | exact absurd ⟨by assumption, by assumption⟩ hbad | exact absurd ⟨by assumption, by assumption, by assumption⟩ hbad | exact absurd ⟨by assumption, by assumption, by assumption, by assumption⟩ hbad | exact absurd (by assumption) hbad
set_option maxHeartbeats 4000000 in
theorem c_X7_count_ok {l : Launch} {g : GC} {V : Mem} {L : LMem} {nl ns : Nat} (hR : RR nl ns V) {w : Nat} (hw : w < 11) : MC l yX7_count cX7_count 2 (some .int) 6 g V L [.ref (ad g 224), .int (nI w)] (some (.int (rCount (thr 0 V) nl ns w))) (thr 0 V) L := by
  refine MC.of [some (.ref (ad g 224)), some (.int (nI w))] (by decide +kernel) rfl (Nat.le_of_ble_eq_true rfl) (fun p e s m args below meth c C => ?_)
  have hV0 : RR nl ns (mset V 224 6 (nI 0)) := hR.put (Or.inl (by decide))
  refine j_aload_n C dX7_count_0 rfl rfl ?_
  refine j_iconst (v := (nI 0)) C dX7_count_1 (by decide) ?_
  refine jp_LeaseBookModel_thrown C (by first | assumption | rfl | exact kd_sums (by assumption) | exact kd_st1 (by assumption) | exact kd_st2 (by assumption) | exact kd_ls (by first | assumption | rfl) (by assumption) | exact kd_sb (by first | assumption | rfl) (by assumption) | exact kd_sv (by assumption)) qf_X7_25 dX7_count_2 ?_
  refine j_iload_n C dX7_count_5 rfl rfl ?_
  refine j_iconst (v := (nI 0)) C dX7_count_6 (by decide) ?_
  refine j_bipush (v := (nI 10)) C dX7_count_7 (by decide) ?_
  refine j_callS3r C (c_X7_in) qm_X7_42 qt_X7_in qn_X7 qc_X7_in fit_X7_in ⟨Nat.le_of_ble_eq_true rfl, Nat.le_of_ble_eq_true rfl, Nat.le_of_ble_eq_true rfl, Nat.le_of_ble_eq_true rfl⟩ (Nat.le_of_ble_eq_true rfl) dX7_count_9 ?_
  refine j_if_eq (tgt := 23) C dX7_count_12 (by decide) (fun h12 => ?_) (fun h12 => ?_)
  · replace h12 := b2i_0 h12
    exfalso
    first | contradiction | exact absurd (isL hV0 hk) (by assumption) | exact absurd ⟨by assumption, by assumption⟩ hbad | exact absurd ⟨by assumption, by assumption, by assumption⟩ hbad | exact absurd ⟨by assumption, by assumption, by assumption, by assumption⟩ hbad | exact absurd (show nI 0 ≤ nI w ∧ nI w ≤ nI 10 from inN (by omega) (by omega) (by omega)) (by assumption)
  · replace h12 := b2i_1 h12
    refine j_aload_n C dX7_count_15 rfl rfl ?_
    refine j_iload_n C dX7_count_16 rfl rfl ?_
    refine j_callV1r C (oa_X7 (by first | assumption | rfl | exact kd_sums (by assumption) | exact kd_st1 (by assumption) | exact kd_st2 (by assumption) | exact kd_ls (by first | assumption | rfl) (by assumption) | exact kd_sb (by first | assumption | rfl) (by assumption) | exact kd_sv (by assumption))) rfl rfl (c_X7_counted hw hV0) qm_X7_161 qi_X7_counted qs_X7_counted qn_X7 qc_X7_counted fit_X7_counted ⟨Nat.le_of_ble_eq_true rfl, Nat.le_of_ble_eq_true rfl, Nat.le_of_ble_eq_true rfl, Nat.le_of_ble_eq_true rfl⟩ (Nat.le_of_ble_eq_true rfl) dX7_count_17 ?_
    refine j_goto (tgt := 28) C dX7_count_20 (by decide) ?_
    exact j_iret C dX7_count_28 (by rfl) (by rfl) (by rfl)
set_option maxHeartbeats 4000000 in
theorem c_X7_worth_1 {l : Launch} {g : GC} {V : Mem} {L : LMem} {p1 n1 r : Int32} (hbad : ¬ (money p1 ∧ (nI 0 ≤ n1 ∧ n1 ≤ nI 60) ∧ rateR r)) : MC l yX7_worth cX7_worth 4 (some .int) 6 g V L [.ref (ad g 224), .int p1, .int n1, .int r] (some (.int 0)) (thr 1 (thr 0 V)) L := by
  refine MC.of [some (.ref (ad g 224)), some (.int p1), some (.int n1), some (.int r)] (by decide +kernel) rfl (Nat.le_of_ble_eq_true rfl) (fun p e s m args below meth c C => ?_)
  skip
  refine j_aload_n C dX7_worth_0 rfl rfl ?_
  refine j_iconst (v := (nI 0)) C dX7_worth_1 (by decide) ?_
  refine jp_LeaseBookModel_thrown C (by first | assumption | rfl | exact kd_sums (by assumption) | exact kd_st1 (by assumption) | exact kd_st2 (by assumption) | exact kd_ls (by first | assumption | rfl) (by assumption) | exact kd_sb (by first | assumption | rfl) (by assumption) | exact kd_sv (by assumption)) qf_X7_25 dX7_worth_2 ?_
  refine j_iload_n C dX7_worth_5 rfl rfl ?_
  refine j_callS1r C (c_X7_isMoney) qm_X7_57 qt_X7_isMoney qn_X7 qc_X7_isMoney fit_X7_isMoney ⟨Nat.le_of_ble_eq_true rfl, Nat.le_of_ble_eq_true rfl, Nat.le_of_ble_eq_true rfl, Nat.le_of_ble_eq_true rfl⟩ (Nat.le_of_ble_eq_true rfl) dX7_worth_6 ?_
  refine j_if_eq (tgt := 38) C dX7_worth_9 (by decide) (fun h9 => ?_) (fun h9 => ?_)
  · replace h9 := b2i_0 h9
    refine j_aload_n C dX7_worth_38 rfl rfl ?_
    refine j_iconst (v := (nI 1)) C dX7_worth_39 (by decide) ?_
    refine j_callV1r C (oa_X7 (by first | assumption | rfl | exact kd_sums (by assumption) | exact kd_st1 (by assumption) | exact kd_st2 (by assumption) | exact kd_ls (by first | assumption | rfl) (by assumption) | exact kd_sb (by first | assumption | rfl) (by assumption) | exact kd_sv (by assumption))) rfl rfl (c_X7_fails) qm_X7_67 qi_X7_fails qs_X7_fails qn_X7 qc_X7_fails fit_X7_fails ⟨Nat.le_of_ble_eq_true rfl, Nat.le_of_ble_eq_true rfl, Nat.le_of_ble_eq_true rfl, Nat.le_of_ble_eq_true rfl⟩ (Nat.le_of_ble_eq_true rfl) dX7_worth_40 ?_
    exact j_iret C dX7_worth_43 (by rfl) (by rfl) (by rfl)
  · replace h9 := b2i_1 h9
    refine j_iload_n C dX7_worth_12 rfl rfl ?_
    refine j_iconst (v := (nI 0)) C dX7_worth_13 (by decide) ?_
    refine j_bipush (v := (nI 60)) C dX7_worth_14 (by decide) ?_
    refine j_callS3r C (c_X7_in) qm_X7_42 qt_X7_in qn_X7 qc_X7_in fit_X7_in ⟨Nat.le_of_ble_eq_true rfl, Nat.le_of_ble_eq_true rfl, Nat.le_of_ble_eq_true rfl, Nat.le_of_ble_eq_true rfl⟩ (Nat.le_of_ble_eq_true rfl) dX7_worth_16 ?_
    refine j_if_eq (tgt := 38) C dX7_worth_19 (by decide) (fun h19 => ?_) (fun h19 => ?_)
    · replace h19 := b2i_0 h19
      refine j_aload_n C dX7_worth_38 rfl rfl ?_
      refine j_iconst (v := (nI 1)) C dX7_worth_39 (by decide) ?_
      refine j_callV1r C (oa_X7 (by first | assumption | rfl | exact kd_sums (by assumption) | exact kd_st1 (by assumption) | exact kd_st2 (by assumption) | exact kd_ls (by first | assumption | rfl) (by assumption) | exact kd_sb (by first | assumption | rfl) (by assumption) | exact kd_sv (by assumption))) rfl rfl (c_X7_fails) qm_X7_67 qi_X7_fails qs_X7_fails qn_X7 qc_X7_fails fit_X7_fails ⟨Nat.le_of_ble_eq_true rfl, Nat.le_of_ble_eq_true rfl, Nat.le_of_ble_eq_true rfl, Nat.le_of_ble_eq_true rfl⟩ (Nat.le_of_ble_eq_true rfl) dX7_worth_40 ?_
      exact j_iret C dX7_worth_43 (by rfl) (by rfl) (by rfl)
    · replace h19 := b2i_1 h19
      refine j_iload_n C dX7_worth_22 rfl rfl ?_
      refine j_callS1r C (c_X7_isRate) qm_X7_64 qt_X7_isRate qn_X7 qc_X7_isRate fit_X7_isRate ⟨Nat.le_of_ble_eq_true rfl, Nat.le_of_ble_eq_true rfl, Nat.le_of_ble_eq_true rfl, Nat.le_of_ble_eq_true rfl⟩ (Nat.le_of_ble_eq_true rfl) dX7_worth_23 ?_
      refine j_if_eq (tgt := 38) C dX7_worth_26 (by decide) (fun h26 => ?_) (fun h26 => ?_)
      · replace h26 := b2i_0 h26
        refine j_aload_n C dX7_worth_38 rfl rfl ?_
        refine j_iconst (v := (nI 1)) C dX7_worth_39 (by decide) ?_
        refine j_callV1r C (oa_X7 (by first | assumption | rfl | exact kd_sums (by assumption) | exact kd_st1 (by assumption) | exact kd_st2 (by assumption) | exact kd_ls (by first | assumption | rfl) (by assumption) | exact kd_sb (by first | assumption | rfl) (by assumption) | exact kd_sv (by assumption))) rfl rfl (c_X7_fails) qm_X7_67 qi_X7_fails qs_X7_fails qn_X7 qc_X7_fails fit_X7_fails ⟨Nat.le_of_ble_eq_true rfl, Nat.le_of_ble_eq_true rfl, Nat.le_of_ble_eq_true rfl, Nat.le_of_ble_eq_true rfl⟩ (Nat.le_of_ble_eq_true rfl) dX7_worth_40 ?_
        exact j_iret C dX7_worth_43 (by rfl) (by rfl) (by rfl)
      · replace h26 := b2i_1 h26
        exfalso
        first | contradiction | exact absurd (isL hV0 hk) (by assumption) | exact absurd ⟨by assumption, by assumption⟩ hbad | exact absurd ⟨by assumption, by assumption, by assumption⟩ hbad | exact absurd ⟨by assumption, by assumption, by assumption, by assumption⟩ hbad
set_option maxHeartbeats 4000000 in
theorem c_X7_worth_ok {l : Launch} {g : GC} {V : Mem} {L : LMem} {p1 n1 r : Int32} (h1 : money p1) (h2 : nI 0 ≤ n1 ∧ n1 ≤ nI 60) (h3 : rateR r) : MC l yX7_worth cX7_worth 4 (some .int) 6 g V L [.ref (ad g 224), .int p1, .int n1, .int r] (some (.int (wor p1 n1 r))) (thr 0 V) L := by
  refine MC.of [some (.ref (ad g 224)), some (.int p1), some (.int n1), some (.int r)] (by decide +kernel) rfl (Nat.le_of_ble_eq_true rfl) (fun p e s m args below meth c C => ?_)
  skip
  refine j_aload_n C dX7_worth_0 rfl rfl ?_
  refine j_iconst (v := (nI 0)) C dX7_worth_1 (by decide) ?_
  refine jp_LeaseBookModel_thrown C (by first | assumption | rfl | exact kd_sums (by assumption) | exact kd_st1 (by assumption) | exact kd_st2 (by assumption) | exact kd_ls (by first | assumption | rfl) (by assumption) | exact kd_sb (by first | assumption | rfl) (by assumption) | exact kd_sv (by assumption)) qf_X7_25 dX7_worth_2 ?_
  refine j_iload_n C dX7_worth_5 rfl rfl ?_
  refine j_callS1r C (c_X7_isMoney) qm_X7_57 qt_X7_isMoney qn_X7 qc_X7_isMoney fit_X7_isMoney ⟨Nat.le_of_ble_eq_true rfl, Nat.le_of_ble_eq_true rfl, Nat.le_of_ble_eq_true rfl, Nat.le_of_ble_eq_true rfl⟩ (Nat.le_of_ble_eq_true rfl) dX7_worth_6 ?_
  refine j_if_eq (tgt := 38) C dX7_worth_9 (by decide) (fun h9 => ?_) (fun h9 => ?_)
  · replace h9 := b2i_0 h9
    exfalso
    first | contradiction | exact absurd (isL hV0 hk) (by assumption) | exact absurd ⟨by assumption, by assumption⟩ hbad | exact absurd ⟨by assumption, by assumption, by assumption⟩ hbad | exact absurd ⟨by assumption, by assumption, by assumption, by assumption⟩ hbad
  · replace h9 := b2i_1 h9
    refine j_iload_n C dX7_worth_12 rfl rfl ?_
    refine j_iconst (v := (nI 0)) C dX7_worth_13 (by decide) ?_
    refine j_bipush (v := (nI 60)) C dX7_worth_14 (by decide) ?_
    refine j_callS3r C (c_X7_in) qm_X7_42 qt_X7_in qn_X7 qc_X7_in fit_X7_in ⟨Nat.le_of_ble_eq_true rfl, Nat.le_of_ble_eq_true rfl, Nat.le_of_ble_eq_true rfl, Nat.le_of_ble_eq_true rfl⟩ (Nat.le_of_ble_eq_true rfl) dX7_worth_16 ?_
    refine j_if_eq (tgt := 38) C dX7_worth_19 (by decide) (fun h19 => ?_) (fun h19 => ?_)
    · replace h19 := b2i_0 h19
      exfalso
      first | contradiction | exact absurd (isL hV0 hk) (by assumption) | exact absurd ⟨by assumption, by assumption⟩ hbad | exact absurd ⟨by assumption, by assumption, by assumption⟩ hbad | exact absurd ⟨by assumption, by assumption, by assumption, by assumption⟩ hbad
    · replace h19 := b2i_1 h19
      refine j_iload_n C dX7_worth_22 rfl rfl ?_
      refine j_callS1r C (c_X7_isRate) qm_X7_64 qt_X7_isRate qn_X7 qc_X7_isRate fit_X7_isRate ⟨Nat.le_of_ble_eq_true rfl, Nat.le_of_ble_eq_true rfl, Nat.le_of_ble_eq_true rfl, Nat.le_of_ble_eq_true rfl⟩ (Nat.le_of_ble_eq_true rfl) dX7_worth_23 ?_
      refine j_if_eq (tgt := 38) C dX7_worth_26 (by decide) (fun h26 => ?_) (fun h26 => ?_)
      · replace h26 := b2i_0 h26
        exfalso
        first | contradiction | exact absurd (isL hV0 hk) (by assumption) | exact absurd ⟨by assumption, by assumption⟩ hbad | exact absurd ⟨by assumption, by assumption, by assumption⟩ hbad | exact absurd ⟨by assumption, by assumption, by assumption, by assumption⟩ hbad
      · replace h26 := b2i_1 h26
        refine j_iload_n C dX7_worth_29 rfl rfl ?_
        refine j_iload_n C dX7_worth_30 rfl rfl ?_
        refine j_iload_n C dX7_worth_31 rfl rfl ?_
        refine j_callS3r C (c_X7_worthOf h3) qm_X7_49 qt_X7_worthOf qn_X7 qc_X7_worthOf fit_X7_worthOf ⟨Nat.le_of_ble_eq_true rfl, Nat.le_of_ble_eq_true rfl, Nat.le_of_ble_eq_true rfl, Nat.le_of_ble_eq_true rfl⟩ (Nat.le_of_ble_eq_true rfl) dX7_worth_32 ?_
        refine j_goto (tgt := 43) C dX7_worth_35 (by decide) ?_
        exact j_iret C dX7_worth_43 (by rfl) (by rfl) (by rfl)
set_option maxHeartbeats 4000000 in
theorem c_X7_append_1 {l : Launch} {g : GC} {V : Mem} {L : LMem} {x : Int32} (hbad : ¬ (nI 33 ≤ x ∧ x ≤ nI 126)) : MC l yX7_append cX7_append 2 (some .int) 6 g V L [.ref (ad g 224), .int x] (some (.int 0)) (thr 1 (thr 0 V)) L := by
  refine MC.of [some (.ref (ad g 224)), some (.int x)] (by decide +kernel) rfl (Nat.le_of_ble_eq_true rfl) (fun p e s m args below meth c C => ?_)
  skip
  refine j_aload_n C dX7_append_0 rfl rfl ?_
  refine j_iconst (v := (nI 0)) C dX7_append_1 (by decide) ?_
  refine jp_LeaseBookModel_thrown C (by first | assumption | rfl | exact kd_sums (by assumption) | exact kd_st1 (by assumption) | exact kd_st2 (by assumption) | exact kd_ls (by first | assumption | rfl) (by assumption) | exact kd_sb (by first | assumption | rfl) (by assumption) | exact kd_sv (by assumption)) qf_X7_25 dX7_append_2 ?_
  refine j_iload_n C dX7_append_5 rfl rfl ?_
  refine j_bipush (v := (nI 33)) C dX7_append_6 (by decide) ?_
  refine j_bipush (v := (nI 126)) C dX7_append_8 (by decide) ?_
  refine j_callS3r C (c_X7_in) qm_X7_42 qt_X7_in qn_X7 qc_X7_in fit_X7_in ⟨Nat.le_of_ble_eq_true rfl, Nat.le_of_ble_eq_true rfl, Nat.le_of_ble_eq_true rfl, Nat.le_of_ble_eq_true rfl⟩ (Nat.le_of_ble_eq_true rfl) dX7_append_10 ?_
  refine j_if_ne (tgt := 22) C dX7_append_13 (by decide) (fun h13 => ?_) (fun h13 => ?_)
  · replace h13 := b2i_1 h13
    exfalso
    first | contradiction | exact absurd (isL hV0 hk) (by assumption) | exact absurd ⟨by assumption, by assumption⟩ hbad | exact absurd ⟨by assumption, by assumption, by assumption⟩ hbad | exact absurd ⟨by assumption, by assumption, by assumption, by assumption⟩ hbad | exact absurd (by assumption) hbad
  · replace h13 := b2i_0 h13
    refine j_aload_n C dX7_append_16 rfl rfl ?_
    refine j_iconst (v := (nI 1)) C dX7_append_17 (by decide) ?_
    refine j_callV1r C (oa_X7 (by first | assumption | rfl | exact kd_sums (by assumption) | exact kd_st1 (by assumption) | exact kd_st2 (by assumption) | exact kd_ls (by first | assumption | rfl) (by assumption) | exact kd_sb (by first | assumption | rfl) (by assumption) | exact kd_sv (by assumption))) rfl rfl (c_X7_fails) qm_X7_67 qi_X7_fails qs_X7_fails qn_X7 qc_X7_fails fit_X7_fails ⟨Nat.le_of_ble_eq_true rfl, Nat.le_of_ble_eq_true rfl, Nat.le_of_ble_eq_true rfl, Nat.le_of_ble_eq_true rfl⟩ (Nat.le_of_ble_eq_true rfl) dX7_append_18 ?_
    exact j_iret C dX7_append_21 (by rfl) (by rfl) (by rfl)
set_option maxHeartbeats 4000000 in
theorem c_X7_append_2 {l : Launch} {g : GC} {V : Mem} {L : LMem} {x : Int32} (h1 : nI 33 ≤ x ∧ x ≤ nI 126) (hz : V 224 5 = nI 60) : MC l yX7_append cX7_append 2 (some .int) 6 g V L [.ref (ad g 224), .int x] (some (.int 0)) (thr 2 (thr 0 V)) L := by
  refine MC.of [some (.ref (ad g 224)), some (.int x)] (by decide +kernel) rfl (Nat.le_of_ble_eq_true rfl) (fun p e s m args below meth c C => ?_)
  skip
  refine j_aload_n C dX7_append_0 rfl rfl ?_
  refine j_iconst (v := (nI 0)) C dX7_append_1 (by decide) ?_
  refine jp_LeaseBookModel_thrown C (by first | assumption | rfl | exact kd_sums (by assumption) | exact kd_st1 (by assumption) | exact kd_st2 (by assumption) | exact kd_ls (by first | assumption | rfl) (by assumption) | exact kd_sb (by first | assumption | rfl) (by assumption) | exact kd_sv (by assumption)) qf_X7_25 dX7_append_2 ?_
  refine j_iload_n C dX7_append_5 rfl rfl ?_
  refine j_bipush (v := (nI 33)) C dX7_append_6 (by decide) ?_
  refine j_bipush (v := (nI 126)) C dX7_append_8 (by decide) ?_
  refine j_callS3r C (c_X7_in) qm_X7_42 qt_X7_in qn_X7 qc_X7_in fit_X7_in ⟨Nat.le_of_ble_eq_true rfl, Nat.le_of_ble_eq_true rfl, Nat.le_of_ble_eq_true rfl, Nat.le_of_ble_eq_true rfl⟩ (Nat.le_of_ble_eq_true rfl) dX7_append_10 ?_
  refine j_if_ne (tgt := 22) C dX7_append_13 (by decide) (fun h13 => ?_) (fun h13 => ?_)
  · replace h13 := b2i_1 h13
    refine j_aload_n C dX7_append_22 rfl rfl ?_
    refine jg_LeaseBookModel_bufferMany C (by first | assumption | rfl | exact kd_sums (by assumption) | exact kd_st1 (by assumption) | exact kd_st2 (by assumption) | exact kd_ls (by first | assumption | rfl) (by assumption) | exact kd_sb (by first | assumption | rfl) (by assumption) | exact kd_sv (by assumption)) qf_X7_114 dX7_append_23 ?_
    refine j_bipush (v := (nI 60)) C dX7_append_26 (by decide) ?_
    refine j_icmp_ne (tgt := 37) C dX7_append_28 (by decide) (fun h28 => ?_) (fun h28 => ?_)
    · exfalso
      first | contradiction | exact absurd (isL hV0 hk) (by assumption) | exact absurd ⟨by assumption, by assumption⟩ hbad | exact absurd ⟨by assumption, by assumption, by assumption⟩ hbad | exact absurd ⟨by assumption, by assumption, by assumption, by assumption⟩ hbad | exact absurd (by assumption) (by first | assumption | exact fun q => absurd hz q) | exact absurd ((mset_ne (by omega)).trans hz) (by assumption)
    · refine j_aload_n C dX7_append_31 rfl rfl ?_
      refine j_iconst (v := (nI 2)) C dX7_append_32 (by decide) ?_
      refine j_callV1r C (oa_X7 (by first | assumption | rfl | exact kd_sums (by assumption) | exact kd_st1 (by assumption) | exact kd_st2 (by assumption) | exact kd_ls (by first | assumption | rfl) (by assumption) | exact kd_sb (by first | assumption | rfl) (by assumption) | exact kd_sv (by assumption))) rfl rfl (c_X7_fails) qm_X7_67 qi_X7_fails qs_X7_fails qn_X7 qc_X7_fails fit_X7_fails ⟨Nat.le_of_ble_eq_true rfl, Nat.le_of_ble_eq_true rfl, Nat.le_of_ble_eq_true rfl, Nat.le_of_ble_eq_true rfl⟩ (Nat.le_of_ble_eq_true rfl) dX7_append_33 ?_
      exact j_iret C dX7_append_36 (by rfl) (by rfl) (by rfl)
  · replace h13 := b2i_0 h13
    exfalso
    first | contradiction | exact absurd (isL hV0 hk) (by assumption) | exact absurd ⟨by assumption, by assumption⟩ hbad | exact absurd ⟨by assumption, by assumption, by assumption⟩ hbad | exact absurd ⟨by assumption, by assumption, by assumption, by assumption⟩ hbad | exact absurd (by assumption) (by first | assumption | exact fun q => absurd hz q) | exact absurd ((mset_ne (by omega)).trans hz) (by assumption)
set_option maxHeartbeats 4000000 in
theorem c_X7_append_ok {l : Launch} {g : GC} {V : Mem} {L : LMem} {x : Int32} {bm : Nat} (h1 : nI 33 ≤ x ∧ x ≤ nI 126) (hz : V 224 5 = nI bm) (hb : bm < 60) : MC l yX7_append cX7_append 2 (some .int) 6 g V L [.ref (ad g 224), .int x] (some (.int (mset (thr 0 V) 228 bm x 224 5 + nI 1))) (mset (mset (thr 0 V) 228 bm x) 224 5 (mset (thr 0 V) 228 bm x 224 5 + nI 1)) L := by
  refine MC.of [some (.ref (ad g 224)), some (.int x)] (by decide +kernel) rfl (Nat.le_of_ble_eq_true rfl) (fun p e s m args below meth c C => ?_)
  have hz0 : (mset V 224 6 (nI 0)) 224 5 = nI bm := (mset_ne (by omega)).trans hz
  refine j_aload_n C dX7_append_0 rfl rfl ?_
  refine j_iconst (v := (nI 0)) C dX7_append_1 (by decide) ?_
  refine jp_LeaseBookModel_thrown C (by first | assumption | rfl | exact kd_sums (by assumption) | exact kd_st1 (by assumption) | exact kd_st2 (by assumption) | exact kd_ls (by first | assumption | rfl) (by assumption) | exact kd_sb (by first | assumption | rfl) (by assumption) | exact kd_sv (by assumption)) qf_X7_25 dX7_append_2 ?_
  refine j_iload_n C dX7_append_5 rfl rfl ?_
  refine j_bipush (v := (nI 33)) C dX7_append_6 (by decide) ?_
  refine j_bipush (v := (nI 126)) C dX7_append_8 (by decide) ?_
  refine j_callS3r C (c_X7_in) qm_X7_42 qt_X7_in qn_X7 qc_X7_in fit_X7_in ⟨Nat.le_of_ble_eq_true rfl, Nat.le_of_ble_eq_true rfl, Nat.le_of_ble_eq_true rfl, Nat.le_of_ble_eq_true rfl⟩ (Nat.le_of_ble_eq_true rfl) dX7_append_10 ?_
  refine j_if_ne (tgt := 22) C dX7_append_13 (by decide) (fun h13 => ?_) (fun h13 => ?_)
  · replace h13 := b2i_1 h13
    refine j_aload_n C dX7_append_22 rfl rfl ?_
    refine jg_LeaseBookModel_bufferMany C (by first | assumption | rfl | exact kd_sums (by assumption) | exact kd_st1 (by assumption) | exact kd_st2 (by assumption) | exact kd_ls (by first | assumption | rfl) (by assumption) | exact kd_sb (by first | assumption | rfl) (by assumption) | exact kd_sv (by assumption)) qf_X7_114 dX7_append_23 ?_
    refine j_bipush (v := (nI 60)) C dX7_append_26 (by decide) ?_
    refine j_icmp_ne (tgt := 37) C dX7_append_28 (by decide) (fun h28 => ?_) (fun h28 => ?_)
    · refine j_aload_n C dX7_append_37 rfl rfl ?_
      refine jg_LeaseBookModel_buffer C (by first | assumption | rfl | exact kd_sums (by assumption) | exact kd_st1 (by assumption) | exact kd_st2 (by assumption) | exact kd_ls (by first | assumption | rfl) (by assumption) | exact kd_sb (by first | assumption | rfl) (by assumption) | exact kd_sv (by assumption)) qf_X7_19 dX7_append_38 ?_
      refine j_aload_n C dX7_append_41 rfl rfl ?_
      refine jg_LeaseBookModel_bufferMany C (by first | assumption | rfl | exact kd_sums (by assumption) | exact kd_st1 (by assumption) | exact kd_st2 (by assumption) | exact kd_ls (by first | assumption | rfl) (by assumption) | exact kd_sb (by first | assumption | rfl) (by assumption) | exact kd_sv (by assumption)) qf_X7_114 dX7_append_42 ?_
      refine j_tope (y := nI bm) (by exact hz0) ?_
      refine j_iload_n C dX7_append_45 rfl rfl ?_
      refine j_iastN C (by first | assumption | rfl | exact kd_sums (by assumption) | exact kd_st1 (by assumption) | exact kd_st2 (by assumption) | exact kd_ls (by first | assumption | rfl) (by assumption) | exact kd_sb (by first | assumption | rfl) (by assumption) | exact kd_sv (by assumption)) rfl rfl (by omega) dX7_append_46 ?_
      refine j_aload_n C dX7_append_47 rfl rfl ?_
      refine j_dup C dX7_append_48 rfl ?_
      refine jg_LeaseBookModel_bufferMany C (by first | assumption | rfl | exact kd_sums (by assumption) | exact kd_st1 (by assumption) | exact kd_st2 (by assumption) | exact kd_ls (by first | assumption | rfl) (by assumption) | exact kd_sb (by first | assumption | rfl) (by assumption) | exact kd_sv (by assumption)) qf_X7_114 dX7_append_49 ?_
      refine j_iconst (v := (nI 1)) C dX7_append_52 (by decide) ?_
      refine j_iadd C dX7_append_53 ?_
      refine jp_LeaseBookModel_bufferMany C (by first | assumption | rfl | exact kd_sums (by assumption) | exact kd_st1 (by assumption) | exact kd_st2 (by assumption) | exact kd_ls (by first | assumption | rfl) (by assumption) | exact kd_sb (by first | assumption | rfl) (by assumption) | exact kd_sv (by assumption)) qf_X7_114 dX7_append_54 ?_
      refine j_aload_n C dX7_append_57 rfl rfl ?_
      refine jg_LeaseBookModel_bufferMany C (by first | assumption | rfl | exact kd_sums (by assumption) | exact kd_st1 (by assumption) | exact kd_st2 (by assumption) | exact kd_ls (by first | assumption | rfl) (by assumption) | exact kd_sb (by first | assumption | rfl) (by assumption) | exact kd_sv (by assumption)) qf_X7_114 dX7_append_58 ?_
      exact j_iret C dX7_append_61 (by rw [mset_at]) (by rfl) (by rfl)
    · exfalso
      first | contradiction | exact absurd (isL hV0 hk) (by assumption) | exact absurd ⟨by assumption, by assumption⟩ hbad | exact absurd ⟨by assumption, by assumption, by assumption⟩ hbad | exact absurd ⟨by assumption, by assumption, by assumption, by assumption⟩ hbad | exact absurd (hz0.symm.trans (by assumption)) (fun q => absurd ((nI_eq (by omega) (by omega)).mp q) (by omega))
  · replace h13 := b2i_0 h13
    exfalso
    first | contradiction | exact absurd (isL hV0 hk) (by assumption) | exact absurd ⟨by assumption, by assumption⟩ hbad | exact absurd ⟨by assumption, by assumption, by assumption⟩ hbad | exact absurd ⟨by assumption, by assumption, by assumption, by assumption⟩ hbad | exact absurd (hz0.symm.trans (by assumption)) (fun q => absurd ((nI_eq (by omega) (by omega)).mp q) (by omega))
set_option maxHeartbeats 4000000 in
theorem c_X7_clearBuffer {l : Launch} {g : GC} {V : Mem} {L : LMem}  : MC l yX7_clearBuffer cX7_clearBuffer 2 (some .int) 0 g V L [.ref (ad g 224)] (some (.int ((thr 0 V) 224 5))) (mset (thr 0 V) 224 5 (nI 0)) L := by
  refine MC.of [some (.ref (ad g 224)), none] (by decide +kernel) rfl (Nat.le_of_ble_eq_true rfl) (fun p e s m args below meth c C => ?_)
  refine j_aload_n C dX7_clearBuffer_0 rfl rfl ?_
  refine j_iconst (v := (nI 0)) C dX7_clearBuffer_1 (by decide) ?_
  refine jp_LeaseBookModel_thrown C (by first | assumption | rfl | exact kd_sums (by assumption) | exact kd_st1 (by assumption) | exact kd_st2 (by assumption) | exact kd_ls (by first | assumption | rfl) (by assumption) | exact kd_sb (by first | assumption | rfl) (by assumption) | exact kd_sv (by assumption)) qf_X7_25 dX7_clearBuffer_2 ?_
  refine j_aload_n C dX7_clearBuffer_5 rfl rfl ?_
  refine jg_LeaseBookModel_bufferMany C (by first | assumption | rfl | exact kd_sums (by assumption) | exact kd_st1 (by assumption) | exact kd_st2 (by assumption) | exact kd_ls (by first | assumption | rfl) (by assumption) | exact kd_sb (by first | assumption | rfl) (by assumption) | exact kd_sv (by assumption)) qf_X7_114 dX7_clearBuffer_6 ?_
  refine j_ist1 C dX7_clearBuffer_9 rfl (Nat.le_of_ble_eq_true rfl) rfl ?_
  refine j_aload_n C dX7_clearBuffer_10 rfl rfl ?_
  refine j_iconst (v := (nI 0)) C dX7_clearBuffer_11 (by decide) ?_
  refine jp_LeaseBookModel_bufferMany C (by first | assumption | rfl | exact kd_sums (by assumption) | exact kd_st1 (by assumption) | exact kd_st2 (by assumption) | exact kd_ls (by first | assumption | rfl) (by assumption) | exact kd_sb (by first | assumption | rfl) (by assumption) | exact kd_sv (by assumption)) qf_X7_114 dX7_clearBuffer_12 ?_
  refine j_iload_n C dX7_clearBuffer_15 rfl rfl ?_
  exact j_iret C dX7_clearBuffer_16 (by rfl) (by rfl) (by rfl)
