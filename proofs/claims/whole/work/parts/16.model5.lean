/-! THE MODEL'S METHODS, 5: searches (laid by wip/whole/p16.py) -/
set_option maxHeartbeats 4000000 in
theorem lp_X7_paymentOf {p : Program} {l : Launch} {e : Env} {s : State} {m : MethodId} {args : Array Value} {below : List Frame} {meth : Method} {c : Code} {g : GC} {Q : State → Prop} {V : Mem} {L : LMem} {k nl ns : Nat} {li : Int32} (C : Cx p s args m meth c cX7_paymentOf 7 yX7_paymentOf.cls (some .int) g) (hk : k < nl) (hR : RR nl ns V) : ∀ n lo hi : Nat, lo ≤ hi → hi ≤ 100000 → hi - lo ≤ n → (J p l e (RM 2) s m args below meth c 7 g 0 0 Q V L 101 [some (.ref (ad g 224)), some (.int (nI k)), some (.int li), some (.int (nI (rBs (fun p => decide (wor (nI p) (V 225 (3 + 22 * k + 1)) (V 225 (3 + 22 * k + 2)) ≤ li)) n lo hi))), none, none, none] []) → J p l e (RM 2) s m args below meth c 7 g 0 0 Q V L 16 [some (.ref (ad g 224)), some (.int (nI k)), some (.int li), some (.int (nI lo)), some (.int (nI hi)), none, none] [] := by
  intro n
  induction n with
  | zero =>
    intro lo hi h1 h2 h3 kx
    refine j_iload_n C dX7_paymentOf_16 rfl rfl ?_
    refine j_iload C dX7_paymentOf_17 rfl ?_
    refine j_icmp_ge (tgt := 101) C dX7_paymentOf_19 (by decide) (fun h19 => ?_) (fun h19 => absurd (nI_le (by omega) (by omega)) h19)
    exact j_dr (lv' := [some (.ref (ad g 224)), some (.int (nI k)), some (.int li), some (.int (nI (rBs (fun p => decide (wor (nI p) (V 225 (3 + 22 * k + 1)) (V 225 (3 + 22 * k + 2)) ≤ li)) 0 lo hi))), none, none, none]) (And.intro rfl (And.intro rfl (And.intro rfl (And.intro rfl True.intro)))) kx
  | succ n ih =>
    intro lo hi h1 h2 h3 kx
    by_cases hlt : lo < hi
    · have hk8 : k < 8 := Nat.lt_of_lt_of_le hk hR.1
      refine j_iload_n C dX7_paymentOf_16 rfl rfl ?_
      refine j_iload C dX7_paymentOf_17 rfl ?_
      refine j_icmp_ge (tgt := 101) C dX7_paymentOf_19 (by decide) (fun h19 => absurd h19 (nI_ge hlt (by omega))) (fun h19 => ?_)
      refine j_iload_n C dX7_paymentOf_22 rfl rfl ?_
      refine j_iload C dX7_paymentOf_23 rfl ?_
      refine j_iaddN C dX7_paymentOf_25 ?_
      refine j_iconst (v := (nI 1)) C dX7_paymentOf_26 (by decide) ?_
      refine j_iaddN C dX7_paymentOf_27 ?_
      refine j_iconst (v := (nI 2)) C dX7_paymentOf_28 (by decide) ?_
      refine j_idivN C dX7_paymentOf_29 (by omega) (by omega) (by omega) ?_
      refine j_ist5 C dX7_paymentOf_30 (Nat.le_of_ble_eq_true rfl) rfl ?_
      refine j_iload C dX7_paymentOf_32 rfl ?_
      refine j_aload_n C dX7_paymentOf_34 rfl rfl ?_
      refine jg_LeaseBookModel_z C (by first | assumption | rfl | exact kd_sums (by assumption) | exact kd_st1 (by assumption) | exact kd_st2 (by assumption) | exact kd_ls (by first | assumption | rfl) (by assumption) | exact kd_sb (by first | assumption | rfl) (by assumption) | exact kd_sv (by assumption)) qf_X7_7 dX7_paymentOf_35 ?_
      refine j_iload_n C dX7_paymentOf_38 rfl rfl ?_
      refine j_callS1r C (c_X7_at) qm_X7_32 qt_X7_at qn_X7 qc_X7_at fit_X7_at ⟨Nat.le_of_ble_eq_true rfl, Nat.le_of_ble_eq_true rfl, Nat.le_of_ble_eq_true rfl, Nat.le_of_ble_eq_true rfl⟩ (Nat.le_of_ble_eq_true rfl) dX7_paymentOf_39 ?_
      refine j_iconst (v := (nI 1)) C dX7_paymentOf_42 (by decide) ?_
      refine j_iaddN C dX7_paymentOf_43 ?_
      refine j_ialdN C (by first | assumption | rfl | exact kd_sums (by assumption) | exact kd_st1 (by assumption) | exact kd_st2 (by assumption) | exact kd_ls (by first | assumption | rfl) (by assumption) | exact kd_sb (by first | assumption | rfl) (by assumption) | exact kd_sv (by assumption)) rfl rfl (by omega) dX7_paymentOf_44 ?_
      refine j_aload_n C dX7_paymentOf_45 rfl rfl ?_
      refine jg_LeaseBookModel_z C (by first | assumption | rfl | exact kd_sums (by assumption) | exact kd_st1 (by assumption) | exact kd_st2 (by assumption) | exact kd_ls (by first | assumption | rfl) (by assumption) | exact kd_sb (by first | assumption | rfl) (by assumption) | exact kd_sv (by assumption)) qf_X7_7 dX7_paymentOf_46 ?_
      refine j_iload_n C dX7_paymentOf_49 rfl rfl ?_
      refine j_callS1r C (c_X7_at) qm_X7_32 qt_X7_at qn_X7 qc_X7_at fit_X7_at ⟨Nat.le_of_ble_eq_true rfl, Nat.le_of_ble_eq_true rfl, Nat.le_of_ble_eq_true rfl, Nat.le_of_ble_eq_true rfl⟩ (Nat.le_of_ble_eq_true rfl) dX7_paymentOf_50 ?_
      refine j_iconst (v := (nI 2)) C dX7_paymentOf_53 (by decide) ?_
      refine j_iaddN C dX7_paymentOf_54 ?_
      refine j_ialdN C (by first | assumption | rfl | exact kd_sums (by assumption) | exact kd_st1 (by assumption) | exact kd_st2 (by assumption) | exact kd_ls (by first | assumption | rfl) (by assumption) | exact kd_sb (by first | assumption | rfl) (by assumption) | exact kd_sv (by assumption)) rfl rfl (by omega) dX7_paymentOf_55 ?_
      refine j_callS3r C (c_X7_worthOf (hR.2.2.2.2.1 k hk)) qm_X7_49 qt_X7_worthOf qn_X7 qc_X7_worthOf fit_X7_worthOf ⟨Nat.le_of_ble_eq_true rfl, Nat.le_of_ble_eq_true rfl, Nat.le_of_ble_eq_true rfl, Nat.le_of_ble_eq_true rfl⟩ (Nat.le_of_ble_eq_true rfl) dX7_paymentOf_56 ?_
      refine j_iload_n C dX7_paymentOf_59 rfl rfl ?_
      refine j_icmp_gt (tgt := 67) C dX7_paymentOf_60 (by decide) (fun h60 => ?_) (fun h60 => ?_)
      · refine j_iconst (v := (nI 0)) C dX7_paymentOf_67 (by decide) ?_
        refine j_ist6 C dX7_paymentOf_68 (Nat.le_of_ble_eq_true rfl) rfl ?_
        refine j_iload C dX7_paymentOf_70 rfl ?_
        refine j_if_eq (tgt := 80) C dX7_paymentOf_72 (by decide) (fun h72 => ?_) (fun h72 => (by exact absurd h72 (by decide)))
        refine j_iload_n C dX7_paymentOf_80 rfl rfl ?_
        refine j_ist3 C dX7_paymentOf_81 rfl (Nat.le_of_ble_eq_true rfl) rfl ?_
        refine j_iload C dX7_paymentOf_82 rfl ?_
        refine j_if_eq (tgt := 92) C dX7_paymentOf_84 (by decide) (fun h84 => ?_) (fun h84 => (by exact absurd h84 (by decide)))
        refine j_iload C dX7_paymentOf_92 rfl ?_
        refine j_iconst (v := (nI 1)) C dX7_paymentOf_94 (by decide) ?_
        refine j_isubN C dX7_paymentOf_95 (by omega) ?_
        refine j_ist4 C dX7_paymentOf_96 (Nat.le_of_ble_eq_true rfl) rfl ?_
        refine j_goto (tgt := 16) C dX7_paymentOf_98 (by decide) ?_
        first
          | exact j_dr (lv' := [some (.ref (ad g 224)), some (.int (nI k)), some (.int li), some (.int (nI ((lo + hi + 1) / 2))), some (.int (nI hi)), none, none]) (And.intro rfl (And.intro rfl (And.intro rfl (And.intro rfl (And.intro rfl True.intro))))) (ih _ _ (by omega) (by omega) (by omega) (by have kx2 := kx; rw [rBs, if_pos hlt, if_pos (by first | exact decide_eq_true (by first | assumption | exact Int32.not_lt.mp (by assumption)) | (intro q; exact absurd (of_decide_eq_true q) (by first | assumption | exact Int32.not_le.mpr (by assumption))))] at kx2; exact kx2))
          | exact j_dr (lv' := [some (.ref (ad g 224)), some (.int (nI k)), some (.int li), some (.int (nI lo)), some (.int (nI (((lo + hi + 1) / 2) - 1))), none, none]) (And.intro rfl (And.intro rfl (And.intro rfl (And.intro rfl (And.intro rfl True.intro))))) (ih _ _ (by omega) (by omega) (by omega) (by have kx2 := kx; rw [rBs, if_pos hlt, if_neg (by first | exact decide_eq_true (by first | assumption | exact Int32.not_lt.mp (by assumption)) | (intro q; exact absurd (of_decide_eq_true q) (by first | assumption | exact Int32.not_le.mpr (by assumption))))] at kx2; exact kx2))
      · refine j_iconst (v := (nI 1)) C dX7_paymentOf_63 (by decide) ?_
        refine j_goto (tgt := 68) C dX7_paymentOf_64 (by decide) ?_
        refine j_ist6 C dX7_paymentOf_68 (Nat.le_of_ble_eq_true rfl) rfl ?_
        refine j_iload C dX7_paymentOf_70 rfl ?_
        refine j_if_eq (tgt := 80) C dX7_paymentOf_72 (by decide) (fun h72 => (by exact absurd h72 (by decide))) (fun h72 => ?_)
        refine j_iload C dX7_paymentOf_75 rfl ?_
        refine j_goto (tgt := 81) C dX7_paymentOf_77 (by decide) ?_
        refine j_ist3 C dX7_paymentOf_81 rfl (Nat.le_of_ble_eq_true rfl) rfl ?_
        refine j_iload C dX7_paymentOf_82 rfl ?_
        refine j_if_eq (tgt := 92) C dX7_paymentOf_84 (by decide) (fun h84 => (by exact absurd h84 (by decide))) (fun h84 => ?_)
        refine j_iload C dX7_paymentOf_87 rfl ?_
        refine j_goto (tgt := 96) C dX7_paymentOf_89 (by decide) ?_
        refine j_ist4 C dX7_paymentOf_96 (Nat.le_of_ble_eq_true rfl) rfl ?_
        refine j_goto (tgt := 16) C dX7_paymentOf_98 (by decide) ?_
        first
          | exact j_dr (lv' := [some (.ref (ad g 224)), some (.int (nI k)), some (.int li), some (.int (nI ((lo + hi + 1) / 2))), some (.int (nI hi)), none, none]) (And.intro rfl (And.intro rfl (And.intro rfl (And.intro rfl (And.intro rfl True.intro))))) (ih _ _ (by omega) (by omega) (by omega) (by have kx2 := kx; rw [rBs, if_pos hlt, if_pos (by first | exact decide_eq_true (by first | assumption | exact Int32.not_lt.mp (by assumption)) | (intro q; exact absurd (of_decide_eq_true q) (by first | assumption | exact Int32.not_le.mpr (by assumption))))] at kx2; exact kx2))
          | exact j_dr (lv' := [some (.ref (ad g 224)), some (.int (nI k)), some (.int li), some (.int (nI lo)), some (.int (nI (((lo + hi + 1) / 2) - 1))), none, none]) (And.intro rfl (And.intro rfl (And.intro rfl (And.intro rfl (And.intro rfl True.intro))))) (ih _ _ (by omega) (by omega) (by omega) (by have kx2 := kx; rw [rBs, if_pos hlt, if_neg (by first | exact decide_eq_true (by first | assumption | exact Int32.not_lt.mp (by assumption)) | (intro q; exact absurd (of_decide_eq_true q) (by first | assumption | exact Int32.not_le.mpr (by assumption))))] at kx2; exact kx2))
    · have hk8 : k < 8 := Nat.lt_of_lt_of_le hk hR.1
      refine j_iload_n C dX7_paymentOf_16 rfl rfl ?_
      refine j_iload C dX7_paymentOf_17 rfl ?_
      refine j_icmp_ge (tgt := 101) C dX7_paymentOf_19 (by decide) (fun h19 => ?_) (fun h19 => absurd (nI_le (by omega) (by omega)) h19)
      have kx2 := kx
      rw [rBs, if_neg hlt] at kx2
      exact j_dr (lv' := [some (.ref (ad g 224)), some (.int (nI k)), some (.int li), some (.int (nI lo)), none, none, none]) (And.intro rfl (And.intro rfl (And.intro rfl (And.intro rfl True.intro)))) kx2
set_option maxHeartbeats 4000000 in
theorem c_X7_paymentOf {l : Launch} {g : GC} {V : Mem} {L : LMem} {k nl ns : Nat} {li : Int32} (hk : k < nl) (hR : RR nl ns V) : MC l yX7_paymentOf cX7_paymentOf 7 (some .int) 2 g V L [.ref (ad g 224), .int (nI k), .int li] (some (.int (rPay V k li))) V L := by
  refine MC.of [some (.ref (ad g 224)), some (.int (nI k)), some (.int li), none, none, none, none] (by decide +kernel) rfl (Nat.le_of_ble_eq_true rfl) (fun p e s m args below meth c C => ?_)
  have hk8 : k < 8 := Nat.lt_of_lt_of_le hk hR.1
  refine j_aload_n C dX7_paymentOf_0 rfl rfl ?_
  refine j_iload_n C dX7_paymentOf_1 rfl rfl ?_
  refine j_callV1r C (oa_X7 (by first | assumption | rfl | exact kd_sums (by assumption) | exact kd_st1 (by assumption) | exact kd_st2 (by assumption) | exact kd_ls (by first | assumption | rfl) (by assumption) | exact kd_sb (by first | assumption | rfl) (by assumption) | exact kd_sv (by assumption))) rfl rfl (c_X7_runs hk8) qm_X7_87 qi_X7_runs qs_X7_runs qn_X7 qc_X7_runs fit_X7_runs ⟨Nat.le_of_ble_eq_true rfl, Nat.le_of_ble_eq_true rfl, Nat.le_of_ble_eq_true rfl, Nat.le_of_ble_eq_true rfl⟩ (Nat.le_of_ble_eq_true rfl) dX7_paymentOf_2 ?_
  refine j_if_ne (tgt := 10) C dX7_paymentOf_5 (by decide) (fun h5 => ?_) (fun h5 => ?_)
  · replace h5 := b2i_1 h5
    refine j_iconst (v := (nI 0)) C dX7_paymentOf_10 (by decide) ?_
    refine j_ist3 C dX7_paymentOf_11 rfl (Nat.le_of_ble_eq_true rfl) rfl ?_
    refine j_ldc (v := nI 100000) C qk_X7_46 dX7_paymentOf_12 ?_
    refine j_ist4 C dX7_paymentOf_14 (Nat.le_of_ble_eq_true rfl) rfl ?_
    refine lp_X7_paymentOf C hk hR 100000 0 100000 (by omega) (by omega) (by omega) ?_
    refine j_iload_n C dX7_paymentOf_101 rfl rfl ?_
    exact j_iret C dX7_paymentOf_102 (by unfold rPay; rw [if_pos h5]) (by rfl) (by rfl)
  · replace h5 := b2i_0 h5
    refine j_iconst (v := (-1)) C dX7_paymentOf_8 (by decide) ?_
    exact j_iret C dX7_paymentOf_9 (by unfold rPay; rw [if_neg h5]) (by rfl) (by rfl)
set_option maxHeartbeats 4000000 in
theorem lp_X7_receiptOf {p : Program} {l : Launch} {e : Env} {s : State} {m : MethodId} {args : Array Value} {below : List Frame} {meth : Method} {c : Code} {g : GC} {Q : State → Prop} {V : Mem} {L : LMem} {k nl ns : Nat} {t n1 : Int32} (C : Cx p s args m meth c cX7_receiptOf 10 yX7_receiptOf.cls (some .int) g) (hk : k < nl) (hR : RR nl ns V) : ∀ n lo hi : Nat, lo ≤ hi → hi ≤ 100000 → hi - lo ≤ n → (J p l e (RM 3) s m args below meth c 10 g 0 0 Q V L 136 [some (.ref (ad g 224)), some (.int (nI k)), some (.int t), some (.int n1), some (.int (nI (3 + 22 * k))), some (.int (prt (V 225 (3 + 22 * k + 4)) t)), some (.int (nI (rBl (fun p => decide (prt (V 225 (3 + 22 * k + 4)) t ≤ wor (nI p) n1 (V 225 (3 + 22 * k + 2)))) n lo hi))), none, none, none] []) → J p l e (RM 3) s m args below meth c 10 g 0 0 Q V L 60 [some (.ref (ad g 224)), some (.int (nI k)), some (.int t), some (.int n1), some (.int (nI (3 + 22 * k))), some (.int (prt (V 225 (3 + 22 * k + 4)) t)), some (.int (nI lo)), some (.int (nI hi)), none, none] [] := by
  intro n
  induction n with
  | zero =>
    intro lo hi h1 h2 h3 kx
    refine j_iload C dX7_receiptOf_60 rfl ?_
    refine j_iload C dX7_receiptOf_62 rfl ?_
    refine j_icmp_ge (tgt := 136) C dX7_receiptOf_64 (by decide) (fun h64 => ?_) (fun h64 => absurd (nI_le (by omega) (by omega)) h64)
    exact j_dr (lv' := [some (.ref (ad g 224)), some (.int (nI k)), some (.int t), some (.int n1), some (.int (nI (3 + 22 * k))), some (.int (prt (V 225 (3 + 22 * k + 4)) t)), some (.int (nI (rBl (fun p => decide (prt (V 225 (3 + 22 * k + 4)) t ≤ wor (nI p) n1 (V 225 (3 + 22 * k + 2)))) 0 lo hi))), none, none, none]) (And.intro rfl (And.intro rfl (And.intro rfl (And.intro rfl (And.intro rfl (And.intro rfl (And.intro rfl True.intro))))))) kx
  | succ n ih =>
    intro lo hi h1 h2 h3 kx
    by_cases hlt : lo < hi
    · have hk8 : k < 8 := Nat.lt_of_lt_of_le hk hR.1
      refine j_iload C dX7_receiptOf_60 rfl ?_
      refine j_iload C dX7_receiptOf_62 rfl ?_
      refine j_icmp_ge (tgt := 136) C dX7_receiptOf_64 (by decide) (fun h64 => absurd h64 (nI_ge hlt (by omega))) (fun h64 => ?_)
      refine j_iload C dX7_receiptOf_67 rfl ?_
      refine j_iload C dX7_receiptOf_69 rfl ?_
      refine j_iaddN C dX7_receiptOf_71 ?_
      refine j_iconst (v := (nI 2)) C dX7_receiptOf_72 (by decide) ?_
      refine j_idivN C dX7_receiptOf_73 (by omega) (by omega) (by omega) ?_
      refine j_ist8 C dX7_receiptOf_74 (Nat.le_of_ble_eq_true rfl) rfl ?_
      refine j_iload C dX7_receiptOf_76 rfl ?_
      refine j_iload_n C dX7_receiptOf_78 rfl rfl ?_
      refine j_aload_n C dX7_receiptOf_79 rfl rfl ?_
      refine jg_LeaseBookModel_z C (by first | assumption | rfl | exact kd_sums (by assumption) | exact kd_st1 (by assumption) | exact kd_st2 (by assumption) | exact kd_ls (by first | assumption | rfl) (by assumption) | exact kd_sb (by first | assumption | rfl) (by assumption) | exact kd_sv (by assumption)) qf_X7_7 dX7_receiptOf_80 ?_
      refine j_iload C dX7_receiptOf_83 rfl ?_
      refine j_iconst (v := (nI 2)) C dX7_receiptOf_85 (by decide) ?_
      refine j_iaddN C dX7_receiptOf_86 ?_
      refine j_ialdN C (by first | assumption | rfl | exact kd_sums (by assumption) | exact kd_st1 (by assumption) | exact kd_st2 (by assumption) | exact kd_ls (by first | assumption | rfl) (by assumption) | exact kd_sb (by first | assumption | rfl) (by assumption) | exact kd_sv (by assumption)) rfl rfl (by omega) dX7_receiptOf_87 ?_
      refine j_callS3r C (c_X7_worthOf (hR.2.2.2.2.1 k hk)) qm_X7_49 qt_X7_worthOf qn_X7 qc_X7_worthOf fit_X7_worthOf ⟨Nat.le_of_ble_eq_true rfl, Nat.le_of_ble_eq_true rfl, Nat.le_of_ble_eq_true rfl, Nat.le_of_ble_eq_true rfl⟩ (Nat.le_of_ble_eq_true rfl) dX7_receiptOf_88 ?_
      refine j_iload C dX7_receiptOf_91 rfl ?_
      refine j_icmp_lt (tgt := 100) C dX7_receiptOf_93 (by decide) (fun h93 => ?_) (fun h93 => ?_)
      · refine j_iconst (v := (nI 0)) C dX7_receiptOf_100 (by decide) ?_
        refine j_ist9 C dX7_receiptOf_101 (Nat.le_of_ble_eq_true rfl) rfl ?_
        refine j_iload C dX7_receiptOf_103 rfl ?_
        refine j_if_eq (tgt := 113) C dX7_receiptOf_105 (by decide) (fun h105 => ?_) (fun h105 => (by exact absurd h105 (by decide)))
        refine j_iload C dX7_receiptOf_113 rfl ?_
        refine j_ist7 C dX7_receiptOf_115 (Nat.le_of_ble_eq_true rfl) rfl ?_
        refine j_iload C dX7_receiptOf_117 rfl ?_
        refine j_if_eq (tgt := 127) C dX7_receiptOf_119 (by decide) (fun h119 => ?_) (fun h119 => (by exact absurd h119 (by decide)))
        refine j_iload C dX7_receiptOf_127 rfl ?_
        refine j_iconst (v := (nI 1)) C dX7_receiptOf_129 (by decide) ?_
        refine j_iaddN C dX7_receiptOf_130 ?_
        refine j_ist6 C dX7_receiptOf_131 (Nat.le_of_ble_eq_true rfl) rfl ?_
        refine j_goto (tgt := 60) C dX7_receiptOf_133 (by decide) ?_
        first
          | exact j_dr (lv' := [some (.ref (ad g 224)), some (.int (nI k)), some (.int t), some (.int n1), some (.int (nI (3 + 22 * k))), some (.int (prt (V 225 (3 + 22 * k + 4)) t)), some (.int (nI lo)), some (.int (nI ((lo + hi) / 2))), none, none]) (And.intro rfl (And.intro rfl (And.intro rfl (And.intro rfl (And.intro rfl (And.intro rfl (And.intro rfl (And.intro rfl True.intro)))))))) (ih _ _ (by omega) (by omega) (by omega) (by have kx2 := kx; rw [rBl, if_pos hlt, if_pos (by first | exact decide_eq_true (by first | assumption | exact Int32.not_lt.mp (by assumption)) | (intro q; exact absurd (of_decide_eq_true q) (by first | assumption | exact Int32.not_le.mpr (by assumption))))] at kx2; exact kx2))
          | exact j_dr (lv' := [some (.ref (ad g 224)), some (.int (nI k)), some (.int t), some (.int n1), some (.int (nI (3 + 22 * k))), some (.int (prt (V 225 (3 + 22 * k + 4)) t)), some (.int (nI (((lo + hi) / 2) + 1))), some (.int (nI hi)), none, none]) (And.intro rfl (And.intro rfl (And.intro rfl (And.intro rfl (And.intro rfl (And.intro rfl (And.intro rfl (And.intro rfl True.intro)))))))) (ih _ _ (by omega) (by omega) (by omega) (by have kx2 := kx; rw [rBl, if_pos hlt, if_neg (by first | exact decide_eq_true (by first | assumption | exact Int32.not_lt.mp (by assumption)) | (intro q; exact absurd (of_decide_eq_true q) (by first | assumption | exact Int32.not_le.mpr (by assumption))))] at kx2; exact kx2))
      · refine j_iconst (v := (nI 1)) C dX7_receiptOf_96 (by decide) ?_
        refine j_goto (tgt := 101) C dX7_receiptOf_97 (by decide) ?_
        refine j_ist9 C dX7_receiptOf_101 (Nat.le_of_ble_eq_true rfl) rfl ?_
        refine j_iload C dX7_receiptOf_103 rfl ?_
        refine j_if_eq (tgt := 113) C dX7_receiptOf_105 (by decide) (fun h105 => (by exact absurd h105 (by decide))) (fun h105 => ?_)
        refine j_iload C dX7_receiptOf_108 rfl ?_
        refine j_goto (tgt := 115) C dX7_receiptOf_110 (by decide) ?_
        refine j_ist7 C dX7_receiptOf_115 (Nat.le_of_ble_eq_true rfl) rfl ?_
        refine j_iload C dX7_receiptOf_117 rfl ?_
        refine j_if_eq (tgt := 127) C dX7_receiptOf_119 (by decide) (fun h119 => (by exact absurd h119 (by decide))) (fun h119 => ?_)
        refine j_iload C dX7_receiptOf_122 rfl ?_
        refine j_goto (tgt := 131) C dX7_receiptOf_124 (by decide) ?_
        refine j_ist6 C dX7_receiptOf_131 (Nat.le_of_ble_eq_true rfl) rfl ?_
        refine j_goto (tgt := 60) C dX7_receiptOf_133 (by decide) ?_
        first
          | exact j_dr (lv' := [some (.ref (ad g 224)), some (.int (nI k)), some (.int t), some (.int n1), some (.int (nI (3 + 22 * k))), some (.int (prt (V 225 (3 + 22 * k + 4)) t)), some (.int (nI lo)), some (.int (nI ((lo + hi) / 2))), none, none]) (And.intro rfl (And.intro rfl (And.intro rfl (And.intro rfl (And.intro rfl (And.intro rfl (And.intro rfl (And.intro rfl True.intro)))))))) (ih _ _ (by omega) (by omega) (by omega) (by have kx2 := kx; rw [rBl, if_pos hlt, if_pos (by first | exact decide_eq_true (by first | assumption | exact Int32.not_lt.mp (by assumption)) | (intro q; exact absurd (of_decide_eq_true q) (by first | assumption | exact Int32.not_le.mpr (by assumption))))] at kx2; exact kx2))
          | exact j_dr (lv' := [some (.ref (ad g 224)), some (.int (nI k)), some (.int t), some (.int n1), some (.int (nI (3 + 22 * k))), some (.int (prt (V 225 (3 + 22 * k + 4)) t)), some (.int (nI (((lo + hi) / 2) + 1))), some (.int (nI hi)), none, none]) (And.intro rfl (And.intro rfl (And.intro rfl (And.intro rfl (And.intro rfl (And.intro rfl (And.intro rfl (And.intro rfl True.intro)))))))) (ih _ _ (by omega) (by omega) (by omega) (by have kx2 := kx; rw [rBl, if_pos hlt, if_neg (by first | exact decide_eq_true (by first | assumption | exact Int32.not_lt.mp (by assumption)) | (intro q; exact absurd (of_decide_eq_true q) (by first | assumption | exact Int32.not_le.mpr (by assumption))))] at kx2; exact kx2))
    · have hk8 : k < 8 := Nat.lt_of_lt_of_le hk hR.1
      refine j_iload C dX7_receiptOf_60 rfl ?_
      refine j_iload C dX7_receiptOf_62 rfl ?_
      refine j_icmp_ge (tgt := 136) C dX7_receiptOf_64 (by decide) (fun h64 => ?_) (fun h64 => absurd (nI_le (by omega) (by omega)) h64)
      have kx2 := kx
      rw [rBl, if_neg hlt] at kx2
      exact j_dr (lv' := [some (.ref (ad g 224)), some (.int (nI k)), some (.int t), some (.int n1), some (.int (nI (3 + 22 * k))), some (.int (prt (V 225 (3 + 22 * k + 4)) t)), some (.int (nI lo)), none, none, none]) (And.intro rfl (And.intro rfl (And.intro rfl (And.intro rfl (And.intro rfl (And.intro rfl (And.intro rfl True.intro))))))) kx2
set_option maxHeartbeats 4000000 in
theorem c_X7_receiptOf {l : Launch} {g : GC} {V : Mem} {L : LMem} {k nl ns : Nat} {t n1 : Int32} (hk : k < nl) (hR : RR nl ns V) : MC l yX7_receiptOf cX7_receiptOf 10 (some .int) 3 g V L [.ref (ad g 224), .int (nI k), .int t, .int n1] (some (.int (rRec V k ns t n1))) V L := by
  refine MC.of [some (.ref (ad g 224)), some (.int (nI k)), some (.int t), some (.int n1), none, none, none, none, none, none] (by decide +kernel) rfl (Nat.le_of_ble_eq_true rfl) (fun p e s m args below meth c C => ?_)
  have hk8 : k < 8 := Nat.lt_of_lt_of_le hk hR.1
  refine j_iload_n C dX7_receiptOf_0 rfl rfl ?_
  refine j_callS1r C (c_X7_at) qm_X7_32 qt_X7_at qn_X7 qc_X7_at fit_X7_at ⟨Nat.le_of_ble_eq_true rfl, Nat.le_of_ble_eq_true rfl, Nat.le_of_ble_eq_true rfl, Nat.le_of_ble_eq_true rfl⟩ (Nat.le_of_ble_eq_true rfl) dX7_receiptOf_1 ?_
  refine j_ist4 C dX7_receiptOf_4 (Nat.le_of_ble_eq_true rfl) rfl ?_
  refine j_aload_n C dX7_receiptOf_6 rfl rfl ?_
  refine jg_LeaseBookModel_z C (by first | assumption | rfl | exact kd_sums (by assumption) | exact kd_st1 (by assumption) | exact kd_st2 (by assumption) | exact kd_ls (by first | assumption | rfl) (by assumption) | exact kd_sb (by first | assumption | rfl) (by assumption) | exact kd_sv (by assumption)) qf_X7_7 dX7_receiptOf_7 ?_
  refine j_iload C dX7_receiptOf_10 rfl ?_
  refine j_iconst (v := (nI 4)) C dX7_receiptOf_12 (by decide) ?_
  refine j_iaddN C dX7_receiptOf_13 ?_
  refine j_ialdN C (by first | assumption | rfl | exact kd_sums (by assumption) | exact kd_st1 (by assumption) | exact kd_st2 (by assumption) | exact kd_ls (by first | assumption | rfl) (by assumption) | exact kd_sb (by first | assumption | rfl) (by assumption) | exact kd_sv (by assumption)) rfl rfl (by omega) dX7_receiptOf_14 ?_
  refine j_iload_n C dX7_receiptOf_15 rfl rfl ?_
  refine j_callS2r C (c_X7_partOf) qm_X7_100 qt_X7_partOf qn_X7 qc_X7_partOf fit_X7_partOf ⟨Nat.le_of_ble_eq_true rfl, Nat.le_of_ble_eq_true rfl, Nat.le_of_ble_eq_true rfl, Nat.le_of_ble_eq_true rfl⟩ (Nat.le_of_ble_eq_true rfl) dX7_receiptOf_16 ?_
  refine j_ist5 C dX7_receiptOf_19 (Nat.le_of_ble_eq_true rfl) rfl ?_
  refine j_aload_n C dX7_receiptOf_21 rfl rfl ?_
  refine j_iload_n C dX7_receiptOf_22 rfl rfl ?_
  refine j_iload_n C dX7_receiptOf_23 rfl rfl ?_
  refine j_iload_n C dX7_receiptOf_24 rfl rfl ?_
  refine j_callV3r C (oa_X7 (by first | assumption | rfl | exact kd_sums (by assumption) | exact kd_st1 (by assumption) | exact kd_st2 (by assumption) | exact kd_ls (by first | assumption | rfl) (by assumption) | exact kd_sb (by first | assumption | rfl) (by assumption) | exact kd_sv (by assumption))) rfl rfl (c_X7_maySublet hk8 hR) qm_X7_104 qi_X7_maySublet qs_X7_maySublet qn_X7 qc_X7_maySublet fit_X7_maySublet ⟨Nat.le_of_ble_eq_true rfl, Nat.le_of_ble_eq_true rfl, Nat.le_of_ble_eq_true rfl, Nat.le_of_ble_eq_true rfl⟩ (Nat.le_of_ble_eq_true rfl) dX7_receiptOf_25 ?_
  refine j_if_eq (tgt := 51) C dX7_receiptOf_28 (by decide) (fun h28 => ?_) (fun h28 => ?_)
  · replace h28 := b2i_0 h28
    refine j_iconst (v := (-1)) C dX7_receiptOf_51 (by decide) ?_
    exact j_iret C dX7_receiptOf_52 (by unfold rRec; first | rw [if_pos ⟨by assumption, by first | assumption | exact Int32.not_lt.mp (by assumption)⟩] | rw [if_neg (fun q => absurd q.1 (by assumption))] | rw [if_neg (fun q => absurd q.2 (by first | assumption | exact Int32.not_le.mpr (by assumption)))]) (by rfl) (by rfl)
  · replace h28 := b2i_1 h28
    refine j_ldc (v := nI 100000) C qk_X7_46 dX7_receiptOf_31 ?_
    refine j_iload_n C dX7_receiptOf_33 rfl rfl ?_
    refine j_aload_n C dX7_receiptOf_34 rfl rfl ?_
    refine jg_LeaseBookModel_z C (by first | assumption | rfl | exact kd_sums (by assumption) | exact kd_st1 (by assumption) | exact kd_st2 (by assumption) | exact kd_ls (by first | assumption | rfl) (by assumption) | exact kd_sb (by first | assumption | rfl) (by assumption) | exact kd_sv (by assumption)) qf_X7_7 dX7_receiptOf_35 ?_
    refine j_iload C dX7_receiptOf_38 rfl ?_
    refine j_iconst (v := (nI 2)) C dX7_receiptOf_40 (by decide) ?_
    refine j_iaddN C dX7_receiptOf_41 ?_
    refine j_ialdN C (by first | assumption | rfl | exact kd_sums (by assumption) | exact kd_st1 (by assumption) | exact kd_st2 (by assumption) | exact kd_ls (by first | assumption | rfl) (by assumption) | exact kd_sb (by first | assumption | rfl) (by assumption) | exact kd_sv (by assumption)) rfl rfl (by omega) dX7_receiptOf_42 ?_
    refine j_callS3r C (c_X7_worthOf (hR.2.2.2.2.1 k hk)) qm_X7_49 qt_X7_worthOf qn_X7 qc_X7_worthOf fit_X7_worthOf ⟨Nat.le_of_ble_eq_true rfl, Nat.le_of_ble_eq_true rfl, Nat.le_of_ble_eq_true rfl, Nat.le_of_ble_eq_true rfl⟩ (Nat.le_of_ble_eq_true rfl) dX7_receiptOf_43 ?_
    refine j_iload C dX7_receiptOf_46 rfl ?_
    refine j_icmp_ge (tgt := 53) C dX7_receiptOf_48 (by decide) (fun h48 => ?_) (fun h48 => ?_)
    · refine j_iconst (v := (nI 0)) C dX7_receiptOf_53 (by decide) ?_
      refine j_ist6 C dX7_receiptOf_54 (Nat.le_of_ble_eq_true rfl) rfl ?_
      refine j_ldc (v := nI 100000) C qk_X7_46 dX7_receiptOf_56 ?_
      refine j_ist7 C dX7_receiptOf_58 (Nat.le_of_ble_eq_true rfl) rfl ?_
      refine lp_X7_receiptOf C hk hR 100000 0 100000 (by omega) (by omega) (by omega) ?_
      refine j_iload C dX7_receiptOf_136 rfl ?_
      exact j_iret C dX7_receiptOf_138 (by unfold rRec; first | rw [if_pos ⟨by assumption, by first | assumption | exact Int32.not_lt.mp (by assumption)⟩] | rw [if_neg (fun q => absurd q.1 (by assumption))] | rw [if_neg (fun q => absurd q.2 (by first | assumption | exact Int32.not_le.mpr (by assumption)))]) (by rfl) (by rfl)
    · refine j_iconst (v := (-1)) C dX7_receiptOf_51 (by decide) ?_
      exact j_iret C dX7_receiptOf_52 (by unfold rRec; first | rw [if_pos ⟨by assumption, by first | assumption | exact Int32.not_lt.mp (by assumption)⟩] | rw [if_neg (fun q => absurd q.1 (by assumption))] | rw [if_neg (fun q => absurd q.2 (by first | assumption | exact Int32.not_le.mpr (by assumption)))]) (by rfl) (by rfl)
set_option maxHeartbeats 4000000 in
theorem lp_X7_rateOf {p : Program} {l : Launch} {e : Env} {s : State} {m : MethodId} {args : Array Value} {below : List Frame} {meth : Method} {c : Code} {g : GC} {Q : State → Prop} {V : Mem} {L : LMem} {k nl ns : Nat} (C : Cx p s args m meth c cX7_rateOf 4 yX7_rateOf.cls (some .int) g) (hk : k < nl) (hR : RR nl ns V) : ∀ n : Nat, n ≤ 2001 → (J p l e (RM 2) s m args below meth c 4 g 0 0 Q V L 58 [some (.ref (ad g 224)), some (.int (nI k)), some (.int (nI (3 + 22 * k))), some (.int (rSc (fun r => decide (V 225 (3 + 22 * k + 4) ≤ wor (V 225 (3 + 22 * k)) (V 225 (3 + 22 * k + 1)) (nI r))) n))] []) → J p l e (RM 2) s m args below meth c 4 g 0 0 Q V L 19 [some (.ref (ad g 224)), some (.int (nI k)), some (.int (nI (3 + 22 * k))), some (.int (nI n - nI 1))] [] := by
  intro n
  induction n with
  | zero =>
    intro h1 kx
    refine j_iload_n C dX7_rateOf_19 rfl rfl ?_
    refine j_if_lt (tgt := 58) C dX7_rateOf_20 (by decide) (fun h20 => ?_) (fun h20 => (by exact absurd (by decide) h20))
    exact j_dr (lv' := [some (.ref (ad g 224)), some (.int (nI k)), some (.int (nI (3 + 22 * k))), some (.int (rSc (fun r => decide (V 225 (3 + 22 * k + 4) ≤ wor (V 225 (3 + 22 * k)) (V 225 (3 + 22 * k + 1)) (nI r))) 0))]) (And.intro rfl (And.intro rfl (And.intro rfl (And.intro (by first | rfl | decide) True.intro)))) kx
  | succ n ih =>
    intro h1 kx
    have hk8 : k < 8 := Nat.lt_of_lt_of_le hk hR.1
    have e1 : nI (n + 1) - nI 1 = nI n := by rw [pk_sub (by omega)]; rfl
    rw [e1]
    refine j_iload_n C dX7_rateOf_19 rfl rfl ?_
    refine j_if_lt (tgt := 58) C dX7_rateOf_20 (by decide) (fun h20 => (by exact absurd h20 (nI_pos (by omega)))) (fun h20 => ?_)
    refine j_aload_n C dX7_rateOf_23 rfl rfl ?_
    refine jg_LeaseBookModel_z C (by first | assumption | rfl | exact kd_sums (by assumption) | exact kd_st1 (by assumption) | exact kd_st2 (by assumption) | exact kd_ls (by first | assumption | rfl) (by assumption) | exact kd_sb (by first | assumption | rfl) (by assumption) | exact kd_sv (by assumption)) qf_X7_7 dX7_rateOf_24 ?_
    refine j_iload_n C dX7_rateOf_27 rfl rfl ?_
    refine j_ialdN C (by first | assumption | rfl | exact kd_sums (by assumption) | exact kd_st1 (by assumption) | exact kd_st2 (by assumption) | exact kd_ls (by first | assumption | rfl) (by assumption) | exact kd_sb (by first | assumption | rfl) (by assumption) | exact kd_sv (by assumption)) rfl rfl (by omega) dX7_rateOf_28 ?_
    refine j_aload_n C dX7_rateOf_29 rfl rfl ?_
    refine jg_LeaseBookModel_z C (by first | assumption | rfl | exact kd_sums (by assumption) | exact kd_st1 (by assumption) | exact kd_st2 (by assumption) | exact kd_ls (by first | assumption | rfl) (by assumption) | exact kd_sb (by first | assumption | rfl) (by assumption) | exact kd_sv (by assumption)) qf_X7_7 dX7_rateOf_30 ?_
    refine j_iload_n C dX7_rateOf_33 rfl rfl ?_
    refine j_iconst (v := (nI 1)) C dX7_rateOf_34 (by decide) ?_
    refine j_iaddN C dX7_rateOf_35 ?_
    refine j_ialdN C (by first | assumption | rfl | exact kd_sums (by assumption) | exact kd_st1 (by assumption) | exact kd_st2 (by assumption) | exact kd_ls (by first | assumption | rfl) (by assumption) | exact kd_sb (by first | assumption | rfl) (by assumption) | exact kd_sv (by assumption)) rfl rfl (by omega) dX7_rateOf_36 ?_
    refine j_iload_n C dX7_rateOf_37 rfl rfl ?_
    refine j_callS3r C (c_X7_worthOf (rateN (by omega))) qm_X7_49 qt_X7_worthOf qn_X7 qc_X7_worthOf fit_X7_worthOf ⟨Nat.le_of_ble_eq_true rfl, Nat.le_of_ble_eq_true rfl, Nat.le_of_ble_eq_true rfl, Nat.le_of_ble_eq_true rfl⟩ (Nat.le_of_ble_eq_true rfl) dX7_rateOf_38 ?_
    refine j_aload_n C dX7_rateOf_41 rfl rfl ?_
    refine jg_LeaseBookModel_z C (by first | assumption | rfl | exact kd_sums (by assumption) | exact kd_st1 (by assumption) | exact kd_st2 (by assumption) | exact kd_ls (by first | assumption | rfl) (by assumption) | exact kd_sb (by first | assumption | rfl) (by assumption) | exact kd_sv (by assumption)) qf_X7_7 dX7_rateOf_42 ?_
    refine j_iload_n C dX7_rateOf_45 rfl rfl ?_
    refine j_iconst (v := (nI 4)) C dX7_rateOf_46 (by decide) ?_
    refine j_iaddN C dX7_rateOf_47 ?_
    refine j_ialdN C (by first | assumption | rfl | exact kd_sums (by assumption) | exact kd_st1 (by assumption) | exact kd_st2 (by assumption) | exact kd_ls (by first | assumption | rfl) (by assumption) | exact kd_sb (by first | assumption | rfl) (by assumption) | exact kd_sv (by assumption)) rfl rfl (by omega) dX7_rateOf_48 ?_
    refine j_icmp_ge (tgt := 58) C dX7_rateOf_49 (by decide) (fun h49 => ?_) (fun h49 => ?_)
    · have kx2 := kx
      rw [rSc, if_pos (decide_eq_true (by first | assumption | exact Int32.not_lt.mp (by assumption)))] at kx2
      exact kx2
    · refine j_inc3 C dX7_rateOf_52 rfl (Nat.le_of_ble_eq_true rfl) rfl ?_
      refine j_goto (tgt := 19) C dX7_rateOf_55 (by decide) ?_
      refine j_dr (lv' := [some (.ref (ad g 224)), some (.int (nI k)), some (.int (nI (3 + 22 * k))), some (.int (nI n - nI 1))]) (And.intro rfl (And.intro rfl (And.intro rfl (And.intro (by rw [Int32.sub_eq_add_neg]; rfl) True.intro)))) (ih (by omega) ?_)
      have kx2 := kx
      rw [rSc, if_neg (fun q => absurd (of_decide_eq_true q) (by first | assumption | exact Int32.not_le.mpr (by assumption)))] at kx2
      exact kx2
set_option maxHeartbeats 4000000 in
theorem c_X7_rateOf {l : Launch} {g : GC} {V : Mem} {L : LMem} {k nl ns : Nat} (hk : k < nl) (hR : RR nl ns V) : MC l yX7_rateOf cX7_rateOf 4 (some .int) 2 g V L [.ref (ad g 224), .int (nI k)] (some (.int (rRate V k))) V L := by
  refine MC.of [some (.ref (ad g 224)), some (.int (nI k)), none, none] (by decide +kernel) rfl (Nat.le_of_ble_eq_true rfl) (fun p e s m args below meth c C => ?_)
  have hk8 : k < 8 := Nat.lt_of_lt_of_le hk hR.1
  refine j_iload_n C dX7_rateOf_0 rfl rfl ?_
  refine j_callS1r C (c_X7_at) qm_X7_32 qt_X7_at qn_X7 qc_X7_at fit_X7_at ⟨Nat.le_of_ble_eq_true rfl, Nat.le_of_ble_eq_true rfl, Nat.le_of_ble_eq_true rfl, Nat.le_of_ble_eq_true rfl⟩ (Nat.le_of_ble_eq_true rfl) dX7_rateOf_1 ?_
  refine j_ist2 C dX7_rateOf_4 rfl (Nat.le_of_ble_eq_true rfl) rfl ?_
  refine j_aload_n C dX7_rateOf_5 rfl rfl ?_
  refine j_iload_n C dX7_rateOf_6 rfl rfl ?_
  refine j_callV1r C (oa_X7 (by first | assumption | rfl | exact kd_sums (by assumption) | exact kd_st1 (by assumption) | exact kd_st2 (by assumption) | exact kd_ls (by first | assumption | rfl) (by assumption) | exact kd_sb (by first | assumption | rfl) (by assumption) | exact kd_sv (by assumption))) rfl rfl (c_X7_runs hk8) qm_X7_87 qi_X7_runs qs_X7_runs qn_X7 qc_X7_runs fit_X7_runs ⟨Nat.le_of_ble_eq_true rfl, Nat.le_of_ble_eq_true rfl, Nat.le_of_ble_eq_true rfl, Nat.le_of_ble_eq_true rfl⟩ (Nat.le_of_ble_eq_true rfl) dX7_rateOf_7 ?_
  refine j_if_ne (tgt := 15) C dX7_rateOf_10 (by decide) (fun h10 => ?_) (fun h10 => ?_)
  · replace h10 := b2i_1 h10
    refine j_sipush (v := (nI 2000)) C dX7_rateOf_15 (by decide) ?_
    refine j_ist3 C dX7_rateOf_18 rfl (Nat.le_of_ble_eq_true rfl) rfl ?_
    refine lp_X7_rateOf C hk hR 2001 (by omega) ?_
    refine j_iload_n C dX7_rateOf_58 rfl rfl ?_
    exact j_iret C dX7_rateOf_59 (by unfold rRate; rw [if_pos h10]) (by rfl) (by rfl)
  · replace h10 := b2i_0 h10
    refine j_iconst (v := (-1)) C dX7_rateOf_13 (by decide) ?_
    exact j_iret C dX7_rateOf_14 (by unfold rRate; rw [if_neg h10]) (by rfl) (by rfl)
set_option maxHeartbeats 4000000 in
theorem c_X7_mix {l : Launch} {g : GC} {V : Mem} {L : LMem} {x : Int64} : MC l yX7_mix cX7_mix 3 (Option.none : Option Jvm.ClassFile.FieldType) 0 g V L [.ref (ad g 224), .long x] none V (lset L 0 (31 * L 0 + x)) := by
  refine MC.of [some (.ref (ad g 224)), some (.long x), none] (by decide +kernel) rfl (Nat.le_of_ble_eq_true rfl) (fun p e s m args below meth c C => ?_)
  refine j_aload_n C dX7_mix_0 rfl rfl ?_
  refine j_ldc2 C qk_X7_191 dX7_mix_1 ?_
  refine j_aload_n C dX7_mix_4 rfl rfl ?_
  refine jg_LeaseBookModel_h C (by first | assumption | rfl | exact kd_sums (by assumption) | exact kd_st1 (by assumption) | exact kd_st2 (by assumption) | exact kd_ls (by first | assumption | rfl) (by assumption) | exact kd_sb (by first | assumption | rfl) (by assumption) | exact kd_sv (by assumption)) qf_X7_193 dX7_mix_5 ?_
  refine j_lmul C dX7_mix_8 ?_
  refine j_lload_n C dX7_mix_9 rfl rfl ?_
  refine j_ladd C dX7_mix_10 ?_
  refine jp_LeaseBookModel_h C qf_X7_193 dX7_mix_11 ?_
  exact j_vret C dX7_mix_14 rfl (by rfl) (by rfl)
