/-! THE MODEL'S METHODS, 2 (laid by wip/whole/p13.py) -/
set_option maxHeartbeats 4000000 in
theorem lp_X7_putAside {p : Program} {l : Launch} {e : Env} {R : Room} {s : State} {m : MethodId} {args : Array Value} {below : List Frame} {meth : Method} {c : Code} {g : GC} {Q : State → Prop} {V : Mem} {L : LMem}  (C : Cx p s args m meth c cX7_putAside 2 yX7_putAside.cls (Option.none : Option Jvm.ClassFile.FieldType) g)  (kx : J p l e R s m args below meth c 2 g 0 0 Q (rcpy V 227 (V 225) (251)) L 27 [some (.ref (ad g 224)), some (.int (nI (251)))] []) : ∀ j i : Nat, i + j = 251 → J p l e R s m args below meth c 2 g 0 0 Q (rcpy V 227 (V 225) i) L 2 [some (.ref (ad g 224)), some (.int (nI i))] [] := by
  intro j
  induction j with
  | zero =>
    intro i hi
    have hi : 251 = i := by omega
    subst hi
    refine j_iload_n C dX7_putAside_2 rfl rfl ?_
    refine j_sipush (v := (nI 251)) C dX7_putAside_3 (by decide) ?_
    refine j_icmp_ge (tgt := 27) C dX7_putAside_6 (by decide) (fun h6 => ?_) (fun h6 => absurd (nI_le (by omega) (by omega)) h6)
    exact kx
  | succ j ih =>
    intro i hi
    refine j_iload_n C dX7_putAside_2 rfl rfl ?_
    refine j_sipush (v := (nI 251)) C dX7_putAside_3 (by decide) ?_
    refine j_icmp_ge (tgt := 27) C dX7_putAside_6 (by decide) (fun h6 => absurd h6 (nI_ge (by omega) (by omega))) (fun h6 => ?_)
    refine j_aload_n C dX7_putAside_9 rfl rfl ?_
    refine jg_LeaseBookModel_aside C (by first | assumption | rfl | exact kd_sums (by assumption) | exact kd_st1 (by assumption) | exact kd_st2 (by assumption) | exact kd_ls (by first | assumption | rfl) (by assumption) | exact kd_sb (by first | assumption | rfl) (by assumption) | exact kd_sv (by assumption)) qf_X7_16 dX7_putAside_10 ?_
    refine j_iload_n C dX7_putAside_13 rfl rfl ?_
    refine j_aload_n C dX7_putAside_14 rfl rfl ?_
    refine jg_LeaseBookModel_z C (by first | assumption | rfl | exact kd_sums (by assumption) | exact kd_st1 (by assumption) | exact kd_st2 (by assumption) | exact kd_ls (by first | assumption | rfl) (by assumption) | exact kd_sb (by first | assumption | rfl) (by assumption) | exact kd_sv (by assumption)) qf_X7_7 dX7_putAside_15 ?_
    refine j_iload_n C dX7_putAside_18 rfl rfl ?_
    refine j_ialdN C (by first | assumption | rfl | exact kd_sums (by assumption) | exact kd_st1 (by assumption) | exact kd_st2 (by assumption) | exact kd_ls (by first | assumption | rfl) (by assumption) | exact kd_sb (by first | assumption | rfl) (by assumption) | exact kd_sv (by assumption)) rfl rfl (by omega) dX7_putAside_19 ?_
    refine j_iastN C (by first | assumption | rfl | exact kd_sums (by assumption) | exact kd_st1 (by assumption) | exact kd_st2 (by assumption) | exact kd_ls (by first | assumption | rfl) (by assumption) | exact kd_sb (by first | assumption | rfl) (by assumption) | exact kd_sv (by assumption)) rfl rfl (by omega) dX7_putAside_20 ?_
    refine j_incN1 (q := 1) C dX7_putAside_21 (by decide) (Nat.le_of_ble_eq_true rfl) rfl ?_
    refine j_goto (tgt := 2) C dX7_putAside_24 (by decide) ?_
    refine j_mem (V' := (rcpy V 227 (V 225) (i + 1))) (L' := L) (by rw [← rcpy_step, rcpy_ne (by decide)]) rfl ?_
    exact j_dr (lv' := [some (.ref (ad g 224)), some (.int (nI (i + 1)))]) (And.intro rfl (And.intro rfl True.intro)) (ih (i + 1) (by omega))
set_option maxHeartbeats 4000000 in
theorem c_X7_putAside {l : Launch} {g : GC} {V : Mem} {L : LMem}  : MC l yX7_putAside cX7_putAside 2 (Option.none : Option Jvm.ClassFile.FieldType) 0 g V L [.ref (ad g 224)] none (rAside V) L := by
  refine MC.of [some (.ref (ad g 224)), none] (by decide +kernel) rfl (Nat.le_of_ble_eq_true rfl) (fun p e s m args below meth c C => ?_)
  refine j_iconst (v := (nI 0)) C dX7_putAside_0 (by decide) ?_
  refine j_ist1 C dX7_putAside_1 rfl (Nat.le_of_ble_eq_true rfl) rfl ?_
  refine j_mem (V' := (rcpy V 227 (V 225) 0)) rcpy_0 rfl ?_
  refine lp_X7_putAside C ?_ 251 0 rfl
  exact j_vret C dX7_putAside_27 rfl (by rfl) (by rfl)
set_option maxHeartbeats 4000000 in
theorem lp_X7_putBack {p : Program} {l : Launch} {e : Env} {R : Room} {s : State} {m : MethodId} {args : Array Value} {below : List Frame} {meth : Method} {c : Code} {g : GC} {Q : State → Prop} {V : Mem} {L : LMem}  (C : Cx p s args m meth c cX7_putBack 2 yX7_putBack.cls (Option.none : Option Jvm.ClassFile.FieldType) g)  (kx : J p l e R s m args below meth c 2 g 0 0 Q (rcpy V 225 (V 227) (251)) L 27 [some (.ref (ad g 224)), some (.int (nI (251)))] []) : ∀ j i : Nat, i + j = 251 → J p l e R s m args below meth c 2 g 0 0 Q (rcpy V 225 (V 227) i) L 2 [some (.ref (ad g 224)), some (.int (nI i))] [] := by
  intro j
  induction j with
  | zero =>
    intro i hi
    have hi : 251 = i := by omega
    subst hi
    refine j_iload_n C dX7_putBack_2 rfl rfl ?_
    refine j_sipush (v := (nI 251)) C dX7_putBack_3 (by decide) ?_
    refine j_icmp_ge (tgt := 27) C dX7_putBack_6 (by decide) (fun h6 => ?_) (fun h6 => absurd (nI_le (by omega) (by omega)) h6)
    exact kx
  | succ j ih =>
    intro i hi
    refine j_iload_n C dX7_putBack_2 rfl rfl ?_
    refine j_sipush (v := (nI 251)) C dX7_putBack_3 (by decide) ?_
    refine j_icmp_ge (tgt := 27) C dX7_putBack_6 (by decide) (fun h6 => absurd h6 (nI_ge (by omega) (by omega))) (fun h6 => ?_)
    refine j_aload_n C dX7_putBack_9 rfl rfl ?_
    refine jg_LeaseBookModel_z C (by first | assumption | rfl | exact kd_sums (by assumption) | exact kd_st1 (by assumption) | exact kd_st2 (by assumption) | exact kd_ls (by first | assumption | rfl) (by assumption) | exact kd_sb (by first | assumption | rfl) (by assumption) | exact kd_sv (by assumption)) qf_X7_7 dX7_putBack_10 ?_
    refine j_iload_n C dX7_putBack_13 rfl rfl ?_
    refine j_aload_n C dX7_putBack_14 rfl rfl ?_
    refine jg_LeaseBookModel_aside C (by first | assumption | rfl | exact kd_sums (by assumption) | exact kd_st1 (by assumption) | exact kd_st2 (by assumption) | exact kd_ls (by first | assumption | rfl) (by assumption) | exact kd_sb (by first | assumption | rfl) (by assumption) | exact kd_sv (by assumption)) qf_X7_16 dX7_putBack_15 ?_
    refine j_iload_n C dX7_putBack_18 rfl rfl ?_
    refine j_ialdN C (by first | assumption | rfl | exact kd_sums (by assumption) | exact kd_st1 (by assumption) | exact kd_st2 (by assumption) | exact kd_ls (by first | assumption | rfl) (by assumption) | exact kd_sb (by first | assumption | rfl) (by assumption) | exact kd_sv (by assumption)) rfl rfl (by omega) dX7_putBack_19 ?_
    refine j_iastN C (by first | assumption | rfl | exact kd_sums (by assumption) | exact kd_st1 (by assumption) | exact kd_st2 (by assumption) | exact kd_ls (by first | assumption | rfl) (by assumption) | exact kd_sb (by first | assumption | rfl) (by assumption) | exact kd_sv (by assumption)) rfl rfl (by omega) dX7_putBack_20 ?_
    refine j_incN1 (q := 1) C dX7_putBack_21 (by decide) (Nat.le_of_ble_eq_true rfl) rfl ?_
    refine j_goto (tgt := 2) C dX7_putBack_24 (by decide) ?_
    refine j_mem (V' := (rcpy V 225 (V 227) (i + 1))) (L' := L) (by rw [← rcpy_step, rcpy_ne (by decide)]) rfl ?_
    exact j_dr (lv' := [some (.ref (ad g 224)), some (.int (nI (i + 1)))]) (And.intro rfl (And.intro rfl True.intro)) (ih (i + 1) (by omega))
set_option maxHeartbeats 4000000 in
theorem c_X7_putBack {l : Launch} {g : GC} {V : Mem} {L : LMem}  : MC l yX7_putBack cX7_putBack 2 (Option.none : Option Jvm.ClassFile.FieldType) 0 g V L [.ref (ad g 224)] none (rBack V) L := by
  refine MC.of [some (.ref (ad g 224)), none] (by decide +kernel) rfl (Nat.le_of_ble_eq_true rfl) (fun p e s m args below meth c C => ?_)
  refine j_iconst (v := (nI 0)) C dX7_putBack_0 (by decide) ?_
  refine j_ist1 C dX7_putBack_1 rfl (Nat.le_of_ble_eq_true rfl) rfl ?_
  refine j_mem (V' := (rcpy V 225 (V 227) 0)) rcpy_0 rfl ?_
  refine lp_X7_putBack C ?_ 251 0 rfl
  exact j_vret C dX7_putBack_27 rfl (by rfl) (by rfl)
set_option maxHeartbeats 4000000 in
theorem lp_X7_save1 {p : Program} {l : Launch} {e : Env} {R : Room} {s : State} {m : MethodId} {args : Array Value} {below : List Frame} {meth : Method} {c : Code} {g : GC} {Q : State → Prop} {V : Mem} {L : LMem}  (C : Cx p s args m meth c cX7_save 2 yX7_save.cls (Option.none : Option Jvm.ClassFile.FieldType) g)  (kx : J p l e R s m args below meth c 2 g 0 0 Q (rSh V (1255)) L 40 [some (.ref (ad g 224)), some (.int (nI (1255)))] []) : ∀ j i : Nat, i + j = 1255 → J p l e R s m args below meth c 2 g 0 0 Q (rSh V i) L 11 [some (.ref (ad g 224)), some (.int (nI i))] [] := by
  intro j
  induction j with
  | zero =>
    intro i hi
    have hi : 1255 = i := by omega
    subst hi
    refine j_iload_n C dX7_save_11 rfl rfl ?_
    refine j_sipush (v := (nI 1255)) C dX7_save_12 (by decide) ?_
    refine j_icmp_ge (tgt := 40) C dX7_save_15 (by decide) (fun h15 => ?_) (fun h15 => absurd (nI_le (by omega) (by omega)) h15)
    exact kx
  | succ j ih =>
    intro i hi
    refine j_iload_n C dX7_save_11 rfl rfl ?_
    refine j_sipush (v := (nI 1255)) C dX7_save_12 (by decide) ?_
    refine j_icmp_ge (tgt := 40) C dX7_save_15 (by decide) (fun h15 => absurd h15 (nI_ge (by omega) (by omega))) (fun h15 => ?_)
    refine j_aload_n C dX7_save_18 rfl rfl ?_
    refine jg_LeaseBookModel_rows C (by first | assumption | rfl | exact kd_sums (by assumption) | exact kd_st1 (by assumption) | exact kd_st2 (by assumption) | exact kd_ls (by first | assumption | rfl) (by assumption) | exact kd_sb (by first | assumption | rfl) (by assumption) | exact kd_sv (by assumption)) qf_X7_13 dX7_save_19 ?_
    refine j_iload_n C dX7_save_22 rfl rfl ?_
    refine j_aload_n C dX7_save_23 rfl rfl ?_
    refine jg_LeaseBookModel_rows C (by first | assumption | rfl | exact kd_sums (by assumption) | exact kd_st1 (by assumption) | exact kd_st2 (by assumption) | exact kd_ls (by first | assumption | rfl) (by assumption) | exact kd_sb (by first | assumption | rfl) (by assumption) | exact kd_sv (by assumption)) qf_X7_13 dX7_save_24 ?_
    refine j_iload_n C dX7_save_27 rfl rfl ?_
    refine j_sipush (v := (nI 251)) C dX7_save_28 (by decide) ?_
    refine j_iaddN C dX7_save_31 ?_
    refine j_ialdN C (by first | assumption | rfl | exact kd_sums (by assumption) | exact kd_st1 (by assumption) | exact kd_st2 (by assumption) | exact kd_ls (by first | assumption | rfl) (by assumption) | exact kd_sb (by first | assumption | rfl) (by assumption) | exact kd_sv (by assumption)) rfl rfl (by omega) dX7_save_32 ?_
    refine j_iastN C (by first | assumption | rfl | exact kd_sums (by assumption) | exact kd_st1 (by assumption) | exact kd_st2 (by assumption) | exact kd_ls (by first | assumption | rfl) (by assumption) | exact kd_sb (by first | assumption | rfl) (by assumption) | exact kd_sv (by assumption)) rfl rfl (by omega) dX7_save_33 ?_
    refine j_incN1 (q := 1) C dX7_save_34 (by decide) (Nat.le_of_ble_eq_true rfl) rfl ?_
    refine j_goto (tgt := 11) C dX7_save_37 (by decide) ?_
    refine j_mem (V' := (rSh V (i + 1))) (L' := L) (by exact rSh_step) rfl ?_
    exact j_dr (lv' := [some (.ref (ad g 224)), some (.int (nI (i + 1)))]) (And.intro rfl (And.intro rfl True.intro)) (ih (i + 1) (by omega))
set_option maxHeartbeats 4000000 in
theorem lp_X7_save2 {p : Program} {l : Launch} {e : Env} {R : Room} {s : State} {m : MethodId} {args : Array Value} {below : List Frame} {meth : Method} {c : Code} {g : GC} {Q : State → Prop} {V : Mem} {L : LMem} {sv : Nat} (C : Cx p s args m meth c cX7_save 2 yX7_save.cls (Option.none : Option Jvm.ClassFile.FieldType) g) (hsv : V 224 3 = nI sv) (h6 : sv < 6) (kx : J p l e R s m args below meth c 2 g 0 0 Q (rCp V sv (251)) L 86 [some (.ref (ad g 224)), some (.int (nI (251)))] []) : ∀ j i : Nat, i + j = 251 → J p l e R s m args below meth c 2 g 0 0 Q (rCp V sv i) L 52 [some (.ref (ad g 224)), some (.int (nI i))] [] := by
  intro j
  induction j with
  | zero =>
    intro i hi
    have hi : 251 = i := by omega
    subst hi
    refine j_iload_n C dX7_save_52 rfl rfl ?_
    refine j_sipush (v := (nI 251)) C dX7_save_53 (by decide) ?_
    refine j_icmp_ge (tgt := 86) C dX7_save_56 (by decide) (fun h56 => ?_) (fun h56 => absurd (nI_le (by omega) (by omega)) h56)
    exact kx
  | succ j ih =>
    intro i hi
    refine j_iload_n C dX7_save_52 rfl rfl ?_
    refine j_sipush (v := (nI 251)) C dX7_save_53 (by decide) ?_
    refine j_icmp_ge (tgt := 86) C dX7_save_56 (by decide) (fun h56 => absurd h56 (nI_ge (by omega) (by omega))) (fun h56 => ?_)
    refine j_aload_n C dX7_save_59 rfl rfl ?_
    refine jg_LeaseBookModel_rows C (by first | assumption | rfl | exact kd_sums (by assumption) | exact kd_st1 (by assumption) | exact kd_st2 (by assumption) | exact kd_ls (by first | assumption | rfl) (by assumption) | exact kd_sb (by first | assumption | rfl) (by assumption) | exact kd_sv (by assumption)) qf_X7_13 dX7_save_60 ?_
    refine j_sipush (v := (nI 251)) C dX7_save_63 (by decide) ?_
    refine j_aload_n C dX7_save_66 rfl rfl ?_
    refine jg_LeaseBookModel_savedMany C (by first | assumption | rfl | exact kd_sums (by assumption) | exact kd_st1 (by assumption) | exact kd_st2 (by assumption) | exact kd_ls (by first | assumption | rfl) (by assumption) | exact kd_sb (by first | assumption | rfl) (by assumption) | exact kd_sv (by assumption)) qf_X7_29 dX7_save_67 ?_
    refine j_tope (y := nI sv) (by rw [rCp_ne (by decide)]; exact hsv) ?_
    refine j_imulN C dX7_save_70 ?_
    refine j_iload_n C dX7_save_71 rfl rfl ?_
    refine j_iaddN C dX7_save_72 ?_
    refine j_aload_n C dX7_save_73 rfl rfl ?_
    refine jg_LeaseBookModel_z C (by first | assumption | rfl | exact kd_sums (by assumption) | exact kd_st1 (by assumption) | exact kd_st2 (by assumption) | exact kd_ls (by first | assumption | rfl) (by assumption) | exact kd_sb (by first | assumption | rfl) (by assumption) | exact kd_sv (by assumption)) qf_X7_7 dX7_save_74 ?_
    refine j_iload_n C dX7_save_77 rfl rfl ?_
    refine j_ialdN C (by first | assumption | rfl | exact kd_sums (by assumption) | exact kd_st1 (by assumption) | exact kd_st2 (by assumption) | exact kd_ls (by first | assumption | rfl) (by assumption) | exact kd_sb (by first | assumption | rfl) (by assumption) | exact kd_sv (by assumption)) rfl rfl (by omega) dX7_save_78 ?_
    refine j_iastN C (by first | assumption | rfl | exact kd_sums (by assumption) | exact kd_st1 (by assumption) | exact kd_st2 (by assumption) | exact kd_ls (by first | assumption | rfl) (by assumption) | exact kd_sb (by first | assumption | rfl) (by assumption) | exact kd_sv (by assumption)) rfl rfl (by omega) dX7_save_79 ?_
    refine j_incN1 (q := 1) C dX7_save_80 (by decide) (Nat.le_of_ble_eq_true rfl) rfl ?_
    refine j_goto (tgt := 52) C dX7_save_83 (by decide) ?_
    refine j_mem (V' := (rCp V sv (i + 1))) (L' := L) (by exact rCp_step) rfl ?_
    exact j_dr (lv' := [some (.ref (ad g 224)), some (.int (nI (i + 1)))]) (And.intro rfl (And.intro rfl True.intro)) (ih (i + 1) (by omega))
set_option maxHeartbeats 4000000 in
theorem c_X7_saveL {l : Launch} {g : GC} {V : Mem} {L : LMem} {sv : Nat} (hsv : V 224 3 = nI sv) (hs6 : sv < 6) : MC l yX7_save cX7_save 2 (Option.none : Option Jvm.ClassFile.FieldType) 0 g V L [.ref (ad g 224)] none (rSaveL sv V) L := by
  refine MC.of [some (.ref (ad g 224)), none] (by decide +kernel) rfl (Nat.le_of_ble_eq_true rfl) (fun p e s m args below meth c C => ?_)
  refine j_aload_n C dX7_save_0 rfl rfl ?_
  refine jg_LeaseBookModel_savedMany C (by first | assumption | rfl | exact kd_sums (by assumption) | exact kd_st1 (by assumption) | exact kd_st2 (by assumption) | exact kd_ls (by first | assumption | rfl) (by assumption) | exact kd_sb (by first | assumption | rfl) (by assumption) | exact kd_sv (by assumption)) qf_X7_29 dX7_save_1 ?_
  refine j_bipush (v := (nI 6)) C dX7_save_4 (by decide) ?_
  refine j_icmp_ne (tgt := 50) C dX7_save_6 (by decide) (fun h6 => ?_) (fun h6 => (by rw [hsv] at h6; exact absurd ((nI_eq (by omega) (by omega)).mp h6) (by omega)))
  refine j_iconst (v := (nI 0)) C dX7_save_50 (by decide) ?_
  refine j_ist1 C dX7_save_51 rfl (Nat.le_of_ble_eq_true rfl) rfl ?_
  refine j_mem (V' := rCp V sv 0) rCp_0 rfl ?_
  refine lp_X7_save2 C hsv (by omega) ?_ 251 0 rfl
  refine j_aload_n C dX7_save_86 rfl rfl ?_
  refine j_dup C dX7_save_87 rfl ?_
  refine jg_LeaseBookModel_savedMany C (by first | assumption | rfl | exact kd_sums (by assumption) | exact kd_st1 (by assumption) | exact kd_st2 (by assumption) | exact kd_ls (by first | assumption | rfl) (by assumption) | exact kd_sb (by first | assumption | rfl) (by assumption) | exact kd_sv (by assumption)) qf_X7_29 dX7_save_88 ?_
  refine j_iconst (v := (nI 1)) C dX7_save_91 (by decide) ?_
  refine j_iadd C dX7_save_92 ?_
  refine jp_LeaseBookModel_savedMany C (by first | assumption | rfl | exact kd_sums (by assumption) | exact kd_st1 (by assumption) | exact kd_st2 (by assumption) | exact kd_ls (by first | assumption | rfl) (by assumption) | exact kd_sb (by first | assumption | rfl) (by assumption) | exact kd_sv (by assumption)) qf_X7_29 dX7_save_93 ?_
  exact j_vret C dX7_save_96 rfl (by rfl) (by rfl)
set_option maxHeartbeats 4000000 in
theorem c_X7_save6 {l : Launch} {g : GC} {V : Mem} {L : LMem} (hsv : V 224 3 = nI 6) : MC l yX7_save cX7_save 2 (Option.none : Option Jvm.ClassFile.FieldType) 0 g V L [.ref (ad g 224)] none (rSave6 V) L := by
  refine MC.of [some (.ref (ad g 224)), none] (by decide +kernel) rfl (Nat.le_of_ble_eq_true rfl) (fun p e s m args below meth c C => ?_)
  refine j_aload_n C dX7_save_0 rfl rfl ?_
  refine jg_LeaseBookModel_savedMany C (by first | assumption | rfl | exact kd_sums (by assumption) | exact kd_st1 (by assumption) | exact kd_st2 (by assumption) | exact kd_ls (by first | assumption | rfl) (by assumption) | exact kd_sb (by first | assumption | rfl) (by assumption) | exact kd_sv (by assumption)) qf_X7_29 dX7_save_1 ?_
  refine j_bipush (v := (nI 6)) C dX7_save_4 (by decide) ?_
  refine j_icmp_ne (tgt := 50) C dX7_save_6 (by decide) (fun h6 => (by exact absurd hsv h6)) (fun h6 => ?_)
  refine j_iconst (v := (nI 0)) C dX7_save_9 (by decide) ?_
  refine j_ist1 C dX7_save_10 rfl (Nat.le_of_ble_eq_true rfl) rfl ?_
  refine j_mem (V' := rSh V 0) rSh_0 rfl ?_
  refine lp_X7_save1 C ?_ 1255 0 rfl
  refine j_aload_n C dX7_save_40 rfl rfl ?_
  refine j_dup C dX7_save_41 rfl ?_
  refine jg_LeaseBookModel_savedMany C (by first | assumption | rfl | exact kd_sums (by assumption) | exact kd_st1 (by assumption) | exact kd_st2 (by assumption) | exact kd_ls (by first | assumption | rfl) (by assumption) | exact kd_sb (by first | assumption | rfl) (by assumption) | exact kd_sv (by assumption)) qf_X7_29 dX7_save_42 ?_
  refine j_iconst (v := (nI 1)) C dX7_save_45 (by decide) ?_
  refine j_isub C dX7_save_46 ?_
  refine jp_LeaseBookModel_savedMany C (by first | assumption | rfl | exact kd_sums (by assumption) | exact kd_st1 (by assumption) | exact kd_st2 (by assumption) | exact kd_ls (by first | assumption | rfl) (by assumption) | exact kd_sb (by first | assumption | rfl) (by assumption) | exact kd_sv (by assumption)) qf_X7_29 dX7_save_47 ?_
  refine j_iconst (v := (nI 0)) C dX7_save_50 (by decide) ?_
  refine j_ist1 C dX7_save_51 rfl (Nat.le_of_ble_eq_true rfl) rfl ?_
  refine j_mem (V' := rCp (mset (rSh V 1255) 224 3 (rSh V 1255 224 3 - nI 1)) 5 0) rCp_0 rfl ?_
  refine lp_X7_save2 C (by rw [mset_at, rSh_ne (by decide), hsv]; decide) (by omega) ?_ 251 0 rfl
  refine j_aload_n C dX7_save_86 rfl rfl ?_
  refine j_dup C dX7_save_87 rfl ?_
  refine jg_LeaseBookModel_savedMany C (by first | assumption | rfl | exact kd_sums (by assumption) | exact kd_st1 (by assumption) | exact kd_st2 (by assumption) | exact kd_ls (by first | assumption | rfl) (by assumption) | exact kd_sb (by first | assumption | rfl) (by assumption) | exact kd_sv (by assumption)) qf_X7_29 dX7_save_88 ?_
  refine j_iconst (v := (nI 1)) C dX7_save_91 (by decide) ?_
  refine j_iadd C dX7_save_92 ?_
  refine jp_LeaseBookModel_savedMany C (by first | assumption | rfl | exact kd_sums (by assumption) | exact kd_st1 (by assumption) | exact kd_st2 (by assumption) | exact kd_ls (by first | assumption | rfl) (by assumption) | exact kd_sb (by first | assumption | rfl) (by assumption) | exact kd_sv (by assumption)) qf_X7_29 dX7_save_93 ?_
  exact j_vret C dX7_save_96 rfl (by rfl) (by rfl)
theorem c_X7_save {l : Launch} {g : GC} {V : Mem} {L : LMem} {sv : Nat} (hsv : V 224 3 = nI sv) (h6 : sv ≤ 6) : MC l yX7_save cX7_save 2 none 0 g V L [.ref (ad g 224)] none (rSave sv V) L := by
  unfold rSave
  split
  · rename_i h; subst h; exact c_X7_save6 hsv
  · exact c_X7_saveL hsv (by omega)
set_option maxHeartbeats 4000000 in
theorem lp_X7_openNow {p : Program} {l : Launch} {e : Env} {R : Room} {s : State} {m : MethodId} {args : Array Value} {below : List Frame} {meth : Method} {c : Code} {g : GC} {Q : State → Prop} {V : Mem} {L : LMem} {k : Nat} {p1 n r c0 : Int32} (C : Cx p s args m meth c cX7_openNow 8 yX7_openNow.cls (Option.none : Option Jvm.ClassFile.FieldType) g) (hk : k < 8) (kx : J p l e R s m args below meth c 8 g 0 0 Q (rZero V k (22)) L 52 [some (.ref (ad g 224)), some (.int p1), some (.int n), some (.int r), some (.int c0), some (.int (nI k)), some (.int (nI (3 + 22 * k))), some (.int (nI (22)))] []) : ∀ j i : Nat, i + j = 22 → J p l e R s m args below meth c 8 g 0 0 Q (rZero V k i) L 28 [some (.ref (ad g 224)), some (.int p1), some (.int n), some (.int r), some (.int c0), some (.int (nI k)), some (.int (nI (3 + 22 * k))), some (.int (nI i))] [] := by
  intro j
  induction j with
  | zero =>
    intro i hi
    have hi : 22 = i := by omega
    subst hi
    refine j_iload C dX7_openNow_28 rfl ?_
    refine j_bipush (v := (nI 22)) C dX7_openNow_30 (by decide) ?_
    refine j_icmp_ge (tgt := 52) C dX7_openNow_32 (by decide) (fun h32 => ?_) (fun h32 => absurd (nI_le (by omega) (by omega)) h32)
    exact kx
  | succ j ih =>
    intro i hi
    refine j_iload C dX7_openNow_28 rfl ?_
    refine j_bipush (v := (nI 22)) C dX7_openNow_30 (by decide) ?_
    refine j_icmp_ge (tgt := 52) C dX7_openNow_32 (by decide) (fun h32 => absurd h32 (nI_ge (by omega) (by omega))) (fun h32 => ?_)
    refine j_aload_n C dX7_openNow_35 rfl rfl ?_
    refine jg_LeaseBookModel_z C (by first | assumption | rfl | exact kd_sums (by assumption) | exact kd_st1 (by assumption) | exact kd_st2 (by assumption) | exact kd_ls (by first | assumption | rfl) (by assumption) | exact kd_sb (by first | assumption | rfl) (by assumption) | exact kd_sv (by assumption)) qf_X7_7 dX7_openNow_36 ?_
    refine j_iload C dX7_openNow_39 rfl ?_
    refine j_iload C dX7_openNow_41 rfl ?_
    refine j_iaddN C dX7_openNow_43 ?_
    refine j_iconst (v := (nI 0)) C dX7_openNow_44 (by decide) ?_
    refine j_iastN C (by first | assumption | rfl | exact kd_sums (by assumption) | exact kd_st1 (by assumption) | exact kd_st2 (by assumption) | exact kd_ls (by first | assumption | rfl) (by assumption) | exact kd_sb (by first | assumption | rfl) (by assumption) | exact kd_sv (by assumption)) rfl rfl (by omega) dX7_openNow_45 ?_
    refine j_incN7 (q := 1) C dX7_openNow_46 (by decide) (Nat.le_of_ble_eq_true rfl) rfl ?_
    refine j_goto (tgt := 28) C dX7_openNow_49 (by decide) ?_
    refine j_mem (V' := (rZero V k (i + 1))) (L' := L) (by exact rZero_step) rfl ?_
    exact j_dr (lv' := [some (.ref (ad g 224)), some (.int p1), some (.int n), some (.int r), some (.int c0), some (.int (nI k)), some (.int (nI (3 + 22 * k))), some (.int (nI (i + 1)))]) (And.intro rfl (And.intro rfl (And.intro rfl (And.intro rfl (And.intro rfl (And.intro rfl (And.intro rfl (And.intro rfl True.intro)))))))) (ih (i + 1) (by omega))
set_option maxHeartbeats 4000000 in
theorem c_X7_openNow {l : Launch} {g : GC} {V : Mem} {L : LMem} {k : Nat} {p1 n r c0 : Int32} (hz : V 225 0 = nI k) (hk : k < 8) (hr : rateR r) : MC l yX7_openNow cX7_openNow 8 (Option.none : Option Jvm.ClassFile.FieldType) 2 g V L [.ref (ad g 224), .int p1, .int n, .int r, .int c0] none (rOpn k p1 n r c0 V) L := by
  refine MC.of [some (.ref (ad g 224)), some (.int p1), some (.int n), some (.int r), some (.int c0), none, none, none] (by decide +kernel) rfl (Nat.le_of_ble_eq_true rfl) (fun p e s m args below meth c C => ?_)
  refine j_aload_n C dX7_openNow_0 rfl rfl ?_
  refine jg_LeaseBookModel_z C (by first | assumption | rfl | exact kd_sums (by assumption) | exact kd_st1 (by assumption) | exact kd_st2 (by assumption) | exact kd_ls (by first | assumption | rfl) (by assumption) | exact kd_sb (by first | assumption | rfl) (by assumption) | exact kd_sv (by assumption)) qf_X7_7 dX7_openNow_1 ?_
  refine j_iconst (v := (nI 0)) C dX7_openNow_4 (by decide) ?_
  refine j_ialdN C (by first | assumption | rfl | exact kd_sums (by assumption) | exact kd_st1 (by assumption) | exact kd_st2 (by assumption) | exact kd_ls (by first | assumption | rfl) (by assumption) | exact kd_sb (by first | assumption | rfl) (by assumption) | exact kd_sv (by assumption)) rfl rfl (by omega) dX7_openNow_5 ?_
  refine j_tope (y := nI k) (by exact hz) ?_
  refine j_ist5 C dX7_openNow_6 (Nat.le_of_ble_eq_true rfl) rfl ?_
  refine j_iload C dX7_openNow_8 rfl ?_
  refine j_callS1r C (c_X7_at) qm_X7_32 qt_X7_at qn_X7 qc_X7_at fit_X7_at ⟨Nat.le_of_ble_eq_true rfl, Nat.le_of_ble_eq_true rfl, Nat.le_of_ble_eq_true rfl, Nat.le_of_ble_eq_true rfl⟩ (Nat.le_of_ble_eq_true rfl) dX7_openNow_10 ?_
  refine j_ist6 C dX7_openNow_13 (Nat.le_of_ble_eq_true rfl) rfl ?_
  refine j_aload_n C dX7_openNow_15 rfl rfl ?_
  refine jg_LeaseBookModel_z C (by first | assumption | rfl | exact kd_sums (by assumption) | exact kd_st1 (by assumption) | exact kd_st2 (by assumption) | exact kd_ls (by first | assumption | rfl) (by assumption) | exact kd_sb (by first | assumption | rfl) (by assumption) | exact kd_sv (by assumption)) qf_X7_7 dX7_openNow_16 ?_
  refine j_iconst (v := (nI 0)) C dX7_openNow_19 (by decide) ?_
  refine j_dup2 C dX7_openNow_20 rfl rfl ?_
  refine j_ialdN C (by first | assumption | rfl | exact kd_sums (by assumption) | exact kd_st1 (by assumption) | exact kd_st2 (by assumption) | exact kd_ls (by first | assumption | rfl) (by assumption) | exact kd_sb (by first | assumption | rfl) (by assumption) | exact kd_sv (by assumption)) rfl rfl (by omega) dX7_openNow_21 ?_
  refine j_iconst (v := (nI 1)) C dX7_openNow_22 (by decide) ?_
  refine j_iadd C dX7_openNow_23 ?_
  refine j_iastN C (by first | assumption | rfl | exact kd_sums (by assumption) | exact kd_st1 (by assumption) | exact kd_st2 (by assumption) | exact kd_ls (by first | assumption | rfl) (by assumption) | exact kd_sb (by first | assumption | rfl) (by assumption) | exact kd_sv (by assumption)) rfl rfl (by omega) dX7_openNow_24 ?_
  refine j_iconst (v := (nI 0)) C dX7_openNow_25 (by decide) ?_
  refine j_ist7 C dX7_openNow_26 (Nat.le_of_ble_eq_true rfl) rfl ?_
  refine j_mem (V' := rZero (mset V 225 0 (V 225 0 + nI 1)) k 0) rZero_0 rfl ?_
  refine lp_X7_openNow C hk ?_ 22 0 rfl
  refine j_aload_n C dX7_openNow_52 rfl rfl ?_
  refine jg_LeaseBookModel_z C (by first | assumption | rfl | exact kd_sums (by assumption) | exact kd_st1 (by assumption) | exact kd_st2 (by assumption) | exact kd_ls (by first | assumption | rfl) (by assumption) | exact kd_sb (by first | assumption | rfl) (by assumption) | exact kd_sv (by assumption)) qf_X7_7 dX7_openNow_53 ?_
  refine j_iload C dX7_openNow_56 rfl ?_
  refine j_iload_n C dX7_openNow_58 rfl rfl ?_
  refine j_iastN C (by first | assumption | rfl | exact kd_sums (by assumption) | exact kd_st1 (by assumption) | exact kd_st2 (by assumption) | exact kd_ls (by first | assumption | rfl) (by assumption) | exact kd_sb (by first | assumption | rfl) (by assumption) | exact kd_sv (by assumption)) rfl rfl (by omega) dX7_openNow_59 ?_
  refine j_aload_n C dX7_openNow_60 rfl rfl ?_
  refine jg_LeaseBookModel_z C (by first | assumption | rfl | exact kd_sums (by assumption) | exact kd_st1 (by assumption) | exact kd_st2 (by assumption) | exact kd_ls (by first | assumption | rfl) (by assumption) | exact kd_sb (by first | assumption | rfl) (by assumption) | exact kd_sv (by assumption)) qf_X7_7 dX7_openNow_61 ?_
  refine j_iload C dX7_openNow_64 rfl ?_
  refine j_iconst (v := (nI 1)) C dX7_openNow_66 (by decide) ?_
  refine j_iaddN C dX7_openNow_67 ?_
  refine j_iload_n C dX7_openNow_68 rfl rfl ?_
  refine j_iastN C (by first | assumption | rfl | exact kd_sums (by assumption) | exact kd_st1 (by assumption) | exact kd_st2 (by assumption) | exact kd_ls (by first | assumption | rfl) (by assumption) | exact kd_sb (by first | assumption | rfl) (by assumption) | exact kd_sv (by assumption)) rfl rfl (by omega) dX7_openNow_69 ?_
  refine j_aload_n C dX7_openNow_70 rfl rfl ?_
  refine jg_LeaseBookModel_z C (by first | assumption | rfl | exact kd_sums (by assumption) | exact kd_st1 (by assumption) | exact kd_st2 (by assumption) | exact kd_ls (by first | assumption | rfl) (by assumption) | exact kd_sb (by first | assumption | rfl) (by assumption) | exact kd_sv (by assumption)) qf_X7_7 dX7_openNow_71 ?_
  refine j_iload C dX7_openNow_74 rfl ?_
  refine j_iconst (v := (nI 2)) C dX7_openNow_76 (by decide) ?_
  refine j_iaddN C dX7_openNow_77 ?_
  refine j_iload_n C dX7_openNow_78 rfl rfl ?_
  refine j_iastN C (by first | assumption | rfl | exact kd_sums (by assumption) | exact kd_st1 (by assumption) | exact kd_st2 (by assumption) | exact kd_ls (by first | assumption | rfl) (by assumption) | exact kd_sb (by first | assumption | rfl) (by assumption) | exact kd_sv (by assumption)) rfl rfl (by omega) dX7_openNow_79 ?_
  refine j_aload_n C dX7_openNow_80 rfl rfl ?_
  refine jg_LeaseBookModel_z C (by first | assumption | rfl | exact kd_sums (by assumption) | exact kd_st1 (by assumption) | exact kd_st2 (by assumption) | exact kd_ls (by first | assumption | rfl) (by assumption) | exact kd_sb (by first | assumption | rfl) (by assumption) | exact kd_sv (by assumption)) qf_X7_7 dX7_openNow_81 ?_
  refine j_iload C dX7_openNow_84 rfl ?_
  refine j_iconst (v := (nI 3)) C dX7_openNow_86 (by decide) ?_
  refine j_iaddN C dX7_openNow_87 ?_
  refine j_iload_n C dX7_openNow_88 rfl rfl ?_
  refine j_iload_n C dX7_openNow_89 rfl rfl ?_
  refine j_iload_n C dX7_openNow_90 rfl rfl ?_
  refine j_callS3r C (c_X7_worthOf hr) qm_X7_49 qt_X7_worthOf qn_X7 qc_X7_worthOf fit_X7_worthOf ⟨Nat.le_of_ble_eq_true rfl, Nat.le_of_ble_eq_true rfl, Nat.le_of_ble_eq_true rfl, Nat.le_of_ble_eq_true rfl⟩ (Nat.le_of_ble_eq_true rfl) dX7_openNow_91 ?_
  refine j_iastN C (by first | assumption | rfl | exact kd_sums (by assumption) | exact kd_st1 (by assumption) | exact kd_st2 (by assumption) | exact kd_ls (by first | assumption | rfl) (by assumption) | exact kd_sb (by first | assumption | rfl) (by assumption) | exact kd_sv (by assumption)) rfl rfl (by omega) dX7_openNow_94 ?_
  refine j_aload_n C dX7_openNow_95 rfl rfl ?_
  refine jg_LeaseBookModel_z C (by first | assumption | rfl | exact kd_sums (by assumption) | exact kd_st1 (by assumption) | exact kd_st2 (by assumption) | exact kd_ls (by first | assumption | rfl) (by assumption) | exact kd_sb (by first | assumption | rfl) (by assumption) | exact kd_sv (by assumption)) qf_X7_7 dX7_openNow_96 ?_
  refine j_iload C dX7_openNow_99 rfl ?_
  refine j_iconst (v := (nI 4)) C dX7_openNow_101 (by decide) ?_
  refine j_iaddN C dX7_openNow_102 ?_
  refine j_aload_n C dX7_openNow_103 rfl rfl ?_
  refine jg_LeaseBookModel_z C (by first | assumption | rfl | exact kd_sums (by assumption) | exact kd_st1 (by assumption) | exact kd_st2 (by assumption) | exact kd_ls (by first | assumption | rfl) (by assumption) | exact kd_sb (by first | assumption | rfl) (by assumption) | exact kd_sv (by assumption)) qf_X7_7 dX7_openNow_104 ?_
  refine j_iload C dX7_openNow_107 rfl ?_
  refine j_iconst (v := (nI 3)) C dX7_openNow_109 (by decide) ?_
  refine j_iaddN C dX7_openNow_110 ?_
  refine j_ialdN C (by first | assumption | rfl | exact kd_sums (by assumption) | exact kd_st1 (by assumption) | exact kd_st2 (by assumption) | exact kd_ls (by first | assumption | rfl) (by assumption) | exact kd_sb (by first | assumption | rfl) (by assumption) | exact kd_sv (by assumption)) rfl rfl (by omega) dX7_openNow_111 ?_
  refine j_iload C dX7_openNow_112 rfl ?_
  refine j_iadd C dX7_openNow_114 ?_
  refine j_iastN C (by first | assumption | rfl | exact kd_sums (by assumption) | exact kd_st1 (by assumption) | exact kd_st2 (by assumption) | exact kd_ls (by first | assumption | rfl) (by assumption) | exact kd_sb (by first | assumption | rfl) (by assumption) | exact kd_sv (by assumption)) rfl rfl (by omega) dX7_openNow_115 ?_
  refine j_aload_n C dX7_openNow_116 rfl rfl ?_
  refine j_iload C dX7_openNow_117 rfl ?_
  refine j_iconst (v := (nI 0)) C dX7_openNow_119 (by decide) ?_
  refine j_aload_n C dX7_openNow_120 rfl rfl ?_
  refine jg_LeaseBookModel_z C (by first | assumption | rfl | exact kd_sums (by assumption) | exact kd_st1 (by assumption) | exact kd_st2 (by assumption) | exact kd_ls (by first | assumption | rfl) (by assumption) | exact kd_sb (by first | assumption | rfl) (by assumption) | exact kd_sv (by assumption)) qf_X7_7 dX7_openNow_121 ?_
  refine j_iload C dX7_openNow_124 rfl ?_
  refine j_iconst (v := (nI 3)) C dX7_openNow_126 (by decide) ?_
  refine j_iaddN C dX7_openNow_127 ?_
  refine j_ialdN C (by first | assumption | rfl | exact kd_sums (by assumption) | exact kd_st1 (by assumption) | exact kd_st2 (by assumption) | exact kd_ls (by first | assumption | rfl) (by assumption) | exact kd_sb (by first | assumption | rfl) (by assumption) | exact kd_sv (by assumption)) rfl rfl (by omega) dX7_openNow_128 ?_
  refine j_callV3v C (oa_X7 (by first | assumption | rfl | exact kd_sums (by assumption) | exact kd_st1 (by assumption) | exact kd_st2 (by assumption) | exact kd_ls (by first | assumption | rfl) (by assumption) | exact kd_sb (by first | assumption | rfl) (by assumption) | exact kd_sv (by assumption))) rfl rfl (c_X7_move hk (by omega)) qm_X7_53 qi_X7_move qs_X7_move qn_X7 qc_X7_move fit_X7_move ⟨Nat.le_of_ble_eq_true rfl, Nat.le_of_ble_eq_true rfl, Nat.le_of_ble_eq_true rfl, Nat.le_of_ble_eq_true rfl⟩ (Nat.le_of_ble_eq_true rfl) dX7_openNow_129 ?_
  refine j_aload_n C dX7_openNow_132 rfl rfl ?_
  refine j_iload C dX7_openNow_133 rfl ?_
  refine j_iconst (v := (nI 5)) C dX7_openNow_135 (by decide) ?_
  refine j_aload_n C dX7_openNow_136 rfl rfl ?_
  refine jg_LeaseBookModel_z C (by first | assumption | rfl | exact kd_sums (by assumption) | exact kd_st1 (by assumption) | exact kd_st2 (by assumption) | exact kd_ls (by first | assumption | rfl) (by assumption) | exact kd_sb (by first | assumption | rfl) (by assumption) | exact kd_sv (by assumption)) qf_X7_7 dX7_openNow_137 ?_
  refine j_iload C dX7_openNow_140 rfl ?_
  refine j_iconst (v := (nI 4)) C dX7_openNow_142 (by decide) ?_
  refine j_iaddN C dX7_openNow_143 ?_
  refine j_ialdN C (by first | assumption | rfl | exact kd_sums (by assumption) | exact kd_st1 (by assumption) | exact kd_st2 (by assumption) | exact kd_ls (by first | assumption | rfl) (by assumption) | exact kd_sb (by first | assumption | rfl) (by assumption) | exact kd_sv (by assumption)) rfl rfl (by omega) dX7_openNow_144 ?_
  refine j_callV3v C (oa_X7 (by first | assumption | rfl | exact kd_sums (by assumption) | exact kd_st1 (by assumption) | exact kd_st2 (by assumption) | exact kd_ls (by first | assumption | rfl) (by assumption) | exact kd_sb (by first | assumption | rfl) (by assumption) | exact kd_sv (by assumption))) rfl rfl (c_X7_move hk (by omega)) qm_X7_53 qi_X7_move qs_X7_move qn_X7 qc_X7_move fit_X7_move ⟨Nat.le_of_ble_eq_true rfl, Nat.le_of_ble_eq_true rfl, Nat.le_of_ble_eq_true rfl, Nat.le_of_ble_eq_true rfl⟩ (Nat.le_of_ble_eq_true rfl) dX7_openNow_145 ?_
  refine j_aload_n C dX7_openNow_148 rfl rfl ?_
  refine j_iload C dX7_openNow_149 rfl ?_
  refine j_bipush (v := (nI 15)) C dX7_openNow_151 (by decide) ?_
  refine j_iload C dX7_openNow_153 rfl ?_
  refine j_callV3v C (oa_X7 (by first | assumption | rfl | exact kd_sums (by assumption) | exact kd_st1 (by assumption) | exact kd_st2 (by assumption) | exact kd_ls (by first | assumption | rfl) (by assumption) | exact kd_sb (by first | assumption | rfl) (by assumption) | exact kd_sv (by assumption))) rfl rfl (c_X7_move hk (by omega)) qm_X7_53 qi_X7_move qs_X7_move qn_X7 qc_X7_move fit_X7_move ⟨Nat.le_of_ble_eq_true rfl, Nat.le_of_ble_eq_true rfl, Nat.le_of_ble_eq_true rfl, Nat.le_of_ble_eq_true rfl⟩ (Nat.le_of_ble_eq_true rfl) dX7_openNow_155 ?_
  exact j_vret C dX7_openNow_158 rfl (by rfl) (by rfl)
set_option maxHeartbeats 4000000 in
theorem lp_X7_cutOff {p : Program} {l : Launch} {e : Env} {s : State} {m : MethodId} {args : Array Value} {below : List Frame} {meth : Method} {c : Code} {g : GC} {Q : State → Prop} {V : Mem} {L : LMem} {k nl ns : Nat} {n : Int32} (C : Cx p s args m meth c cX7_cutOff 6 yX7_cutOff.cls (Option.none : Option Jvm.ClassFile.FieldType) g) (hk : k < 8) (hR : RR nl ns V) (kx : J p l e (RM 2) s m args below meth c 6 g 0 0 Q (rCut k n V (ns)) L 112 [some (.ref (ad g 224)), some (.int (nI k)), some (.int n), some (.int (nI (ns))), none, none] []) : ∀ j i : Nat, i + j = ns → J p l e (RM 2) s m args below meth c 6 g 0 0 Q (rCut k n V i) L 2 [some (.ref (ad g 224)), some (.int (nI k)), some (.int n), some (.int (nI i)), none, none] [] := by
  intro j
  induction j with
  | zero =>
    intro i hi
    have hi : ns = i := by omega
    subst hi
    refine j_iload_n C dX7_cutOff_2 rfl rfl ?_
    refine j_aload_n C dX7_cutOff_3 rfl rfl ?_
    refine jg_LeaseBookModel_z C (by first | assumption | rfl | exact kd_sums (by assumption) | exact kd_st1 (by assumption) | exact kd_st2 (by assumption) | exact kd_ls (by first | assumption | rfl) (by assumption) | exact kd_sb (by first | assumption | rfl) (by assumption) | exact kd_sv (by assumption)) qf_X7_7 dX7_cutOff_4 ?_
    refine j_iconst (v := (nI 1)) C dX7_cutOff_7 (by decide) ?_
    refine j_ialdN C (by first | assumption | rfl | exact kd_sums (by assumption) | exact kd_st1 (by assumption) | exact kd_st2 (by assumption) | exact kd_ls (by first | assumption | rfl) (by assumption) | exact kd_sb (by first | assumption | rfl) (by assumption) | exact kd_sv (by assumption)) rfl rfl (by omega) dX7_cutOff_8 ?_
    refine j_tope (y := nI ns) (by exact (hR.cut hk _ (by have := hR.2.1; omega)).2.2.2.1) ?_
    refine j_icmp_ge (tgt := 112) C dX7_cutOff_9 (by decide) (fun h9 => ?_) (fun h9 => absurd (nI_le (by omega) (by have := hR.2.1; omega)) h9)
    exact kx
  | succ j ih =>
    intro i hi
    have h12 := hR.2.1
    have hRi := hR.cut (n := n) hk i (by omega)
    refine j_iload_n C dX7_cutOff_2 rfl rfl ?_
    refine j_aload_n C dX7_cutOff_3 rfl rfl ?_
    refine jg_LeaseBookModel_z C (by first | assumption | rfl | exact kd_sums (by assumption) | exact kd_st1 (by assumption) | exact kd_st2 (by assumption) | exact kd_ls (by first | assumption | rfl) (by assumption) | exact kd_sb (by first | assumption | rfl) (by assumption) | exact kd_sv (by assumption)) qf_X7_7 dX7_cutOff_4 ?_
    refine j_iconst (v := (nI 1)) C dX7_cutOff_7 (by decide) ?_
    refine j_ialdN C (by first | assumption | rfl | exact kd_sums (by assumption) | exact kd_st1 (by assumption) | exact kd_st2 (by assumption) | exact kd_ls (by first | assumption | rfl) (by assumption) | exact kd_sb (by first | assumption | rfl) (by assumption) | exact kd_sv (by assumption)) rfl rfl (by omega) dX7_cutOff_8 ?_
    refine j_tope (y := nI ns) (by exact (hR.cut hk _ (by have := hR.2.1; omega)).2.2.2.1) ?_
    refine j_icmp_ge (tgt := 112) C dX7_cutOff_9 (by decide) (fun h9 => absurd h9 (nI_ge (by omega) (by omega))) (fun h9 => ?_)
    refine j_iload_n C dX7_cutOff_12 rfl rfl ?_
    refine j_callS1r C (c_X7_sub) qm_X7_77 qt_X7_sub qn_X7 qc_X7_sub fit_X7_sub ⟨Nat.le_of_ble_eq_true rfl, Nat.le_of_ble_eq_true rfl, Nat.le_of_ble_eq_true rfl, Nat.le_of_ble_eq_true rfl⟩ (Nat.le_of_ble_eq_true rfl) dX7_cutOff_13 ?_
    refine j_ist4 C dX7_cutOff_16 (Nat.le_of_ble_eq_true rfl) rfl ?_
    refine j_aload_n C dX7_cutOff_18 rfl rfl ?_
    refine jg_LeaseBookModel_z C (by first | assumption | rfl | exact kd_sums (by assumption) | exact kd_st1 (by assumption) | exact kd_st2 (by assumption) | exact kd_ls (by first | assumption | rfl) (by assumption) | exact kd_sb (by first | assumption | rfl) (by assumption) | exact kd_sv (by assumption)) qf_X7_7 dX7_cutOff_19 ?_
    refine j_iload C dX7_cutOff_22 rfl ?_
    refine j_ialdN C (by first | assumption | rfl | exact kd_sums (by assumption) | exact kd_st1 (by assumption) | exact kd_st2 (by assumption) | exact kd_ls (by first | assumption | rfl) (by assumption) | exact kd_sb (by first | assumption | rfl) (by assumption) | exact kd_sv (by assumption)) rfl rfl (by omega) dX7_cutOff_24 ?_
    refine j_iload_n C dX7_cutOff_25 rfl rfl ?_
    refine j_icmp_ne (tgt := 106) C dX7_cutOff_26 (by decide) (fun h26 => ?_) (fun h26 => ?_)
    · refine j_incN3 (q := 1) C dX7_cutOff_106 (by decide) (Nat.le_of_ble_eq_true rfl) rfl ?_
      refine j_goto (tgt := 2) C dX7_cutOff_109 (by decide) ?_
      refine j_mem (V' := (rCut k n V (i + 1))) (L' := L) (by simp only [rCut, rCutS]; first | (rw [if_pos ⟨by assumption, by first | assumption | exact Int32.not_le.mp (by assumption)⟩]; done) | (rw [if_neg (fun q => absurd q.1 (by assumption))]; done) | (rw [if_neg (fun q => absurd q.2 (by first | assumption | exact Int32.not_lt.mpr (by assumption)))]; done)) rfl ?_
      exact j_dr (lv' := [some (.ref (ad g 224)), some (.int (nI k)), some (.int n), some (.int (nI (i + 1))), none, none]) (And.intro rfl (And.intro rfl (And.intro rfl (And.intro rfl True.intro)))) (ih (i + 1) (by omega))
    · refine j_aload_n C dX7_cutOff_29 rfl rfl ?_
      refine jg_LeaseBookModel_z C (by first | assumption | rfl | exact kd_sums (by assumption) | exact kd_st1 (by assumption) | exact kd_st2 (by assumption) | exact kd_ls (by first | assumption | rfl) (by assumption) | exact kd_sb (by first | assumption | rfl) (by assumption) | exact kd_sv (by assumption)) qf_X7_7 dX7_cutOff_30 ?_
      refine j_iload C dX7_cutOff_33 rfl ?_
      refine j_iconst (v := (nI 3)) C dX7_cutOff_35 (by decide) ?_
      refine j_iaddN C dX7_cutOff_36 ?_
      refine j_ialdN C (by first | assumption | rfl | exact kd_sums (by assumption) | exact kd_st1 (by assumption) | exact kd_st2 (by assumption) | exact kd_ls (by first | assumption | rfl) (by assumption) | exact kd_sb (by first | assumption | rfl) (by assumption) | exact kd_sv (by assumption)) rfl rfl (by omega) dX7_cutOff_37 ?_
      refine j_iload_n C dX7_cutOff_38 rfl rfl ?_
      refine j_icmp_le (tgt := 106) C dX7_cutOff_39 (by decide) (fun h39 => ?_) (fun h39 => ?_)
      · refine j_incN3 (q := 1) C dX7_cutOff_106 (by decide) (Nat.le_of_ble_eq_true rfl) rfl ?_
        refine j_goto (tgt := 2) C dX7_cutOff_109 (by decide) ?_
        refine j_mem (V' := (rCut k n V (i + 1))) (L' := L) (by simp only [rCut, rCutS]; first | (rw [if_pos ⟨by assumption, by first | assumption | exact Int32.not_le.mp (by assumption)⟩]; done) | (rw [if_neg (fun q => absurd q.1 (by assumption))]; done) | (rw [if_neg (fun q => absurd q.2 (by first | assumption | exact Int32.not_lt.mpr (by assumption)))]; done)) rfl ?_
        exact j_dr (lv' := [some (.ref (ad g 224)), some (.int (nI k)), some (.int n), some (.int (nI (i + 1))), none, none]) (And.intro rfl (And.intro rfl (And.intro rfl (And.intro rfl True.intro)))) (ih (i + 1) (by omega))
      · refine j_aload_n C dX7_cutOff_42 rfl rfl ?_
        refine jg_LeaseBookModel_z C (by first | assumption | rfl | exact kd_sums (by assumption) | exact kd_st1 (by assumption) | exact kd_st2 (by assumption) | exact kd_ls (by first | assumption | rfl) (by assumption) | exact kd_sb (by first | assumption | rfl) (by assumption) | exact kd_sv (by assumption)) qf_X7_7 dX7_cutOff_43 ?_
        refine j_iload C dX7_cutOff_46 rfl ?_
        refine j_iconst (v := (nI 2)) C dX7_cutOff_48 (by decide) ?_
        refine j_iaddN C dX7_cutOff_49 ?_
        refine j_ialdN C (by first | assumption | rfl | exact kd_sums (by assumption) | exact kd_st1 (by assumption) | exact kd_st2 (by assumption) | exact kd_ls (by first | assumption | rfl) (by assumption) | exact kd_sb (by first | assumption | rfl) (by assumption) | exact kd_sv (by assumption)) rfl rfl (by omega) dX7_cutOff_50 ?_
        refine j_iload_n C dX7_cutOff_51 rfl rfl ?_
        refine j_aload_n C dX7_cutOff_52 rfl rfl ?_
        refine jg_LeaseBookModel_z C (by first | assumption | rfl | exact kd_sums (by assumption) | exact kd_st1 (by assumption) | exact kd_st2 (by assumption) | exact kd_ls (by first | assumption | rfl) (by assumption) | exact kd_sb (by first | assumption | rfl) (by assumption) | exact kd_sv (by assumption)) qf_X7_7 dX7_cutOff_53 ?_
        refine j_iload C dX7_cutOff_56 rfl ?_
        refine j_iconst (v := (nI 4)) C dX7_cutOff_58 (by decide) ?_
        refine j_iaddN C dX7_cutOff_59 ?_
        refine j_ialdN C (by first | assumption | rfl | exact kd_sums (by assumption) | exact kd_st1 (by assumption) | exact kd_st2 (by assumption) | exact kd_ls (by first | assumption | rfl) (by assumption) | exact kd_sb (by first | assumption | rfl) (by assumption) | exact kd_sv (by assumption)) rfl rfl (by omega) dX7_cutOff_60 ?_
        refine j_callS3r C (c_X7_worthOf (hRi.2.2.2.2.2 i (by omega))) qm_X7_49 qt_X7_worthOf qn_X7 qc_X7_worthOf fit_X7_worthOf ⟨Nat.le_of_ble_eq_true rfl, Nat.le_of_ble_eq_true rfl, Nat.le_of_ble_eq_true rfl, Nat.le_of_ble_eq_true rfl⟩ (Nat.le_of_ble_eq_true rfl) dX7_cutOff_61 ?_
        refine j_ist5 C dX7_cutOff_64 (Nat.le_of_ble_eq_true rfl) rfl ?_
        refine j_aload_n C dX7_cutOff_66 rfl rfl ?_
        refine j_iload_n C dX7_cutOff_67 rfl rfl ?_
        refine j_bipush (v := (nI 14)) C dX7_cutOff_68 (by decide) ?_
        refine j_aload_n C dX7_cutOff_70 rfl rfl ?_
        refine jg_LeaseBookModel_z C (by first | assumption | rfl | exact kd_sums (by assumption) | exact kd_st1 (by assumption) | exact kd_st2 (by assumption) | exact kd_ls (by first | assumption | rfl) (by assumption) | exact kd_sb (by first | assumption | rfl) (by assumption) | exact kd_sv (by assumption)) qf_X7_7 dX7_cutOff_71 ?_
        refine j_iload C dX7_cutOff_74 rfl ?_
        refine j_iconst (v := (nI 5)) C dX7_cutOff_76 (by decide) ?_
        refine j_iaddN C dX7_cutOff_77 ?_
        refine j_ialdN C (by first | assumption | rfl | exact kd_sums (by assumption) | exact kd_st1 (by assumption) | exact kd_st2 (by assumption) | exact kd_ls (by first | assumption | rfl) (by assumption) | exact kd_sb (by first | assumption | rfl) (by assumption) | exact kd_sv (by assumption)) rfl rfl (by omega) dX7_cutOff_78 ?_
        refine j_iload C dX7_cutOff_79 rfl ?_
        refine j_isub C dX7_cutOff_81 ?_
        refine j_callV3v C (oa_X7 (by first | assumption | rfl | exact kd_sums (by assumption) | exact kd_st1 (by assumption) | exact kd_st2 (by assumption) | exact kd_ls (by first | assumption | rfl) (by assumption) | exact kd_sb (by first | assumption | rfl) (by assumption) | exact kd_sv (by assumption))) rfl rfl (c_X7_move hk (by omega)) qm_X7_53 qi_X7_move qs_X7_move qn_X7 qc_X7_move fit_X7_move ⟨Nat.le_of_ble_eq_true rfl, Nat.le_of_ble_eq_true rfl, Nat.le_of_ble_eq_true rfl, Nat.le_of_ble_eq_true rfl⟩ (Nat.le_of_ble_eq_true rfl) dX7_cutOff_82 ?_
        refine j_aload_n C dX7_cutOff_85 rfl rfl ?_
        refine jg_LeaseBookModel_z C (by first | assumption | rfl | exact kd_sums (by assumption) | exact kd_st1 (by assumption) | exact kd_st2 (by assumption) | exact kd_ls (by first | assumption | rfl) (by assumption) | exact kd_sb (by first | assumption | rfl) (by assumption) | exact kd_sv (by assumption)) qf_X7_7 dX7_cutOff_86 ?_
        refine j_iload C dX7_cutOff_89 rfl ?_
        refine j_iconst (v := (nI 3)) C dX7_cutOff_91 (by decide) ?_
        refine j_iaddN C dX7_cutOff_92 ?_
        refine j_iload_n C dX7_cutOff_93 rfl rfl ?_
        refine j_iastN C (by first | assumption | rfl | exact kd_sums (by assumption) | exact kd_st1 (by assumption) | exact kd_st2 (by assumption) | exact kd_ls (by first | assumption | rfl) (by assumption) | exact kd_sb (by first | assumption | rfl) (by assumption) | exact kd_sv (by assumption)) rfl rfl (by omega) dX7_cutOff_94 ?_
        refine j_aload_n C dX7_cutOff_95 rfl rfl ?_
        refine jg_LeaseBookModel_z C (by first | assumption | rfl | exact kd_sums (by assumption) | exact kd_st1 (by assumption) | exact kd_st2 (by assumption) | exact kd_ls (by first | assumption | rfl) (by assumption) | exact kd_sb (by first | assumption | rfl) (by assumption) | exact kd_sv (by assumption)) qf_X7_7 dX7_cutOff_96 ?_
        refine j_iload C dX7_cutOff_99 rfl ?_
        refine j_iconst (v := (nI 5)) C dX7_cutOff_101 (by decide) ?_
        refine j_iaddN C dX7_cutOff_102 ?_
        refine j_iload C dX7_cutOff_103 rfl ?_
        refine j_iastN C (by first | assumption | rfl | exact kd_sums (by assumption) | exact kd_st1 (by assumption) | exact kd_st2 (by assumption) | exact kd_ls (by first | assumption | rfl) (by assumption) | exact kd_sb (by first | assumption | rfl) (by assumption) | exact kd_sv (by assumption)) rfl rfl (by omega) dX7_cutOff_105 ?_
        refine j_incN3 (q := 1) C dX7_cutOff_106 (by decide) (Nat.le_of_ble_eq_true rfl) rfl ?_
        refine j_goto (tgt := 2) C dX7_cutOff_109 (by decide) ?_
        refine j_mem (V' := (rCut k n V (i + 1))) (L' := L) (by simp only [rCut, rCutS]; first | (rw [if_pos ⟨by assumption, by first | assumption | exact Int32.not_le.mp (by assumption)⟩]; done) | (rw [if_neg (fun q => absurd q.1 (by assumption))]; done) | (rw [if_neg (fun q => absurd q.2 (by first | assumption | exact Int32.not_lt.mpr (by assumption)))]; done)) rfl ?_
        exact j_dr (lv' := [some (.ref (ad g 224)), some (.int (nI k)), some (.int n), some (.int (nI (i + 1))), none, none]) (And.intro rfl (And.intro rfl (And.intro rfl (And.intro rfl True.intro)))) (ih (i + 1) (by omega))
set_option maxHeartbeats 4000000 in
theorem c_X7_cutOff {l : Launch} {g : GC} {V : Mem} {L : LMem} {k nl ns : Nat} {n : Int32} (hk : k < 8) (hR : RR nl ns V) : MC l yX7_cutOff cX7_cutOff 6 (Option.none : Option Jvm.ClassFile.FieldType) 2 g V L [.ref (ad g 224), .int (nI k), .int n] none (rCut k n V ns) L := by
  refine MC.of [some (.ref (ad g 224)), some (.int (nI k)), some (.int n), none, none, none] (by decide +kernel) rfl (Nat.le_of_ble_eq_true rfl) (fun p e s m args below meth c C => ?_)
  refine j_iconst (v := (nI 0)) C dX7_cutOff_0 (by decide) ?_
  refine j_ist3 C dX7_cutOff_1 rfl (Nat.le_of_ble_eq_true rfl) rfl ?_
  refine lp_X7_cutOff C hk hR ?_ ns 0 (by omega)
  exact j_vret C dX7_cutOff_112 rfl (by rfl) (by rfl)
