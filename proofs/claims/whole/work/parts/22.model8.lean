/-! THE MODEL'S PUBLIC METHODS, 3 (laid by wip/whole/p22.py) -/
theorem rSave_o {V : Mem} {sv b : Nat} (h : b ≠ 3) : rSave sv V 224 b = V 224 b := by
  unfold rSave
  split
  · unfold rSave6
    show mset _ 224 3 _ 224 b = _
    rw [mset_ne (by omega), rCp_ne (by omega), mset_ne (by omega), rSh_ne (by omega)]
  · unfold rSaveL
    show mset _ 224 3 _ 224 b = _
    rw [mset_ne (by omega), rCp_ne (by omega)]
theorem rRes_ne {V : Mem} {s i j : Nat} (h : j ≠ 225) : rRes V s i j = V j := rcpy_ne h
theorem rRes_step {V : Mem} {s i : Nat} : mset (rRes V s i) 225 i (rRes V s i 226 (251 * s + i)) = rRes V s (i + 1) := by
  have e : rRes V s i 226 (251 * s + i) = V 226 (251 * s + i) := congrFun (rRes_ne (by decide)) _
  rw [e]
  exact rcpy_step (f := fun b => V 226 (251 * s + b))
theorem rOA_step {T : Nat → Int32} {nl i : Nat} {W : Mem} (hT : T = W 229) : rOpn (nl + i) (rOA T nl W i 229 (4 * i)) (rOA T nl W i 229 (4 * i + 1)) (rOA T nl W i 229 (4 * i + 2)) (rOA T nl W i 229 (4 * i + 3)) (rOA T nl W i) = rOA T nl W (i + 1) := by
  subst hT
  rw [rOA_row (a := 229) (by decide)]
  rfl
set_option maxHeartbeats 4000000 in
theorem lp_X7_passI {p : Program} {l : Launch} {e : Env} {s : State} {m : MethodId} {args : Array Value} {below : List Frame} {meth : Method} {c : Code} {g : GC} {Q : State → Prop} {V : Mem} {L : LMem} {n k nl ns : Nat} (C : Cx p s args m meth c cX7_pass 4 yX7_pass.cls (some .int) g) (hR : RR nl ns V) (kx : J p l e (RM 6) s m args below meth c 4 g 0 0 Q (rPAll ns V (nl)) L 75 [some (.ref (ad g 224)), some (.int (nI n)), some (.int (nI k)), some (.int (nI (nl)))] []) : ∀ j i : Nat, i + j = nl → J p l e (RM 6) s m args below meth c 4 g 0 0 Q (rPAll ns V i) L 54 [some (.ref (ad g 224)), some (.int (nI n)), some (.int (nI k)), some (.int (nI i))] [] := by
  intro j
  induction j with
  | zero =>
    intro i hi
    have hi : nl = i := by omega
    subst hi
    refine j_iload_n C dX7_pass_54 rfl rfl ?_
    refine j_aload_n C dX7_pass_55 rfl rfl ?_
    refine jg_LeaseBookModel_z C (by first | assumption | rfl | exact kd_sums (by assumption) | exact kd_st1 (by assumption) | exact kd_st2 (by assumption) | exact kd_ls (by first | assumption | rfl) (by assumption) | exact kd_sb (by first | assumption | rfl) (by assumption) | exact kd_sv (by assumption)) qf_X7_7 dX7_pass_56 ?_
    refine j_iconst (v := (nI 0)) C dX7_pass_59 (by decide) ?_
    refine j_ialdN C (by first | assumption | rfl | exact kd_sums (by assumption) | exact kd_st1 (by assumption) | exact kd_st2 (by assumption) | exact kd_ls (by first | assumption | rfl) (by assumption) | exact kd_sb (by first | assumption | rfl) (by assumption) | exact kd_sv (by assumption)) rfl rfl (by omega) dX7_pass_60 ?_
    refine j_tope (y := nI nl) (by exact (hR.pall _ (by have := hR.1; omega)).2.2.1) ?_
    refine j_icmp_ge (tgt := 75) C dX7_pass_61 (by decide) (fun h61 => ?_) (fun h61 => absurd (nI_le (by omega) (by have := hR.1; omega)) h61)
    exact kx
  | succ j ih =>
    intro i hi
    have h8 := hR.1
    refine j_iload_n C dX7_pass_54 rfl rfl ?_
    refine j_aload_n C dX7_pass_55 rfl rfl ?_
    refine jg_LeaseBookModel_z C (by first | assumption | rfl | exact kd_sums (by assumption) | exact kd_st1 (by assumption) | exact kd_st2 (by assumption) | exact kd_ls (by first | assumption | rfl) (by assumption) | exact kd_sb (by first | assumption | rfl) (by assumption) | exact kd_sv (by assumption)) qf_X7_7 dX7_pass_56 ?_
    refine j_iconst (v := (nI 0)) C dX7_pass_59 (by decide) ?_
    refine j_ialdN C (by first | assumption | rfl | exact kd_sums (by assumption) | exact kd_st1 (by assumption) | exact kd_st2 (by assumption) | exact kd_ls (by first | assumption | rfl) (by assumption) | exact kd_sb (by first | assumption | rfl) (by assumption) | exact kd_sv (by assumption)) rfl rfl (by omega) dX7_pass_60 ?_
    refine j_tope (y := nI nl) (by exact (hR.pall _ (by have := hR.1; omega)).2.2.1) ?_
    refine j_icmp_ge (tgt := 75) C dX7_pass_61 (by decide) (fun h61 => absurd h61 (nI_ge (by omega) (by have := hR.1; omega))) (fun h61 => ?_)
    refine j_aload_n C dX7_pass_64 rfl rfl ?_
    refine j_iload_n C dX7_pass_65 rfl rfl ?_
    refine j_callV1v C (oa_X7 (by first | assumption | rfl | exact kd_sums (by assumption) | exact kd_st1 (by assumption) | exact kd_st2 (by assumption) | exact kd_ls (by first | assumption | rfl) (by assumption) | exact kd_sb (by first | assumption | rfl) (by assumption) | exact kd_sv (by assumption))) rfl rfl (c_X7_passLease (by omega) (hR.pall i (by omega))) qm_X7_111 qi_X7_passLease qs_X7_passLease qn_X7 qc_X7_passLease fit_X7_passLease ⟨Nat.le_of_ble_eq_true rfl, Nat.le_of_ble_eq_true rfl, Nat.le_of_ble_eq_true rfl, Nat.le_of_ble_eq_true rfl⟩ (Nat.le_of_ble_eq_true rfl) dX7_pass_66 ?_
    refine j_incN3 (q := 1) C dX7_pass_69 (by decide) (Nat.le_of_ble_eq_true rfl) rfl ?_
    refine j_goto (tgt := 54) C dX7_pass_72 (by decide) ?_
    refine j_mem (V' := (rPAll ns V (i + 1))) (L' := L) (by rfl) rfl ?_
    exact j_dr (lv' := [some (.ref (ad g 224)), some (.int (nI n)), some (.int (nI k)), some (.int (nI (i + 1)))]) (And.intro rfl (And.intro rfl (And.intro rfl (And.intro rfl True.intro)))) (ih (i + 1) (by omega))
set_option maxHeartbeats 4000000 in
theorem lp_X7_pass {p : Program} {l : Launch} {e : Env} {s : State} {m : MethodId} {args : Array Value} {below : List Frame} {meth : Method} {c : Code} {g : GC} {Q : State → Prop} {V : Mem} {L : LMem} {n nl ns : Nat} (C : Cx p s args m meth c cX7_pass 4 yX7_pass.cls (some .int) g) (hn : n ≤ 60) (hR : RR nl ns V) (kx : J p l e (RM 6) s m args below meth c 4 g 0 0 Q (rPass nl ns V (n)) L 81 [some (.ref (ad g 224)), some (.int (nI n)), some (.int (nI (n))), none] []) : ∀ j i : Nat, i + j = n → J p l e (RM 6) s m args below meth c 4 g 0 0 Q (rPass nl ns V i) L 47 [some (.ref (ad g 224)), some (.int (nI n)), some (.int (nI i)), none] [] := by
  intro j
  induction j with
  | zero =>
    intro i hi
    have hi : n = i := by omega
    subst hi
    refine j_iload_n C dX7_pass_47 rfl rfl ?_
    refine j_iload_n C dX7_pass_48 rfl rfl ?_
    refine j_icmp_ge (tgt := 81) C dX7_pass_49 (by decide) (fun h49 => ?_) (fun h49 => absurd (nI_le (by omega) (by omega)) h49)
    exact kx
  | succ j ih =>
    intro i hi
    refine j_iload_n C dX7_pass_47 rfl rfl ?_
    refine j_iload_n C dX7_pass_48 rfl rfl ?_
    refine j_icmp_ge (tgt := 81) C dX7_pass_49 (by decide) (fun h49 => absurd h49 (nI_ge (by omega) (by omega))) (fun h49 => ?_)
    refine j_iconst (v := (nI 0)) C dX7_pass_52 (by decide) ?_
    refine j_ist3 C dX7_pass_53 rfl (Nat.le_of_ble_eq_true rfl) rfl ?_
    refine lp_X7_passI C (hR.pass i) ?_ nl 0 (by omega)
    refine j_incN2 (q := 1) C dX7_pass_75 (by decide) (Nat.le_of_ble_eq_true rfl) rfl ?_
    refine j_goto (tgt := 47) C dX7_pass_78 (by decide) ?_
    refine j_mem (V' := (rPass nl ns V (i + 1))) (L' := L) (by rfl) rfl ?_
    exact j_dr (lv' := [some (.ref (ad g 224)), some (.int (nI n)), some (.int (nI (i + 1))), none]) (And.intro rfl (And.intro rfl (And.intro rfl True.intro))) (ih (i + 1) (by omega))
set_option maxHeartbeats 4000000 in
theorem c_X7_pass_1 {l : Launch} {g : GC} {V : Mem} {L : LMem} {x : Int32} (hbad : ¬ (nI 1 ≤ x ∧ x ≤ nI 60)) : MC l yX7_pass cX7_pass 4 (some .int) 6 g V L [.ref (ad g 224), .int x] (some (.int 0)) (thr 1 (thr 0 V)) L := by
  refine MC.of [some (.ref (ad g 224)), some (.int x), none, none] (by decide +kernel) rfl (Nat.le_of_ble_eq_true rfl) (fun p e s m args below meth c C => ?_)
  refine j_aload_n C dX7_pass_0 rfl rfl ?_
  refine j_iconst (v := (nI 0)) C dX7_pass_1 (by decide) ?_
  refine jp_LeaseBookModel_thrown C (by first | assumption | rfl | exact kd_sums (by assumption) | exact kd_st1 (by assumption) | exact kd_st2 (by assumption) | exact kd_ls (by first | assumption | rfl) (by assumption) | exact kd_sb (by first | assumption | rfl) (by assumption) | exact kd_sv (by assumption)) qf_X7_25 dX7_pass_2 ?_
  refine j_iload_n C dX7_pass_5 rfl rfl ?_
  refine j_iconst (v := (nI 1)) C dX7_pass_6 (by decide) ?_
  refine j_bipush (v := (nI 60)) C dX7_pass_7 (by decide) ?_
  refine j_callS3r C (c_X7_in) qm_X7_42 qt_X7_in qn_X7 qc_X7_in fit_X7_in ⟨Nat.le_of_ble_eq_true rfl, Nat.le_of_ble_eq_true rfl, Nat.le_of_ble_eq_true rfl, Nat.le_of_ble_eq_true rfl⟩ (Nat.le_of_ble_eq_true rfl) dX7_pass_9 ?_
  refine j_if_ne (tgt := 21) C dX7_pass_12 (by decide) (fun h12 => ?_) (fun h12 => ?_)
  · replace h12 := b2i_1 h12
    exfalso
    first | contradiction | exact absurd ⟨by assumption, by assumption⟩ hbad | exact absurd (by assumption) hbad
  · replace h12 := b2i_0 h12
    refine j_aload_n C dX7_pass_15 rfl rfl ?_
    refine j_iconst (v := (nI 1)) C dX7_pass_16 (by decide) ?_
    refine j_callV1r C (oa_X7 (by first | assumption | rfl | exact kd_sums (by assumption) | exact kd_st1 (by assumption) | exact kd_st2 (by assumption) | exact kd_ls (by first | assumption | rfl) (by assumption) | exact kd_sb (by first | assumption | rfl) (by assumption) | exact kd_sv (by assumption))) rfl rfl (c_X7_fails) qm_X7_67 qi_X7_fails qs_X7_fails qn_X7 qc_X7_fails fit_X7_fails ⟨Nat.le_of_ble_eq_true rfl, Nat.le_of_ble_eq_true rfl, Nat.le_of_ble_eq_true rfl, Nat.le_of_ble_eq_true rfl⟩ (Nat.le_of_ble_eq_true rfl) dX7_pass_17 ?_
    exact j_iret C dX7_pass_20 (by first | rfl | (simp [b2i, *]; done)) (by rfl) (by rfl)
set_option maxHeartbeats 4000000 in
theorem c_X7_pass_2 {l : Launch} {g : GC} {V : Mem} {L : LMem} {x : Int32} (h1 : nI 1 ≤ x ∧ x ≤ nI 60) (hbad : ¬ thr 0 V 225 2 + x ≤ nI 2000) : MC l yX7_pass cX7_pass 4 (some .int) 6 g V L [.ref (ad g 224), .int x] (some (.int 0)) (thr 2 (thr 0 V)) L := by
  refine MC.of [some (.ref (ad g 224)), some (.int x), none, none] (by decide +kernel) rfl (Nat.le_of_ble_eq_true rfl) (fun p e s m args below meth c C => ?_)
  refine j_aload_n C dX7_pass_0 rfl rfl ?_
  refine j_iconst (v := (nI 0)) C dX7_pass_1 (by decide) ?_
  refine jp_LeaseBookModel_thrown C (by first | assumption | rfl | exact kd_sums (by assumption) | exact kd_st1 (by assumption) | exact kd_st2 (by assumption) | exact kd_ls (by first | assumption | rfl) (by assumption) | exact kd_sb (by first | assumption | rfl) (by assumption) | exact kd_sv (by assumption)) qf_X7_25 dX7_pass_2 ?_
  refine j_iload_n C dX7_pass_5 rfl rfl ?_
  refine j_iconst (v := (nI 1)) C dX7_pass_6 (by decide) ?_
  refine j_bipush (v := (nI 60)) C dX7_pass_7 (by decide) ?_
  refine j_callS3r C (c_X7_in) qm_X7_42 qt_X7_in qn_X7 qc_X7_in fit_X7_in ⟨Nat.le_of_ble_eq_true rfl, Nat.le_of_ble_eq_true rfl, Nat.le_of_ble_eq_true rfl, Nat.le_of_ble_eq_true rfl⟩ (Nat.le_of_ble_eq_true rfl) dX7_pass_9 ?_
  refine j_if_ne (tgt := 21) C dX7_pass_12 (by decide) (fun h12 => ?_) (fun h12 => ?_)
  · replace h12 := b2i_1 h12
    refine j_aload_n C dX7_pass_21 rfl rfl ?_
    refine jg_LeaseBookModel_z C (by first | assumption | rfl | exact kd_sums (by assumption) | exact kd_st1 (by assumption) | exact kd_st2 (by assumption) | exact kd_ls (by first | assumption | rfl) (by assumption) | exact kd_sb (by first | assumption | rfl) (by assumption) | exact kd_sv (by assumption)) qf_X7_7 dX7_pass_22 ?_
    refine j_iconst (v := (nI 2)) C dX7_pass_25 (by decide) ?_
    refine j_ialdN C (by first | assumption | rfl | exact kd_sums (by assumption) | exact kd_st1 (by assumption) | exact kd_st2 (by assumption) | exact kd_ls (by first | assumption | rfl) (by assumption) | exact kd_sb (by first | assumption | rfl) (by assumption) | exact kd_sv (by assumption)) rfl rfl (by omega) dX7_pass_26 ?_
    refine j_iload_n C dX7_pass_27 rfl rfl ?_
    refine j_iadd C dX7_pass_28 ?_
    refine j_sipush (v := (nI 2000)) C dX7_pass_29 (by decide) ?_
    refine j_icmp_le (tgt := 41) C dX7_pass_32 (by decide) (fun h32 => ?_) (fun h32 => ?_)
    · exfalso
      first | contradiction | exact absurd ⟨by assumption, by assumption⟩ hbad | exact absurd (by assumption) hbad
    · refine j_aload_n C dX7_pass_35 rfl rfl ?_
      refine j_iconst (v := (nI 2)) C dX7_pass_36 (by decide) ?_
      refine j_callV1r C (oa_X7 (by first | assumption | rfl | exact kd_sums (by assumption) | exact kd_st1 (by assumption) | exact kd_st2 (by assumption) | exact kd_ls (by first | assumption | rfl) (by assumption) | exact kd_sb (by first | assumption | rfl) (by assumption) | exact kd_sv (by assumption))) rfl rfl (c_X7_fails) qm_X7_67 qi_X7_fails qs_X7_fails qn_X7 qc_X7_fails fit_X7_fails ⟨Nat.le_of_ble_eq_true rfl, Nat.le_of_ble_eq_true rfl, Nat.le_of_ble_eq_true rfl, Nat.le_of_ble_eq_true rfl⟩ (Nat.le_of_ble_eq_true rfl) dX7_pass_37 ?_
      exact j_iret C dX7_pass_40 (by first | rfl | (simp [b2i, *]; done)) (by rfl) (by rfl)
  · replace h12 := b2i_0 h12
    exfalso
    first | contradiction | exact absurd ⟨by assumption, by assumption⟩ hbad | exact absurd (by assumption) hbad
set_option maxHeartbeats 4000000 in
theorem c_X7_pass_ok {l : Launch} {g : GC} {V : Mem} {L : LMem} {n nl ns sv : Nat} (hR : RR nl ns V) (hn : 1 ≤ n ∧ n ≤ 60) (h2 : thr 0 V 225 2 + nI n ≤ nI 2000) (hsv : V 224 3 = nI sv) (hs6 : sv ≤ 6) : MC l yX7_pass cX7_pass 4 (some .int) 6 g V L [.ref (ad g 224), .int (nI n)] (some (.int (rPass nl ns (rSave sv (thr 0 V)) n 225 2 + nI n))) (mset (rPass nl ns (rSave sv (thr 0 V)) n) 225 2 (rPass nl ns (rSave sv (thr 0 V)) n 225 2 + nI n)) L := by
  refine MC.of [some (.ref (ad g 224)), some (.int (nI n)), none, none] (by decide +kernel) rfl (Nat.le_of_ble_eq_true rfl) (fun p e s m args below meth c C => ?_)
  have hV0 : RR nl ns (mset V 224 6 (nI 0)) := hR.put (Or.inl (by decide))
  have hS : RR nl ns (rSave sv (mset V 224 6 (nI 0))) := hV0.row (rSave_row (by decide) (by decide))
  refine j_aload_n C dX7_pass_0 rfl rfl ?_
  refine j_iconst (v := (nI 0)) C dX7_pass_1 (by decide) ?_
  refine jp_LeaseBookModel_thrown C (by first | assumption | rfl | exact kd_sums (by assumption) | exact kd_st1 (by assumption) | exact kd_st2 (by assumption) | exact kd_ls (by first | assumption | rfl) (by assumption) | exact kd_sb (by first | assumption | rfl) (by assumption) | exact kd_sv (by assumption)) qf_X7_25 dX7_pass_2 ?_
  refine j_iload_n C dX7_pass_5 rfl rfl ?_
  refine j_iconst (v := (nI 1)) C dX7_pass_6 (by decide) ?_
  refine j_bipush (v := (nI 60)) C dX7_pass_7 (by decide) ?_
  refine j_callS3r C (c_X7_in) qm_X7_42 qt_X7_in qn_X7 qc_X7_in fit_X7_in ⟨Nat.le_of_ble_eq_true rfl, Nat.le_of_ble_eq_true rfl, Nat.le_of_ble_eq_true rfl, Nat.le_of_ble_eq_true rfl⟩ (Nat.le_of_ble_eq_true rfl) dX7_pass_9 ?_
  refine j_if_ne (tgt := 21) C dX7_pass_12 (by decide) (fun h12 => ?_) (fun h12 => ?_)
  · replace h12 := b2i_1 h12
    refine j_aload_n C dX7_pass_21 rfl rfl ?_
    refine jg_LeaseBookModel_z C (by first | assumption | rfl | exact kd_sums (by assumption) | exact kd_st1 (by assumption) | exact kd_st2 (by assumption) | exact kd_ls (by first | assumption | rfl) (by assumption) | exact kd_sb (by first | assumption | rfl) (by assumption) | exact kd_sv (by assumption)) qf_X7_7 dX7_pass_22 ?_
    refine j_iconst (v := (nI 2)) C dX7_pass_25 (by decide) ?_
    refine j_ialdN C (by first | assumption | rfl | exact kd_sums (by assumption) | exact kd_st1 (by assumption) | exact kd_st2 (by assumption) | exact kd_ls (by first | assumption | rfl) (by assumption) | exact kd_sb (by first | assumption | rfl) (by assumption) | exact kd_sv (by assumption)) rfl rfl (by omega) dX7_pass_26 ?_
    refine j_iload_n C dX7_pass_27 rfl rfl ?_
    refine j_iadd C dX7_pass_28 ?_
    refine j_sipush (v := (nI 2000)) C dX7_pass_29 (by decide) ?_
    refine j_icmp_le (tgt := 41) C dX7_pass_32 (by decide) (fun h32 => ?_) (fun h32 => ?_)
    · refine j_aload_n C dX7_pass_41 rfl rfl ?_
      refine j_callV0v C (oa_X7 (by first | assumption | rfl | exact kd_sums (by assumption) | exact kd_st1 (by assumption) | exact kd_st2 (by assumption) | exact kd_ls (by first | assumption | rfl) (by assumption) | exact kd_sb (by first | assumption | rfl) (by assumption) | exact kd_sv (by assumption))) rfl rfl (c_X7_save (sv := sv) (by rw [mset_ne (by omega)]; exact hsv) hs6) qm_X7_70 qi_X7_save qs_X7_save qn_X7 qc_X7_save fit_X7_save ⟨Nat.le_of_ble_eq_true rfl, Nat.le_of_ble_eq_true rfl, Nat.le_of_ble_eq_true rfl, Nat.le_of_ble_eq_true rfl⟩ (Nat.le_of_ble_eq_true rfl) dX7_pass_42 ?_
      refine j_iconst (v := (nI 0)) C dX7_pass_45 (by decide) ?_
      refine j_ist2 C dX7_pass_46 rfl (Nat.le_of_ble_eq_true rfl) rfl ?_
      refine lp_X7_pass C hn.2 hS ?_ n 0 (by omega)
      refine j_aload_n C dX7_pass_81 rfl rfl ?_
      refine jg_LeaseBookModel_z C (by first | assumption | rfl | exact kd_sums (by assumption) | exact kd_st1 (by assumption) | exact kd_st2 (by assumption) | exact kd_ls (by first | assumption | rfl) (by assumption) | exact kd_sb (by first | assumption | rfl) (by assumption) | exact kd_sv (by assumption)) qf_X7_7 dX7_pass_82 ?_
      refine j_iconst (v := (nI 2)) C dX7_pass_85 (by decide) ?_
      refine j_dup2 C dX7_pass_86 rfl rfl ?_
      refine j_ialdN C (by first | assumption | rfl | exact kd_sums (by assumption) | exact kd_st1 (by assumption) | exact kd_st2 (by assumption) | exact kd_ls (by first | assumption | rfl) (by assumption) | exact kd_sb (by first | assumption | rfl) (by assumption) | exact kd_sv (by assumption)) rfl rfl (by omega) dX7_pass_87 ?_
      refine j_iload_n C dX7_pass_88 rfl rfl ?_
      refine j_iadd C dX7_pass_89 ?_
      refine j_iastN C (by first | assumption | rfl | exact kd_sums (by assumption) | exact kd_st1 (by assumption) | exact kd_st2 (by assumption) | exact kd_ls (by first | assumption | rfl) (by assumption) | exact kd_sb (by first | assumption | rfl) (by assumption) | exact kd_sv (by assumption)) rfl rfl (by omega) dX7_pass_90 ?_
      refine j_aload_n C dX7_pass_91 rfl rfl ?_
      refine jg_LeaseBookModel_z C (by first | assumption | rfl | exact kd_sums (by assumption) | exact kd_st1 (by assumption) | exact kd_st2 (by assumption) | exact kd_ls (by first | assumption | rfl) (by assumption) | exact kd_sb (by first | assumption | rfl) (by assumption) | exact kd_sv (by assumption)) qf_X7_7 dX7_pass_92 ?_
      refine j_iconst (v := (nI 2)) C dX7_pass_95 (by decide) ?_
      refine j_ialdN C (by first | assumption | rfl | exact kd_sums (by assumption) | exact kd_st1 (by assumption) | exact kd_st2 (by assumption) | exact kd_ls (by first | assumption | rfl) (by assumption) | exact kd_sb (by first | assumption | rfl) (by assumption) | exact kd_sv (by assumption)) rfl rfl (by omega) dX7_pass_96 ?_
      exact j_iret C dX7_pass_97 (by rw [mset_at]) (by rfl) (by rfl)
    · exfalso
      first | contradiction | exact absurd (show nI 1 ≤ nI n ∧ nI n ≤ nI 60 from inN hn.1 hn.2 (by omega)) (by assumption) | exact absurd h2 (by first | assumption | exact Int32.not_le.mpr (by assumption))
  · replace h12 := b2i_0 h12
    exfalso
    first | contradiction | exact absurd (show nI 1 ≤ nI n ∧ nI n ≤ nI 60 from inN hn.1 hn.2 (by omega)) (by assumption) | exact absurd h2 (by first | assumption | exact Int32.not_le.mpr (by assumption))
set_option maxHeartbeats 4000000 in
theorem c_X7_undo_1 {l : Launch} {g : GC} {V : Mem} {L : LMem} (hz : V 224 3 = nI 0) : MC l yX7_undo cX7_undo 2 (some .int) 6 g V L [.ref (ad g 224)] (some (.int 0)) (thr 1 (thr 0 V)) L := by
  refine MC.of [some (.ref (ad g 224)), none] (by decide +kernel) rfl (Nat.le_of_ble_eq_true rfl) (fun p e s m args below meth c C => ?_)
  refine j_aload_n C dX7_undo_0 rfl rfl ?_
  refine j_iconst (v := (nI 0)) C dX7_undo_1 (by decide) ?_
  refine jp_LeaseBookModel_thrown C (by first | assumption | rfl | exact kd_sums (by assumption) | exact kd_st1 (by assumption) | exact kd_st2 (by assumption) | exact kd_ls (by first | assumption | rfl) (by assumption) | exact kd_sb (by first | assumption | rfl) (by assumption) | exact kd_sv (by assumption)) qf_X7_25 dX7_undo_2 ?_
  refine j_aload_n C dX7_undo_5 rfl rfl ?_
  refine jg_LeaseBookModel_savedMany C (by first | assumption | rfl | exact kd_sums (by assumption) | exact kd_st1 (by assumption) | exact kd_st2 (by assumption) | exact kd_ls (by first | assumption | rfl) (by assumption) | exact kd_sb (by first | assumption | rfl) (by assumption) | exact kd_sv (by assumption)) qf_X7_29 dX7_undo_6 ?_
  refine j_if_ne (tgt := 18) C dX7_undo_9 (by decide) (fun h9 => ?_) (fun h9 => ?_)
  · exact absurd hz (by assumption)
  · refine j_aload_n C dX7_undo_12 rfl rfl ?_
    refine j_iconst (v := (nI 1)) C dX7_undo_13 (by decide) ?_
    refine j_callV1r C (oa_X7 (by first | assumption | rfl | exact kd_sums (by assumption) | exact kd_st1 (by assumption) | exact kd_st2 (by assumption) | exact kd_ls (by first | assumption | rfl) (by assumption) | exact kd_sb (by first | assumption | rfl) (by assumption) | exact kd_sv (by assumption))) rfl rfl (c_X7_fails) qm_X7_67 qi_X7_fails qs_X7_fails qn_X7 qc_X7_fails fit_X7_fails ⟨Nat.le_of_ble_eq_true rfl, Nat.le_of_ble_eq_true rfl, Nat.le_of_ble_eq_true rfl, Nat.le_of_ble_eq_true rfl⟩ (Nat.le_of_ble_eq_true rfl) dX7_undo_14 ?_
    exact j_iret C dX7_undo_17 (by first | rfl | (simp [b2i, *]; done)) (by rfl) (by rfl)
set_option maxHeartbeats 4000000 in
theorem lp_X7_undo {p : Program} {l : Launch} {e : Env} {s : State} {m : MethodId} {args : Array Value} {below : List Frame} {meth : Method} {c : Code} {g : GC} {Q : State → Prop} {V : Mem} {L : LMem} {sv : Nat} (C : Cx p s args m meth c cX7_undo 2 yX7_undo.cls (some .int) g) (hsv : V 224 3 = nI sv) (hs6 : sv < 6) (kx : J p l e (RM 6) s m args below meth c 2 g 0 0 Q (rRes V sv (251)) L 64 [some (.ref (ad g 224)), some (.int (nI (251)))] []) : ∀ j i : Nat, i + j = 251 → J p l e (RM 6) s m args below meth c 2 g 0 0 Q (rRes V sv i) L 30 [some (.ref (ad g 224)), some (.int (nI i))] [] := by
  intro j
  induction j with
  | zero =>
    intro i hi
    have hi : 251 = i := by omega
    subst hi
    refine j_iload_n C dX7_undo_30 rfl rfl ?_
    refine j_sipush (v := (nI 251)) C dX7_undo_31 (by decide) ?_
    refine j_icmp_ge (tgt := 64) C dX7_undo_34 (by decide) (fun h34 => ?_) (fun h34 => absurd (nI_le (by omega) (by omega)) h34)
    exact kx
  | succ j ih =>
    intro i hi
    refine j_iload_n C dX7_undo_30 rfl rfl ?_
    refine j_sipush (v := (nI 251)) C dX7_undo_31 (by decide) ?_
    refine j_icmp_ge (tgt := 64) C dX7_undo_34 (by decide) (fun h34 => absurd h34 (nI_ge (by omega) (by omega))) (fun h34 => ?_)
    refine j_aload_n C dX7_undo_37 rfl rfl ?_
    refine jg_LeaseBookModel_z C (by first | assumption | rfl | exact kd_sums (by assumption) | exact kd_st1 (by assumption) | exact kd_st2 (by assumption) | exact kd_ls (by first | assumption | rfl) (by assumption) | exact kd_sb (by first | assumption | rfl) (by assumption) | exact kd_sv (by assumption)) qf_X7_7 dX7_undo_38 ?_
    refine j_iload_n C dX7_undo_41 rfl rfl ?_
    refine j_aload_n C dX7_undo_42 rfl rfl ?_
    refine jg_LeaseBookModel_rows C (by first | assumption | rfl | exact kd_sums (by assumption) | exact kd_st1 (by assumption) | exact kd_st2 (by assumption) | exact kd_ls (by first | assumption | rfl) (by assumption) | exact kd_sb (by first | assumption | rfl) (by assumption) | exact kd_sv (by assumption)) qf_X7_13 dX7_undo_43 ?_
    refine j_sipush (v := (nI 251)) C dX7_undo_46 (by decide) ?_
    refine j_aload_n C dX7_undo_49 rfl rfl ?_
    refine jg_LeaseBookModel_savedMany C (by first | assumption | rfl | exact kd_sums (by assumption) | exact kd_st1 (by assumption) | exact kd_st2 (by assumption) | exact kd_ls (by first | assumption | rfl) (by assumption) | exact kd_sb (by first | assumption | rfl) (by assumption) | exact kd_sv (by assumption)) qf_X7_29 dX7_undo_50 ?_
    refine j_tope (y := nI sv) (by exact (congrFun (rRes_ne (by decide)) _).trans hsv) ?_
    refine j_imulN C dX7_undo_53 ?_
    refine j_iload_n C dX7_undo_54 rfl rfl ?_
    refine j_iaddN C dX7_undo_55 ?_
    refine j_ialdN C (by first | assumption | rfl | exact kd_sums (by assumption) | exact kd_st1 (by assumption) | exact kd_st2 (by assumption) | exact kd_ls (by first | assumption | rfl) (by assumption) | exact kd_sb (by first | assumption | rfl) (by assumption) | exact kd_sv (by assumption)) rfl rfl (by omega) dX7_undo_56 ?_
    refine j_iastN C (by first | assumption | rfl | exact kd_sums (by assumption) | exact kd_st1 (by assumption) | exact kd_st2 (by assumption) | exact kd_ls (by first | assumption | rfl) (by assumption) | exact kd_sb (by first | assumption | rfl) (by assumption) | exact kd_sv (by assumption)) rfl rfl (by omega) dX7_undo_57 ?_
    refine j_incN1 (q := 1) C dX7_undo_58 (by decide) (Nat.le_of_ble_eq_true rfl) rfl ?_
    refine j_goto (tgt := 30) C dX7_undo_61 (by decide) ?_
    refine j_mem (V' := (rRes V sv (i + 1))) (L' := L) (by exact rRes_step.symm) rfl ?_
    exact j_dr (lv' := [some (.ref (ad g 224)), some (.int (nI (i + 1)))]) (And.intro rfl (And.intro rfl True.intro)) (ih (i + 1) (by omega))
set_option maxHeartbeats 4000000 in
theorem c_X7_undo_ok {l : Launch} {g : GC} {V : Mem} {L : LMem} {sv : Nat} (hz : V 224 3 = nI (sv + 1)) (hs6 : sv < 6) : MC l yX7_undo cX7_undo 2 (some .int) 6 g V L [.ref (ad g 224)] (some (.int (nI sv))) (rRes (mset (thr 0 V) 224 3 (nI sv)) sv 251) L := by
  refine MC.of [some (.ref (ad g 224)), none] (by decide +kernel) rfl (Nat.le_of_ble_eq_true rfl) (fun p e s m args below meth c C => ?_)
  refine j_aload_n C dX7_undo_0 rfl rfl ?_
  refine j_iconst (v := (nI 0)) C dX7_undo_1 (by decide) ?_
  refine jp_LeaseBookModel_thrown C (by first | assumption | rfl | exact kd_sums (by assumption) | exact kd_st1 (by assumption) | exact kd_st2 (by assumption) | exact kd_ls (by first | assumption | rfl) (by assumption) | exact kd_sb (by first | assumption | rfl) (by assumption) | exact kd_sv (by assumption)) qf_X7_25 dX7_undo_2 ?_
  refine j_aload_n C dX7_undo_5 rfl rfl ?_
  refine jg_LeaseBookModel_savedMany C (by first | assumption | rfl | exact kd_sums (by assumption) | exact kd_st1 (by assumption) | exact kd_st2 (by assumption) | exact kd_ls (by first | assumption | rfl) (by assumption) | exact kd_sb (by first | assumption | rfl) (by assumption) | exact kd_sv (by assumption)) qf_X7_29 dX7_undo_6 ?_
  refine j_if_ne (tgt := 18) C dX7_undo_9 (by decide) (fun h9 => ?_) (fun h9 => ?_)
  · refine j_aload_n C dX7_undo_18 rfl rfl ?_
    refine j_dup C dX7_undo_19 rfl ?_
    refine jg_LeaseBookModel_savedMany C (by first | assumption | rfl | exact kd_sums (by assumption) | exact kd_st1 (by assumption) | exact kd_st2 (by assumption) | exact kd_ls (by first | assumption | rfl) (by assumption) | exact kd_sb (by first | assumption | rfl) (by assumption) | exact kd_sv (by assumption)) qf_X7_29 dX7_undo_20 ?_
    refine j_iconst (v := (nI 1)) C dX7_undo_23 (by decide) ?_
    refine j_isub C dX7_undo_24 ?_
    refine j_tope (y := nI sv) (by exact (congrArg (· - nI 1) hz).trans (by rw [pk_sub (by omega)]; rfl)) ?_
    refine jp_LeaseBookModel_savedMany C (by first | assumption | rfl | exact kd_sums (by assumption) | exact kd_st1 (by assumption) | exact kd_st2 (by assumption) | exact kd_ls (by first | assumption | rfl) (by assumption) | exact kd_sb (by first | assumption | rfl) (by assumption) | exact kd_sv (by assumption)) qf_X7_29 dX7_undo_25 ?_
    refine j_iconst (v := (nI 0)) C dX7_undo_28 (by decide) ?_
    refine j_ist1 C dX7_undo_29 rfl (Nat.le_of_ble_eq_true rfl) rfl ?_
    refine j_mem (V' := rRes (mset (thr 0 V) 224 3 (nI sv)) sv 0) (L' := L) rcpy_0 rfl ?_
    refine lp_X7_undo (V := (mset (thr 0 V) 224 3 (nI sv))) C (by rw [mset_at]) hs6 ?_ 251 0 (by omega)
    refine j_aload_n C dX7_undo_64 rfl rfl ?_
    refine jg_LeaseBookModel_savedMany C (by first | assumption | rfl | exact kd_sums (by assumption) | exact kd_st1 (by assumption) | exact kd_st2 (by assumption) | exact kd_ls (by first | assumption | rfl) (by assumption) | exact kd_sb (by first | assumption | rfl) (by assumption) | exact kd_sv (by assumption)) qf_X7_29 dX7_undo_65 ?_
    refine j_tope (y := nI sv) (by exact (congrFun (rRes_ne (by decide)) _).trans (by rw [mset_at])) ?_
    exact j_iret C dX7_undo_68 (by first | rfl | (simp [b2i, *]; done)) (by rfl) (by rfl)
  · exfalso
    exact absurd (hz.symm.trans (show V 224 3 = nI 0 by assumption)) (fun q => absurd ((nI_eq (by omega) (by omega)).mp q) (by omega))
set_option maxHeartbeats 4000000 in
theorem c_X7_openAll_1 {l : Launch} {g : GC} {V : Mem} {L : LMem} {bm : Nat} (hb : V 224 5 = nI bm) (hbm : bm ≤ 60) (hbad : ¬ ((pAll (V 228) bm (V 229)).1 = true ∧ (pAll (V 228) bm (V 229)).2.1 = bm)) : MC l yX7_openAll cX7_openAll 2 (some .int) 6 g V L [.ref (ad g 224)] (some (.int 0)) (thr 1 (pS (thr 0 V) (pAll (V 228) bm (V 229)).2.1 (pAll (V 228) bm (V 229)).2.2.1 (pAll (V 228) bm (V 229)).2.2.2)) L := by
  refine MC.of [some (.ref (ad g 224)), none] (by decide +kernel) rfl (Nat.le_of_ble_eq_true rfl) (fun p e s m args below meth c C => ?_)
  refine j_aload_n C dX7_openAll_0 rfl rfl ?_
  refine j_iconst (v := (nI 0)) C dX7_openAll_1 (by decide) ?_
  refine jp_LeaseBookModel_thrown C (by first | assumption | rfl | exact kd_sums (by assumption) | exact kd_st1 (by assumption) | exact kd_st2 (by assumption) | exact kd_ls (by first | assumption | rfl) (by assumption) | exact kd_sb (by first | assumption | rfl) (by assumption) | exact kd_sv (by assumption)) qf_X7_25 dX7_openAll_2 ?_
  refine j_aload_n C dX7_openAll_5 rfl rfl ?_
  refine j_callV0r C (oa_X7 (by first | assumption | rfl | exact kd_sums (by assumption) | exact kd_st1 (by assumption) | exact kd_st2 (by assumption) | exact kd_ls (by first | assumption | rfl) (by assumption) | exact kd_sb (by first | assumption | rfl) (by assumption) | exact kd_sv (by assumption))) rfl rfl (c_X7_areLeases (V := mset V 224 6 (nI 0)) ((mset_ne (by omega)).trans hb) hbm) qm_X7_137 qi_X7_areLeases qs_X7_areLeases qn_X7 qc_X7_areLeases fit_X7_areLeases ⟨Nat.le_of_ble_eq_true rfl, Nat.le_of_ble_eq_true rfl, Nat.le_of_ble_eq_true rfl, Nat.le_of_ble_eq_true rfl⟩ (Nat.le_of_ble_eq_true rfl) dX7_openAll_6 ?_
  refine j_if_ne (tgt := 18) C dX7_openAll_9 (by decide) (fun h9 => ?_) (fun h9 => ?_)
  · replace h9 := b2i_1 h9
    exfalso
    first | contradiction | exact absurd ⟨by assumption, by assumption⟩ hbad | exact absurd (by assumption) hbad
  · replace h9 := b2i_0 h9
    refine j_aload_n C dX7_openAll_12 rfl rfl ?_
    refine j_iconst (v := (nI 1)) C dX7_openAll_13 (by decide) ?_
    refine j_callV1r C (oa_X7 (by first | assumption | rfl | exact kd_sums (by assumption) | exact kd_st1 (by assumption) | exact kd_st2 (by assumption) | exact kd_ls (by first | assumption | rfl) (by assumption) | exact kd_sb (by first | assumption | rfl) (by assumption) | exact kd_sv (by assumption))) rfl rfl (c_X7_fails) qm_X7_67 qi_X7_fails qs_X7_fails qn_X7 qc_X7_fails fit_X7_fails ⟨Nat.le_of_ble_eq_true rfl, Nat.le_of_ble_eq_true rfl, Nat.le_of_ble_eq_true rfl, Nat.le_of_ble_eq_true rfl⟩ (Nat.le_of_ble_eq_true rfl) dX7_openAll_14 ?_
    exact j_iret C dX7_openAll_17 (by first | rfl | (simp [b2i, *]; done)) (by rfl) (by rfl)
set_option maxHeartbeats 4000000 in
theorem c_X7_openAll_2 {l : Launch} {g : GC} {V : Mem} {L : LMem} {bm : Nat} (hb : V 224 5 = nI bm) (hbm : bm ≤ 60) {nl ns : Nat} (hR : RR nl ns V) (h1 : (pAll (V 228) bm (V 229)).1 = true ∧ (pAll (V 228) bm (V 229)).2.1 = bm) (h2 : (pAll (V 228) bm (V 229)).2.2.1 ≤ 60) (hbad : 8 < nl + (pAll (V 228) bm (V 229)).2.2.1) : MC l yX7_openAll cX7_openAll 2 (some .int) 6 g V L [.ref (ad g 224)] (some (.int 0)) (thr 2 (pS (thr 0 V) (pAll (V 228) bm (V 229)).2.1 (pAll (V 228) bm (V 229)).2.2.1 (pAll (V 228) bm (V 229)).2.2.2)) L := by
  refine MC.of [some (.ref (ad g 224)), none] (by decide +kernel) rfl (Nat.le_of_ble_eq_true rfl) (fun p e s m args below meth c C => ?_)
  refine j_aload_n C dX7_openAll_0 rfl rfl ?_
  refine j_iconst (v := (nI 0)) C dX7_openAll_1 (by decide) ?_
  refine jp_LeaseBookModel_thrown C (by first | assumption | rfl | exact kd_sums (by assumption) | exact kd_st1 (by assumption) | exact kd_st2 (by assumption) | exact kd_ls (by first | assumption | rfl) (by assumption) | exact kd_sb (by first | assumption | rfl) (by assumption) | exact kd_sv (by assumption)) qf_X7_25 dX7_openAll_2 ?_
  refine j_aload_n C dX7_openAll_5 rfl rfl ?_
  refine j_callV0r C (oa_X7 (by first | assumption | rfl | exact kd_sums (by assumption) | exact kd_st1 (by assumption) | exact kd_st2 (by assumption) | exact kd_ls (by first | assumption | rfl) (by assumption) | exact kd_sb (by first | assumption | rfl) (by assumption) | exact kd_sv (by assumption))) rfl rfl (c_X7_areLeases (V := mset V 224 6 (nI 0)) ((mset_ne (by omega)).trans hb) hbm) qm_X7_137 qi_X7_areLeases qs_X7_areLeases qn_X7 qc_X7_areLeases fit_X7_areLeases ⟨Nat.le_of_ble_eq_true rfl, Nat.le_of_ble_eq_true rfl, Nat.le_of_ble_eq_true rfl, Nat.le_of_ble_eq_true rfl⟩ (Nat.le_of_ble_eq_true rfl) dX7_openAll_6 ?_
  refine j_if_ne (tgt := 18) C dX7_openAll_9 (by decide) (fun h9 => ?_) (fun h9 => ?_)
  · replace h9 := b2i_1 h9
    refine j_aload_n C dX7_openAll_18 rfl rfl ?_
    refine jg_LeaseBookModel_z C (by first | assumption | rfl | exact kd_sums (by assumption) | exact kd_st1 (by assumption) | exact kd_st2 (by assumption) | exact kd_ls (by first | assumption | rfl) (by assumption) | exact kd_sb (by first | assumption | rfl) (by assumption) | exact kd_sv (by assumption)) qf_X7_7 dX7_openAll_19 ?_
    refine j_iconst (v := (nI 0)) C dX7_openAll_22 (by decide) ?_
    refine j_ialdN C (by first | assumption | rfl | exact kd_sums (by assumption) | exact kd_st1 (by assumption) | exact kd_st2 (by assumption) | exact kd_ls (by first | assumption | rfl) (by assumption) | exact kd_sb (by first | assumption | rfl) (by assumption) | exact kd_sv (by assumption)) rfl rfl (by omega) dX7_openAll_23 ?_
    refine j_tope (y := nI nl) (by exact (pS_o (by decide) (by decide)).trans ((mset_ne (by omega)).trans hR.2.2.1)) ?_
    refine j_aload_n C dX7_openAll_24 rfl rfl ?_
    refine jg_LeaseBookModel_many C (by first | assumption | rfl | exact kd_sums (by assumption) | exact kd_st1 (by assumption) | exact kd_st2 (by assumption) | exact kd_ls (by first | assumption | rfl) (by assumption) | exact kd_sb (by first | assumption | rfl) (by assumption) | exact kd_sv (by assumption)) qf_X7_124 dX7_openAll_25 ?_
    refine j_tope (y := nI (pAll (V 228) bm (V 229)).2.2.1) (by exact pS_8) ?_
    refine j_iaddN C dX7_openAll_28 ?_
    refine j_bipush (v := (nI 8)) C dX7_openAll_29 (by decide) ?_
    refine j_icmp_le (tgt := 40) C dX7_openAll_31 (by decide) (fun h31 => ?_) (fun h31 => ?_)
    · exfalso
      have h8 := hR.1
      have z := i_ge (by omega) (by omega) h31
      omega
    · refine j_aload_n C dX7_openAll_34 rfl rfl ?_
      refine j_iconst (v := (nI 2)) C dX7_openAll_35 (by decide) ?_
      refine j_callV1r C (oa_X7 (by first | assumption | rfl | exact kd_sums (by assumption) | exact kd_st1 (by assumption) | exact kd_st2 (by assumption) | exact kd_ls (by first | assumption | rfl) (by assumption) | exact kd_sb (by first | assumption | rfl) (by assumption) | exact kd_sv (by assumption))) rfl rfl (c_X7_fails) qm_X7_67 qi_X7_fails qs_X7_fails qn_X7 qc_X7_fails fit_X7_fails ⟨Nat.le_of_ble_eq_true rfl, Nat.le_of_ble_eq_true rfl, Nat.le_of_ble_eq_true rfl, Nat.le_of_ble_eq_true rfl⟩ (Nat.le_of_ble_eq_true rfl) dX7_openAll_36 ?_
      exact j_iret C dX7_openAll_39 (by first | rfl | (simp [b2i, *]; done)) (by rfl) (by rfl)
  · replace h9 := b2i_0 h9
    exfalso
    first | contradiction | exact absurd ⟨by assumption, by assumption⟩ hbad | exact absurd (by assumption) hbad
set_option maxHeartbeats 4000000 in
theorem lp_X7_openAll {p : Program} {l : Launch} {e : Env} {s : State} {m : MethodId} {args : Array Value} {below : List Frame} {meth : Method} {c : Code} {g : GC} {Q : State → Prop} {V : Mem} {L : LMem} {nl ns q : Nat} (C : Cx p s args m meth c cX7_openAll 2 yX7_openAll.cls (some .int) g) (hR : RR nl ns V) (hm : nl + q ≤ 8) (h8 : V 224 8 = nI q) (hT : ∀ j, j < q → rateR (V 229 (4 * j + 2))) (kx : J p l e (RM 6) s m args below meth c 2 g 0 0 Q (rOA (V 229) nl V (q)) L 102 [some (.ref (ad g 224)), some (.int (nI (q)))] []) : ∀ j i : Nat, i + j = q → J p l e (RM 6) s m args below meth c 2 g 0 0 Q (rOA (V 229) nl V i) L 46 [some (.ref (ad g 224)), some (.int (nI i))] [] := by
  intro j
  induction j with
  | zero =>
    intro i hi
    have hi : q = i := by omega
    subst hi
    refine j_iload_n C dX7_openAll_46 rfl rfl ?_
    refine j_aload_n C dX7_openAll_47 rfl rfl ?_
    refine jg_LeaseBookModel_many C (by first | assumption | rfl | exact kd_sums (by assumption) | exact kd_st1 (by assumption) | exact kd_st2 (by assumption) | exact kd_ls (by first | assumption | rfl) (by assumption) | exact kd_sb (by first | assumption | rfl) (by assumption) | exact kd_sv (by assumption)) qf_X7_124 dX7_openAll_48 ?_
    refine j_tope (y := nI q) (by rw [rOA_row (by decide)]; exact h8) ?_
    refine j_icmp_ge (tgt := 102) C dX7_openAll_51 (by decide) (fun h51 => ?_) (fun h51 => absurd (nI_le (by omega) (by omega)) h51)
    exact kx
  | succ j ih =>
    intro i hi
    refine j_iload_n C dX7_openAll_46 rfl rfl ?_
    refine j_aload_n C dX7_openAll_47 rfl rfl ?_
    refine jg_LeaseBookModel_many C (by first | assumption | rfl | exact kd_sums (by assumption) | exact kd_st1 (by assumption) | exact kd_st2 (by assumption) | exact kd_ls (by first | assumption | rfl) (by assumption) | exact kd_sb (by first | assumption | rfl) (by assumption) | exact kd_sv (by assumption)) qf_X7_124 dX7_openAll_48 ?_
    refine j_tope (y := nI q) (by rw [rOA_row (by decide)]; exact h8) ?_
    refine j_icmp_ge (tgt := 102) C dX7_openAll_51 (by decide) (fun h51 => absurd h51 (nI_ge (by omega) (by omega))) (fun h51 => ?_)
    refine j_aload_n C dX7_openAll_54 rfl rfl ?_
    refine j_aload_n C dX7_openAll_55 rfl rfl ?_
    refine jg_LeaseBookModel_told C (by first | assumption | rfl | exact kd_sums (by assumption) | exact kd_st1 (by assumption) | exact kd_st2 (by assumption) | exact kd_ls (by first | assumption | rfl) (by assumption) | exact kd_sb (by first | assumption | rfl) (by assumption) | exact kd_sv (by assumption)) qf_X7_22 dX7_openAll_56 ?_
    refine j_iconst (v := (nI 4)) C dX7_openAll_59 (by decide) ?_
    refine j_iload_n C dX7_openAll_60 rfl rfl ?_
    refine j_imulN C dX7_openAll_61 ?_
    refine j_ialdN C (by first | assumption | rfl | exact kd_sums (by assumption) | exact kd_st1 (by assumption) | exact kd_st2 (by assumption) | exact kd_ls (by first | assumption | rfl) (by assumption) | exact kd_sb (by first | assumption | rfl) (by assumption) | exact kd_sv (by assumption)) rfl rfl (by omega) dX7_openAll_62 ?_
    refine j_aload_n C dX7_openAll_63 rfl rfl ?_
    refine jg_LeaseBookModel_told C (by first | assumption | rfl | exact kd_sums (by assumption) | exact kd_st1 (by assumption) | exact kd_st2 (by assumption) | exact kd_ls (by first | assumption | rfl) (by assumption) | exact kd_sb (by first | assumption | rfl) (by assumption) | exact kd_sv (by assumption)) qf_X7_22 dX7_openAll_64 ?_
    refine j_iconst (v := (nI 4)) C dX7_openAll_67 (by decide) ?_
    refine j_iload_n C dX7_openAll_68 rfl rfl ?_
    refine j_imulN C dX7_openAll_69 ?_
    refine j_iconst (v := (nI 1)) C dX7_openAll_70 (by decide) ?_
    refine j_iaddN C dX7_openAll_71 ?_
    refine j_ialdN C (by first | assumption | rfl | exact kd_sums (by assumption) | exact kd_st1 (by assumption) | exact kd_st2 (by assumption) | exact kd_ls (by first | assumption | rfl) (by assumption) | exact kd_sb (by first | assumption | rfl) (by assumption) | exact kd_sv (by assumption)) rfl rfl (by omega) dX7_openAll_72 ?_
    refine j_aload_n C dX7_openAll_73 rfl rfl ?_
    refine jg_LeaseBookModel_told C (by first | assumption | rfl | exact kd_sums (by assumption) | exact kd_st1 (by assumption) | exact kd_st2 (by assumption) | exact kd_ls (by first | assumption | rfl) (by assumption) | exact kd_sb (by first | assumption | rfl) (by assumption) | exact kd_sv (by assumption)) qf_X7_22 dX7_openAll_74 ?_
    refine j_iconst (v := (nI 4)) C dX7_openAll_77 (by decide) ?_
    refine j_iload_n C dX7_openAll_78 rfl rfl ?_
    refine j_imulN C dX7_openAll_79 ?_
    refine j_iconst (v := (nI 2)) C dX7_openAll_80 (by decide) ?_
    refine j_iaddN C dX7_openAll_81 ?_
    refine j_ialdN C (by first | assumption | rfl | exact kd_sums (by assumption) | exact kd_st1 (by assumption) | exact kd_st2 (by assumption) | exact kd_ls (by first | assumption | rfl) (by assumption) | exact kd_sb (by first | assumption | rfl) (by assumption) | exact kd_sv (by assumption)) rfl rfl (by omega) dX7_openAll_82 ?_
    refine j_aload_n C dX7_openAll_83 rfl rfl ?_
    refine jg_LeaseBookModel_told C (by first | assumption | rfl | exact kd_sums (by assumption) | exact kd_st1 (by assumption) | exact kd_st2 (by assumption) | exact kd_ls (by first | assumption | rfl) (by assumption) | exact kd_sb (by first | assumption | rfl) (by assumption) | exact kd_sv (by assumption)) qf_X7_22 dX7_openAll_84 ?_
    refine j_iconst (v := (nI 4)) C dX7_openAll_87 (by decide) ?_
    refine j_iload_n C dX7_openAll_88 rfl rfl ?_
    refine j_imulN C dX7_openAll_89 ?_
    refine j_iconst (v := (nI 3)) C dX7_openAll_90 (by decide) ?_
    refine j_iaddN C dX7_openAll_91 ?_
    refine j_ialdN C (by first | assumption | rfl | exact kd_sums (by assumption) | exact kd_st1 (by assumption) | exact kd_st2 (by assumption) | exact kd_ls (by first | assumption | rfl) (by assumption) | exact kd_sb (by first | assumption | rfl) (by assumption) | exact kd_sv (by assumption)) rfl rfl (by omega) dX7_openAll_92 ?_
    refine j_callV4v C (oa_X7 (by first | assumption | rfl | exact kd_sums (by assumption) | exact kd_st1 (by assumption) | exact kd_st2 (by assumption) | exact kd_ls (by first | assumption | rfl) (by assumption) | exact kd_sb (by first | assumption | rfl) (by assumption) | exact kd_sv (by assumption))) rfl rfl (c_X7_openNow (hR.oa i (by omega) (fun j hj => hT j (by omega))).2.2.1 (by omega) (by rw [rOA_row (by decide)]; exact hT i (by omega))) qm_X7_73 qi_X7_openNow qs_X7_openNow qn_X7 qc_X7_openNow fit_X7_openNow ⟨Nat.le_of_ble_eq_true rfl, Nat.le_of_ble_eq_true rfl, Nat.le_of_ble_eq_true rfl, Nat.le_of_ble_eq_true rfl⟩ (Nat.le_of_ble_eq_true rfl) dX7_openAll_93 ?_
    refine j_incN1 (q := 1) C dX7_openAll_96 (by decide) (Nat.le_of_ble_eq_true rfl) rfl ?_
    refine j_goto (tgt := 46) C dX7_openAll_99 (by decide) ?_
    refine j_mem (V' := (rOA (V 229) nl V (i + 1))) (L' := L) (by exact (rOA_step rfl).symm) rfl ?_
    exact j_dr (lv' := [some (.ref (ad g 224)), some (.int (nI (i + 1)))]) (And.intro rfl (And.intro rfl True.intro)) (ih (i + 1) (by omega))
set_option maxHeartbeats 4000000 in
theorem c_X7_openAll_ok {l : Launch} {g : GC} {V : Mem} {L : LMem} {bm : Nat} (hb : V 224 5 = nI bm) (hbm : bm ≤ 60) {nl ns sv : Nat} (hR : RR nl ns V) (h1 : (pAll (V 228) bm (V 229)).1 = true ∧ (pAll (V 228) bm (V 229)).2.1 = bm) (hm : nl + (pAll (V 228) bm (V 229)).2.2.1 ≤ 8) (hT : ∀ j, j < (pAll (V 228) bm (V 229)).2.2.1 → rateR ((pAll (V 228) bm (V 229)).2.2.2 (4 * j + 2))) (hsv : V 224 3 = nI sv) (hs6 : sv ≤ 6) : MC l yX7_openAll cX7_openAll 2 (some .int) 6 g V L [.ref (ad g 224)] (some (.int (nI (nl + (pAll (V 228) bm (V 229)).2.2.1)))) (mset (rOA ((rSave sv (pS (thr 0 V) (pAll (V 228) bm (V 229)).2.1 (pAll (V 228) bm (V 229)).2.2.1 (pAll (V 228) bm (V 229)).2.2.2)) 229) nl (rSave sv (pS (thr 0 V) (pAll (V 228) bm (V 229)).2.1 (pAll (V 228) bm (V 229)).2.2.1 (pAll (V 228) bm (V 229)).2.2.2)) (pAll (V 228) bm (V 229)).2.2.1) 224 5 (nI 0)) L := by
  refine MC.of [some (.ref (ad g 224)), none] (by decide +kernel) rfl (Nat.le_of_ble_eq_true rfl) (fun p e s m args below meth c C => ?_)
  have hS : RR nl ns (rSave sv (pS (thr 0 V) (pAll (V 228) bm (V 229)).2.1 (pAll (V 228) bm (V 229)).2.2.1 (pAll (V 228) bm (V 229)).2.2.2)) := hR.row ((rSave_row (by decide) (by decide)).trans ((pS_row (by decide) (by decide)).trans (by funext b; exact mset_ne (by omega))))
  refine j_aload_n C dX7_openAll_0 rfl rfl ?_
  refine j_iconst (v := (nI 0)) C dX7_openAll_1 (by decide) ?_
  refine jp_LeaseBookModel_thrown C (by first | assumption | rfl | exact kd_sums (by assumption) | exact kd_st1 (by assumption) | exact kd_st2 (by assumption) | exact kd_ls (by first | assumption | rfl) (by assumption) | exact kd_sb (by first | assumption | rfl) (by assumption) | exact kd_sv (by assumption)) qf_X7_25 dX7_openAll_2 ?_
  refine j_aload_n C dX7_openAll_5 rfl rfl ?_
  refine j_callV0r C (oa_X7 (by first | assumption | rfl | exact kd_sums (by assumption) | exact kd_st1 (by assumption) | exact kd_st2 (by assumption) | exact kd_ls (by first | assumption | rfl) (by assumption) | exact kd_sb (by first | assumption | rfl) (by assumption) | exact kd_sv (by assumption))) rfl rfl (c_X7_areLeases (V := mset V 224 6 (nI 0)) ((mset_ne (by omega)).trans hb) hbm) qm_X7_137 qi_X7_areLeases qs_X7_areLeases qn_X7 qc_X7_areLeases fit_X7_areLeases ⟨Nat.le_of_ble_eq_true rfl, Nat.le_of_ble_eq_true rfl, Nat.le_of_ble_eq_true rfl, Nat.le_of_ble_eq_true rfl⟩ (Nat.le_of_ble_eq_true rfl) dX7_openAll_6 ?_
  refine j_if_ne (tgt := 18) C dX7_openAll_9 (by decide) (fun h9 => ?_) (fun h9 => ?_)
  · replace h9 := b2i_1 h9
    refine j_aload_n C dX7_openAll_18 rfl rfl ?_
    refine jg_LeaseBookModel_z C (by first | assumption | rfl | exact kd_sums (by assumption) | exact kd_st1 (by assumption) | exact kd_st2 (by assumption) | exact kd_ls (by first | assumption | rfl) (by assumption) | exact kd_sb (by first | assumption | rfl) (by assumption) | exact kd_sv (by assumption)) qf_X7_7 dX7_openAll_19 ?_
    refine j_iconst (v := (nI 0)) C dX7_openAll_22 (by decide) ?_
    refine j_ialdN C (by first | assumption | rfl | exact kd_sums (by assumption) | exact kd_st1 (by assumption) | exact kd_st2 (by assumption) | exact kd_ls (by first | assumption | rfl) (by assumption) | exact kd_sb (by first | assumption | rfl) (by assumption) | exact kd_sv (by assumption)) rfl rfl (by omega) dX7_openAll_23 ?_
    refine j_tope (y := nI nl) (by exact (pS_o (by decide) (by decide)).trans ((mset_ne (by omega)).trans hR.2.2.1)) ?_
    refine j_aload_n C dX7_openAll_24 rfl rfl ?_
    refine jg_LeaseBookModel_many C (by first | assumption | rfl | exact kd_sums (by assumption) | exact kd_st1 (by assumption) | exact kd_st2 (by assumption) | exact kd_ls (by first | assumption | rfl) (by assumption) | exact kd_sb (by first | assumption | rfl) (by assumption) | exact kd_sv (by assumption)) qf_X7_124 dX7_openAll_25 ?_
    refine j_tope (y := nI (pAll (V 228) bm (V 229)).2.2.1) (by exact pS_8) ?_
    refine j_iaddN C dX7_openAll_28 ?_
    refine j_bipush (v := (nI 8)) C dX7_openAll_29 (by decide) ?_
    refine j_icmp_le (tgt := 40) C dX7_openAll_31 (by decide) (fun h31 => ?_) (fun h31 => ?_)
    · refine j_aload_n C dX7_openAll_40 rfl rfl ?_
      refine j_callV0v C (oa_X7 (by first | assumption | rfl | exact kd_sums (by assumption) | exact kd_st1 (by assumption) | exact kd_st2 (by assumption) | exact kd_ls (by first | assumption | rfl) (by assumption) | exact kd_sb (by first | assumption | rfl) (by assumption) | exact kd_sv (by assumption))) rfl rfl (c_X7_save (sv := sv) ((pS_o (by decide) (by decide)).trans ((mset_ne (by omega)).trans hsv)) hs6) qm_X7_70 qi_X7_save qs_X7_save qn_X7 qc_X7_save fit_X7_save ⟨Nat.le_of_ble_eq_true rfl, Nat.le_of_ble_eq_true rfl, Nat.le_of_ble_eq_true rfl, Nat.le_of_ble_eq_true rfl⟩ (Nat.le_of_ble_eq_true rfl) dX7_openAll_41 ?_
      refine j_iconst (v := (nI 0)) C dX7_openAll_44 (by decide) ?_
      refine j_ist1 C dX7_openAll_45 rfl (Nat.le_of_ble_eq_true rfl) rfl ?_
      refine lp_X7_openAll C (q := (pAll (V 228) bm (V 229)).2.2.1) hS hm ((rSave_o (by decide)).trans pS_8) (fun j hj => by rw [rSave_row (by decide) (by decide), pS_T]; exact hT j hj) ?_ (pAll (V 228) bm (V 229)).2.2.1 0 (by omega)
      refine j_aload_n C dX7_openAll_102 rfl rfl ?_
      refine j_iconst (v := (nI 0)) C dX7_openAll_103 (by decide) ?_
      refine jp_LeaseBookModel_bufferMany C (by first | assumption | rfl | exact kd_sums (by assumption) | exact kd_st1 (by assumption) | exact kd_st2 (by assumption) | exact kd_ls (by first | assumption | rfl) (by assumption) | exact kd_sb (by first | assumption | rfl) (by assumption) | exact kd_sv (by assumption)) qf_X7_114 dX7_openAll_104 ?_
      refine j_aload_n C dX7_openAll_107 rfl rfl ?_
      refine jg_LeaseBookModel_z C (by first | assumption | rfl | exact kd_sums (by assumption) | exact kd_st1 (by assumption) | exact kd_st2 (by assumption) | exact kd_ls (by first | assumption | rfl) (by assumption) | exact kd_sb (by first | assumption | rfl) (by assumption) | exact kd_sv (by assumption)) qf_X7_7 dX7_openAll_108 ?_
      refine j_iconst (v := (nI 0)) C dX7_openAll_111 (by decide) ?_
      refine j_ialdN C (by first | assumption | rfl | exact kd_sums (by assumption) | exact kd_st1 (by assumption) | exact kd_st2 (by assumption) | exact kd_ls (by first | assumption | rfl) (by assumption) | exact kd_sb (by first | assumption | rfl) (by assumption) | exact kd_sv (by assumption)) rfl rfl (by omega) dX7_openAll_112 ?_
      refine j_tope (y := nI (nl + (pAll (V 228) bm (V 229)).2.2.1)) (by exact (mset_ne (by omega)).trans (hS.oa (pAll (V 228) bm (V 229)).2.2.1 hm (fun j hj => by rw [rSave_row (by decide) (by decide), pS_T]; exact hT j hj)).2.2.1) ?_
      exact j_iret C dX7_openAll_113 (by first | rfl | (simp [b2i, *]; done)) (by rfl) (by rfl)
    · exfalso
      have h8 := hR.1
      exact absurd (nI_le hm (by omega)) h31
  · replace h9 := b2i_0 h9
    exfalso
    exact absurd h1 (by assumption)
def rOff (V : Mem) (nl ns : Nat) : UInt64 := if rOfL V ns 3 nl = 0 then FP.dconst0 else FP.ddiv (FP.i2d (rOfL V ns 5 nl)) (FP.i2d (rOfL V ns 3 nl))
theorem off_n64 {a b : Int32} (h : ¬ b = 0) : vf_n64 (FP.ddiv (FP.i2d a) (FP.i2d b)) := Jvm.Free.Fl.ddiv_out (Jvm.Free.Fl.i2d_fin a).noNaN (Jvm.Free.Fl.i2d_fin b) (Jvm.Free.Fl.i2d_nz h)
theorem rOff_n64 {V : Mem} {nl ns : Nat} : vf_n64 (rOff V nl ns) := by
  unfold rOff
  split
  · show FP.dconst0 &&& 0x7fffffffffffffff ≤ 0x7ff0000000000000
    decide +kernel
  · exact off_n64 (by assumption)
set_option maxHeartbeats 4000000 in
theorem c_X7_offOf {l : Launch} {g : GC} {V : Mem} {L : LMem} {nl ns : Nat} (hR : RR nl ns V) : MC l yX7_offOf cX7_offOf 2 (some .double) 4 g V L [.ref (ad g 224)] (some (.double (rOff V nl ns))) V L := by
  refine MC.of [some (.ref (ad g 224)), none] (by decide +kernel) rfl (Nat.le_of_ble_eq_true rfl) (fun p e s m args below meth c C => ?_)
  refine j_aload_n C dX7_offOf_0 rfl rfl ?_
  refine j_iconst (v := (nI 3)) C dX7_offOf_1 (by decide) ?_
  refine j_callV1r C (oa_X7 (by first | assumption | rfl | exact kd_sums (by assumption) | exact kd_st1 (by assumption) | exact kd_st2 (by assumption) | exact kd_ls (by first | assumption | rfl) (by assumption) | exact kd_sb (by first | assumption | rfl) (by assumption) | exact kd_sv (by assumption))) rfl rfl (c_X7_ofLeases (by omega) hR) qm_X7_152 qi_X7_ofLeases qs_X7_ofLeases qn_X7 qc_X7_ofLeases fit_X7_ofLeases ⟨Nat.le_of_ble_eq_true rfl, Nat.le_of_ble_eq_true rfl, Nat.le_of_ble_eq_true rfl, Nat.le_of_ble_eq_true rfl⟩ (Nat.le_of_ble_eq_true rfl) dX7_offOf_2 ?_
  refine j_ist1 C dX7_offOf_5 rfl (Nat.le_of_ble_eq_true rfl) rfl ?_
  refine j_iload_n C dX7_offOf_6 rfl rfl ?_
  refine j_if_ne (tgt := 14) C dX7_offOf_7 (by decide) (fun h7 => ?_) (fun h7 => ?_)
  · refine j_aload_n C dX7_offOf_14 rfl rfl ?_
    refine j_iconst (v := (nI 5)) C dX7_offOf_15 (by decide) ?_
    refine j_callV1r C (oa_X7 (by first | assumption | rfl | exact kd_sums (by assumption) | exact kd_st1 (by assumption) | exact kd_st2 (by assumption) | exact kd_ls (by first | assumption | rfl) (by assumption) | exact kd_sb (by first | assumption | rfl) (by assumption) | exact kd_sv (by assumption))) rfl rfl (c_X7_ofLeases (by omega) hR) qm_X7_152 qi_X7_ofLeases qs_X7_ofLeases qn_X7 qc_X7_ofLeases fit_X7_ofLeases ⟨Nat.le_of_ble_eq_true rfl, Nat.le_of_ble_eq_true rfl, Nat.le_of_ble_eq_true rfl, Nat.le_of_ble_eq_true rfl⟩ (Nat.le_of_ble_eq_true rfl) dX7_offOf_16 ?_
    refine j_i2d C dX7_offOf_19 ?_
    refine j_iload_n C dX7_offOf_20 rfl rfl ?_
    refine j_i2d C dX7_offOf_21 ?_
    refine j_ddiv C dX7_offOf_22 rfl (off_n64 (by assumption)) ?_
    exact j_dret C dX7_offOf_23 (by unfold rOff; first | rw [if_pos (by assumption)] | rw [if_neg (by assumption)]) (by rfl) (by rfl)
  · refine j_dconst0 C dX7_offOf_10 ?_
    refine j_goto (tgt := 23) C dX7_offOf_11 (by decide) ?_
    exact j_dret C dX7_offOf_23 (by unfold rOff; first | rw [if_pos (by assumption)] | rw [if_neg (by assumption)]) (by rfl) (by rfl)
set_option maxHeartbeats 4000000 in
theorem c_X7_offShare {l : Launch} {g : GC} {V : Mem} {L : LMem} {nl ns : Nat} (hR : RR nl ns V) : MC l yX7_offShare cX7_offShare 1 (some .double) 6 g V L [.ref (ad g 224)] (some (.double (rOff (thr 0 V) nl ns))) (thr 0 V) L := by
  refine MC.of [some (.ref (ad g 224))] (by decide +kernel) rfl (Nat.le_of_ble_eq_true rfl) (fun p e s m args below meth c C => ?_)
  refine j_aload_n C dX7_offShare_0 rfl rfl ?_
  refine j_iconst (v := (nI 0)) C dX7_offShare_1 (by decide) ?_
  refine jp_LeaseBookModel_thrown C (by first | assumption | rfl | exact kd_sums (by assumption) | exact kd_st1 (by assumption) | exact kd_st2 (by assumption) | exact kd_ls (by first | assumption | rfl) (by assumption) | exact kd_sb (by first | assumption | rfl) (by assumption) | exact kd_sv (by assumption)) qf_X7_25 dX7_offShare_2 ?_
  refine j_aload_n C dX7_offShare_5 rfl rfl ?_
  refine j_callV0r C (oa_X7 (by first | assumption | rfl | exact kd_sums (by assumption) | exact kd_st1 (by assumption) | exact kd_st2 (by assumption) | exact kd_ls (by first | assumption | rfl) (by assumption) | exact kd_sb (by first | assumption | rfl) (by assumption) | exact kd_sv (by assumption))) rfl rfl (c_X7_offOf (hR.put (Or.inl (by decide)))) qm_X7_187 qi_X7_offOf qs_X7_offOf qn_X7 qc_X7_offOf fit_X7_offOf ⟨Nat.le_of_ble_eq_true rfl, Nat.le_of_ble_eq_true rfl, Nat.le_of_ble_eq_true rfl, Nat.le_of_ble_eq_true rfl⟩ (Nat.le_of_ble_eq_true rfl) dX7_offShare_6 ?_
  exact j_dret C dX7_offShare_9 (by first | rfl | (simp [b2i, *]; done)) (by rfl) (by rfl)
