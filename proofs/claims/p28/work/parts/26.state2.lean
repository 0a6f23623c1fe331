/-! THE CLASS: changes of states (laid by wip/whole/p26.py) -/
theorem cCpy_o {k j r : Nat} {V : Mem} (h : r ≠ k) (h2 : r ≠ k + 8) : cCpy k j V r = V r := by
  unfold cCpy
  rw [rcpy_ne h2]
  funext b
  unfold cCpy5
  rw [mset_ne (by omega), mset_ne (by omega), mset_ne (by omega), mset_ne (by omega), mset_ne (by omega)]
theorem sCpy_o {k j r : Nat} {V : Mem} (h : r ≠ k) : sCpy k j V r = V r := by
  funext b
  unfold sCpy
  rw [mset_ne (by omega), mset_ne (by omega), mset_ne (by omega), mset_ne (by omega), mset_ne (by omega), mset_ne (by omega)]
theorem cMv_o {k q r : Nat} {x : Int32} {V : Mem} (h : r ≠ k + 8) : cMv k q x V r = V r := by
  funext b
  unfold cMv
  rw [mset_ne (by omega)]
theorem mset_o {k i r : Nat} {x : Int32} {V : Mem} (h : r ≠ k) : mset V k i x r = V r := by
  funext b
  rw [mset_ne (by omega)]
theorem cPass_o {k n d r : Nat} {V : Mem} (h : r ≠ k) (h2 : r ≠ k + 8) : cPass k n d V r = V r := by
  unfold cPass
  rw [mset_o h, mset_o h, mset_o h, cMv_o h2, cMv_o h2, cMv_o h2]
theorem sPass_o {k a r : Nat} {d : Int32} {V : Mem} (h : r ≠ k) (h2 : r ≠ a + 8) : sPass k a d V r = V r := by
  unfold sPass
  rw [mset_o h, mset_o h, cMv_o h2, cMv_o h2]
def stL (b b2 : Nat) (V : Mem) : Nat → Mem
  | 0 => V
  | i + 1 => cCpy (b + 3 + i) (b2 + 3 + i) (stL b b2 V i)
theorem stL_o {b b2 r : Nat} {V : Mem} : ∀ i, i ≤ 8 → (∀ j, j < 8 → r ≠ b + 3 + j ∧ r ≠ b + 3 + j + 8) → stL b b2 V i r = V r
  | 0, _, _ => rfl
  | i + 1, h, hr => (cCpy_o (hr i (by omega)).1 (hr i (by omega)).2).trans (stL_o i (by omega) hr)
def stS (b b2 : Nat) (V : Mem) : Nat → Mem
  | 0 => V
  | i + 1 => sCpy (b + 19 + i) (b2 + 19 + i) (stS b b2 V i)
theorem stS_o {b b2 r : Nat} {V : Mem} : ∀ i, i ≤ 12 → (∀ j, j < 12 → r ≠ b + 19 + j) → stS b b2 V i r = V r
  | 0, _, _ => rfl
  | i + 1, h, hr => (sCpy_o (hr i (by omega))).trans (stS_o i (by omega) hr)
def st3 (b b2 : Nat) (V : Mem) : Mem :=
  let V1 := mset V b 2 (V b2 2)
  let V2 := mset V1 b 3 (V1 b2 3)
  mset V2 b 4 (V2 b2 4)
def cpySt (b b2 nl ns : Nat) (V : Mem) : Mem := stS b b2 (stL b b2 (st3 b b2 V) nl) ns
theorem st3_b {b b2 : Nat} {V : Mem} (h : ¬ b2 = b) : st3 b b2 V b 2 = V b2 2 ∧ st3 b b2 V b 3 = V b2 3 ∧ st3 b b2 V b 4 = V b2 4 := by
  unfold st3
  simp only [mset_at]
  refine ⟨?_, ?_, ?_⟩
  · rw [mset_ne (by omega), mset_ne (by omega), mset_at]
  · rw [mset_ne (by omega), mset_at, mset_ne (by omega)]
  · rw [mset_ne (by omega), mset_ne (by omega)]
theorem st3_o {b b2 r : Nat} {V : Mem} (h : ¬ r = b) : st3 b b2 V r = V r := by
  unfold st3
  rw [mset_o h, mset_o h, mset_o h]
set_option maxHeartbeats 4000000 in
theorem lp_X4_copyL {p : Program} {l : Launch} {e : Env} {s : State} {m : MethodId} {args : Array Value} {below : List Frame} {meth : Method} {c : Code} {g : GC} {Q : State → Prop} {V : Mem} {L : LMem} {b b2 nl : Nat} (C : Cx p s args m meth c cX4_copyFrom 5 yX4_copyFrom.cls (Option.none : Option Jvm.ClassFile.FieldType) g) (hb : kd b = 0) (hb2 : kd b2 = 0) (hne : ¬ b2 = b) (h8 : nl ≤ 8) (e1 : V b 2 = nI nl) (e2 : V b2 2 = nI nl) (kx : J p l e (RM 1) s m args below meth c 5 g 0 0 Q (stL b b2 V (nl)) L 68 [some (.ref (ad g b)), some (.ref (ad g b2)), some (.int (nI (nl))), none, none] []) : ∀ j i : Nat, i + j = nl → J p l e (RM 1) s m args below meth c 5 g 0 0 Q (stL b b2 V i) L 26 [some (.ref (ad g b)), some (.ref (ad g b2)), some (.int (nI i)), none, none] [] := by
  intro j
  induction j with
  | zero =>
    intro i hi
    have hi : nl = i := by omega
    subst hi
    refine j_iload_n C dX4_copyFrom_26 rfl rfl ?_
    refine j_aload_n C dX4_copyFrom_27 rfl rfl ?_
    refine jg_State_leaseCount C (by first | assumption | exact kd_sums (by assumption) | exact kd_st1 (by assumption) | exact kd_st2 (by assumption) | exact kd_ls (by first | assumption | exact kdL (by omega) | exact kdQ (by omega) | rfl) (by assumption) | exact kd_sb (by first | assumption | exact kdL (by omega) | exact kdQ (by omega) | rfl) (by assumption) | exact kd_sv (by assumption) | exact kdL (by omega) | exact kdQ (by omega) | rfl) qf_X4_25 dX4_copyFrom_28 ?_
    refine j_tope (y := nI nl) (by rw [stL_o _ (by omega) (fun j hj => by have z1 := kd0 (k := 0) hb; have z2 := kd0 (k := 0) hb2; omega)]; exact e1) ?_
    refine j_icmp_ge (tgt := 68) C dX4_copyFrom_31 (by decide) (fun h31 => ?_) (fun h31 => absurd (nI_le (by omega) (by omega)) h31)
    exact kx
  | succ j ih =>
    intro i hi
    refine j_iload_n C dX4_copyFrom_26 rfl rfl ?_
    refine j_aload_n C dX4_copyFrom_27 rfl rfl ?_
    refine jg_State_leaseCount C (by first | assumption | exact kd_sums (by assumption) | exact kd_st1 (by assumption) | exact kd_st2 (by assumption) | exact kd_ls (by first | assumption | exact kdL (by omega) | exact kdQ (by omega) | rfl) (by assumption) | exact kd_sb (by first | assumption | exact kdL (by omega) | exact kdQ (by omega) | rfl) (by assumption) | exact kd_sv (by assumption) | exact kdL (by omega) | exact kdQ (by omega) | rfl) qf_X4_25 dX4_copyFrom_28 ?_
    refine j_tope (y := nI nl) (by rw [stL_o _ (by omega) (fun j hj => by have z1 := kd0 (k := 0) hb; have z2 := kd0 (k := 0) hb2; omega)]; exact e1) ?_
    refine j_icmp_ge (tgt := 68) C dX4_copyFrom_31 (by decide) (fun h31 => absurd h31 (nI_ge (by omega) (by omega))) (fun h31 => ?_)
    refine j_aload_n C dX4_copyFrom_34 rfl rfl ?_
    refine j_iload_n C dX4_copyFrom_35 rfl rfl ?_
    refine j_callV1r C (oa_X4 (by first | assumption | exact kd_sums (by assumption) | exact kd_st1 (by assumption) | exact kd_st2 (by assumption) | exact kd_ls (by first | assumption | exact kdL (by omega) | exact kdQ (by omega) | rfl) (by assumption) | exact kd_sb (by first | assumption | exact kdL (by omega) | exact kdQ (by omega) | rfl) (by assumption) | exact kd_sv (by assumption) | exact kdL (by omega) | exact kdQ (by omega) | rfl)) rfl rfl (c_X4_leaseAt (r := b + 3 + i) hb (by rw [stL_o _ (by omega) (fun j hj => by have z1 := kd0 (k := 0) hb; have z2 := kd0 (k := 0) hb2; omega)]; exact e1) h8 (by omega) rfl) qm_X4_35 qi_X4_leaseAt qs_X4_leaseAt qn_X4 qc_X4_leaseAt fit_X4_leaseAt ⟨Nat.le_of_ble_eq_true rfl, Nat.le_of_ble_eq_true rfl, Nat.le_of_ble_eq_true rfl, Nat.le_of_ble_eq_true rfl⟩ (Nat.le_of_ble_eq_true rfl) dX4_copyFrom_36 ?_
    refine j_ast3 C dX4_copyFrom_39 rfl (Nat.le_of_ble_eq_true rfl) rfl ?_
    refine j_aload_n C dX4_copyFrom_40 rfl rfl ?_
    refine j_iload_n C dX4_copyFrom_41 rfl rfl ?_
    refine j_callV1r C (oa_X4 (by first | assumption | exact kd_sums (by assumption) | exact kd_st1 (by assumption) | exact kd_st2 (by assumption) | exact kd_ls (by first | assumption | exact kdL (by omega) | exact kdQ (by omega) | rfl) (by assumption) | exact kd_sb (by first | assumption | exact kdL (by omega) | exact kdQ (by omega) | rfl) (by assumption) | exact kd_sv (by assumption) | exact kdL (by omega) | exact kdQ (by omega) | rfl)) rfl rfl (c_X4_leaseAt (r := b2 + 3 + i) hb2 (by rw [stL_o _ (by omega) (fun j hj => by have z1 := kd0 (k := 0) hb; have z2 := kd0 (k := 0) hb2; omega)]; exact e2) h8 (by omega) rfl) qm_X4_35 qi_X4_leaseAt qs_X4_leaseAt qn_X4 qc_X4_leaseAt fit_X4_leaseAt ⟨Nat.le_of_ble_eq_true rfl, Nat.le_of_ble_eq_true rfl, Nat.le_of_ble_eq_true rfl, Nat.le_of_ble_eq_true rfl⟩ (Nat.le_of_ble_eq_true rfl) dX4_copyFrom_42 ?_
    refine j_ast4 C dX4_copyFrom_45 (Nat.le_of_ble_eq_true rfl) rfl ?_
    refine j_aload_n C dX4_copyFrom_47 rfl rfl ?_
    refine j_ifnull C dX4_copyFrom_48 ?_
    refine j_aload C dX4_copyFrom_51 rfl ?_
    refine j_ifnull C dX4_copyFrom_53 ?_
    refine j_aload_n C dX4_copyFrom_56 rfl rfl ?_
    refine j_aload C dX4_copyFrom_57 rfl ?_
    refine j_callV1v C (oa_X2 (by exact kd_ls hb (by omega))) rfl rfl (c_X2_copyFrom (kd_ls hb (by omega)) (kd_ls hb2 (by omega)) (by omega)) qm_X4_39 qi_X2_copyFrom qs_X2_copyFrom qn_X2 qc_X2_copyFrom fit_X2_copyFrom ⟨Nat.le_of_ble_eq_true rfl, Nat.le_of_ble_eq_true rfl, Nat.le_of_ble_eq_true rfl, Nat.le_of_ble_eq_true rfl⟩ (Nat.le_of_ble_eq_true rfl) dX4_copyFrom_59 ?_
    refine j_incN2 (q := 1) C dX4_copyFrom_62 (by decide) (Nat.le_of_ble_eq_true rfl) rfl ?_
    refine j_goto (tgt := 26) C dX4_copyFrom_65 (by decide) ?_
    refine j_mem (V' := (stL b b2 V (i + 1))) (L' := L) (by rfl) rfl ?_
    exact j_dr (lv' := [some (.ref (ad g b)), some (.ref (ad g b2)), some (.int (nI (i + 1))), none, none]) (And.intro rfl (And.intro rfl (And.intro rfl True.intro))) (ih (i + 1) (by omega))
set_option maxHeartbeats 4000000 in
theorem lp_X4_copyS {p : Program} {l : Launch} {e : Env} {s : State} {m : MethodId} {args : Array Value} {below : List Frame} {meth : Method} {c : Code} {g : GC} {Q : State → Prop} {V : Mem} {L : LMem} {b b2 ns : Nat} (C : Cx p s args m meth c cX4_copyFrom 5 yX4_copyFrom.cls (Option.none : Option Jvm.ClassFile.FieldType) g) (hb : kd b = 0) (hb2 : kd b2 = 0) (hne : ¬ b2 = b) (h12 : ns ≤ 12) (e1 : V b 3 = nI ns) (e2 : V b2 3 = nI ns) (kx : J p l e (RM 1) s m args below meth c 5 g 0 0 Q (stS b b2 V (ns)) L 112 [some (.ref (ad g b)), some (.ref (ad g b2)), some (.int (nI (ns))), none, none] []) : ∀ j i : Nat, i + j = ns → J p l e (RM 1) s m args below meth c 5 g 0 0 Q (stS b b2 V i) L 70 [some (.ref (ad g b)), some (.ref (ad g b2)), some (.int (nI i)), none, none] [] := by
  intro j
  induction j with
  | zero =>
    intro i hi
    have hi : ns = i := by omega
    subst hi
    refine j_iload_n C dX4_copyFrom_70 rfl rfl ?_
    refine j_aload_n C dX4_copyFrom_71 rfl rfl ?_
    refine jg_State_subleaseCount C (by first | assumption | exact kd_sums (by assumption) | exact kd_st1 (by assumption) | exact kd_st2 (by assumption) | exact kd_ls (by first | assumption | exact kdL (by omega) | exact kdQ (by omega) | rfl) (by assumption) | exact kd_sb (by first | assumption | exact kdL (by omega) | exact kdQ (by omega) | rfl) (by assumption) | exact kd_sv (by assumption) | exact kdL (by omega) | exact kdQ (by omega) | rfl) qf_X4_29 dX4_copyFrom_72 ?_
    refine j_tope (y := nI ns) (by rw [stS_o _ (by omega) (fun j hj => by have z1 := kd0 (k := 0) hb; have z2 := kd0 (k := 0) hb2; omega)]; exact e1) ?_
    refine j_icmp_ge (tgt := 112) C dX4_copyFrom_75 (by decide) (fun h75 => ?_) (fun h75 => absurd (nI_le (by omega) (by omega)) h75)
    exact kx
  | succ j ih =>
    intro i hi
    refine j_iload_n C dX4_copyFrom_70 rfl rfl ?_
    refine j_aload_n C dX4_copyFrom_71 rfl rfl ?_
    refine jg_State_subleaseCount C (by first | assumption | exact kd_sums (by assumption) | exact kd_st1 (by assumption) | exact kd_st2 (by assumption) | exact kd_ls (by first | assumption | exact kdL (by omega) | exact kdQ (by omega) | rfl) (by assumption) | exact kd_sb (by first | assumption | exact kdL (by omega) | exact kdQ (by omega) | rfl) (by assumption) | exact kd_sv (by assumption) | exact kdL (by omega) | exact kdQ (by omega) | rfl) qf_X4_29 dX4_copyFrom_72 ?_
    refine j_tope (y := nI ns) (by rw [stS_o _ (by omega) (fun j hj => by have z1 := kd0 (k := 0) hb; have z2 := kd0 (k := 0) hb2; omega)]; exact e1) ?_
    refine j_icmp_ge (tgt := 112) C dX4_copyFrom_75 (by decide) (fun h75 => absurd h75 (nI_ge (by omega) (by omega))) (fun h75 => ?_)
    refine j_aload_n C dX4_copyFrom_78 rfl rfl ?_
    refine j_iload_n C dX4_copyFrom_79 rfl rfl ?_
    refine j_callV1r C (oa_X4 (by first | assumption | exact kd_sums (by assumption) | exact kd_st1 (by assumption) | exact kd_st2 (by assumption) | exact kd_ls (by first | assumption | exact kdL (by omega) | exact kdQ (by omega) | rfl) (by assumption) | exact kd_sb (by first | assumption | exact kdL (by omega) | exact kdQ (by omega) | rfl) (by assumption) | exact kd_sv (by assumption) | exact kdL (by omega) | exact kdQ (by omega) | rfl)) rfl rfl (c_X4_subleaseAt (r := b + 19 + i) hb (by rw [stS_o _ (by omega) (fun j hj => by have z1 := kd0 (k := 0) hb; have z2 := kd0 (k := 0) hb2; omega)]; exact e1) h12 (by omega) rfl) qm_X4_43 qi_X4_subleaseAt qs_X4_subleaseAt qn_X4 qc_X4_subleaseAt fit_X4_subleaseAt ⟨Nat.le_of_ble_eq_true rfl, Nat.le_of_ble_eq_true rfl, Nat.le_of_ble_eq_true rfl, Nat.le_of_ble_eq_true rfl⟩ (Nat.le_of_ble_eq_true rfl) dX4_copyFrom_80 ?_
    refine j_ast3 C dX4_copyFrom_83 rfl (Nat.le_of_ble_eq_true rfl) rfl ?_
    refine j_aload_n C dX4_copyFrom_84 rfl rfl ?_
    refine j_iload_n C dX4_copyFrom_85 rfl rfl ?_
    refine j_callV1r C (oa_X4 (by first | assumption | exact kd_sums (by assumption) | exact kd_st1 (by assumption) | exact kd_st2 (by assumption) | exact kd_ls (by first | assumption | exact kdL (by omega) | exact kdQ (by omega) | rfl) (by assumption) | exact kd_sb (by first | assumption | exact kdL (by omega) | exact kdQ (by omega) | rfl) (by assumption) | exact kd_sv (by assumption) | exact kdL (by omega) | exact kdQ (by omega) | rfl)) rfl rfl (c_X4_subleaseAt (r := b2 + 19 + i) hb2 (by rw [stS_o _ (by omega) (fun j hj => by have z1 := kd0 (k := 0) hb; have z2 := kd0 (k := 0) hb2; omega)]; exact e2) h12 (by omega) rfl) qm_X4_43 qi_X4_subleaseAt qs_X4_subleaseAt qn_X4 qc_X4_subleaseAt fit_X4_subleaseAt ⟨Nat.le_of_ble_eq_true rfl, Nat.le_of_ble_eq_true rfl, Nat.le_of_ble_eq_true rfl, Nat.le_of_ble_eq_true rfl⟩ (Nat.le_of_ble_eq_true rfl) dX4_copyFrom_86 ?_
    refine j_ast4 C dX4_copyFrom_89 (Nat.le_of_ble_eq_true rfl) rfl ?_
    refine j_aload_n C dX4_copyFrom_91 rfl rfl ?_
    refine j_ifnull C dX4_copyFrom_92 ?_
    refine j_aload C dX4_copyFrom_95 rfl ?_
    refine j_ifnull C dX4_copyFrom_97 ?_
    refine j_aload_n C dX4_copyFrom_100 rfl rfl ?_
    refine j_aload C dX4_copyFrom_101 rfl ?_
    refine j_callV1v C (oa_X5 (by exact kd_sb hb (by omega))) rfl rfl (c_X5_copyFrom (kd_sb hb (by omega)) (kd_sb hb2 (by omega))) qm_X4_47 qi_X5_copyFrom qs_X5_copyFrom qn_X5 qc_X5_copyFrom fit_X5_copyFrom ⟨Nat.le_of_ble_eq_true rfl, Nat.le_of_ble_eq_true rfl, Nat.le_of_ble_eq_true rfl, Nat.le_of_ble_eq_true rfl⟩ (Nat.le_of_ble_eq_true rfl) dX4_copyFrom_103 ?_
    refine j_incN2 (q := 1) C dX4_copyFrom_106 (by decide) (Nat.le_of_ble_eq_true rfl) rfl ?_
    refine j_goto (tgt := 70) C dX4_copyFrom_109 (by decide) ?_
    refine j_mem (V' := (stS b b2 V (i + 1))) (L' := L) (by rfl) rfl ?_
    exact j_dr (lv' := [some (.ref (ad g b)), some (.ref (ad g b2)), some (.int (nI (i + 1))), none, none]) (And.intro rfl (And.intro rfl (And.intro rfl True.intro))) (ih (i + 1) (by omega))
set_option maxHeartbeats 4000000 in
theorem c_X4_copyFrom {l : Launch} {g : GC} {V : Mem} {L : LMem} {b b2 nl ns : Nat} (hb : kd b = 0) (hb2 : kd b2 = 0) (hne : ¬ b2 = b) (h8 : nl ≤ 8) (h12 : ns ≤ 12) (e1 : V b2 2 = nI nl) (e2 : V b2 3 = nI ns) : MC l yX4_copyFrom cX4_copyFrom 5 (Option.none : Option Jvm.ClassFile.FieldType) 1 g V L [.ref (ad g b), .ref (ad g b2)] none (cpySt b b2 nl ns V) L := by
  refine MC.of [some (.ref (ad g b)), some (.ref (ad g b2)), none, none, none] (by decide +kernel) rfl (Nat.le_of_ble_eq_true rfl) (fun p e s m args below meth c C => ?_)
  refine j_aload_n C dX4_copyFrom_0 rfl rfl ?_
  refine j_aload_n C dX4_copyFrom_1 rfl rfl ?_
  refine jg_State_leaseCount C (by first | assumption | exact kd_sums (by assumption) | exact kd_st1 (by assumption) | exact kd_st2 (by assumption) | exact kd_ls (by first | assumption | exact kdL (by omega) | exact kdQ (by omega) | rfl) (by assumption) | exact kd_sb (by first | assumption | exact kdL (by omega) | exact kdQ (by omega) | rfl) (by assumption) | exact kd_sv (by assumption) | exact kdL (by omega) | exact kdQ (by omega) | rfl) qf_X4_25 dX4_copyFrom_2 ?_
  refine jp_State_leaseCount C (by first | assumption | exact kd_sums (by assumption) | exact kd_st1 (by assumption) | exact kd_st2 (by assumption) | exact kd_ls (by first | assumption | exact kdL (by omega) | exact kdQ (by omega) | rfl) (by assumption) | exact kd_sb (by first | assumption | exact kdL (by omega) | exact kdQ (by omega) | rfl) (by assumption) | exact kd_sv (by assumption) | exact kdL (by omega) | exact kdQ (by omega) | rfl) qf_X4_25 dX4_copyFrom_5 ?_
  refine j_aload_n C dX4_copyFrom_8 rfl rfl ?_
  refine j_aload_n C dX4_copyFrom_9 rfl rfl ?_
  refine jg_State_subleaseCount C (by first | assumption | exact kd_sums (by assumption) | exact kd_st1 (by assumption) | exact kd_st2 (by assumption) | exact kd_ls (by first | assumption | exact kdL (by omega) | exact kdQ (by omega) | rfl) (by assumption) | exact kd_sb (by first | assumption | exact kdL (by omega) | exact kdQ (by omega) | rfl) (by assumption) | exact kd_sv (by assumption) | exact kdL (by omega) | exact kdQ (by omega) | rfl) qf_X4_29 dX4_copyFrom_10 ?_
  refine jp_State_subleaseCount C (by first | assumption | exact kd_sums (by assumption) | exact kd_st1 (by assumption) | exact kd_st2 (by assumption) | exact kd_ls (by first | assumption | exact kdL (by omega) | exact kdQ (by omega) | rfl) (by assumption) | exact kd_sb (by first | assumption | exact kdL (by omega) | exact kdQ (by omega) | rfl) (by assumption) | exact kd_sv (by assumption) | exact kdL (by omega) | exact kdQ (by omega) | rfl) qf_X4_29 dX4_copyFrom_13 ?_
  refine j_aload_n C dX4_copyFrom_16 rfl rfl ?_
  refine j_aload_n C dX4_copyFrom_17 rfl rfl ?_
  refine jg_State_period C (by first | assumption | exact kd_sums (by assumption) | exact kd_st1 (by assumption) | exact kd_st2 (by assumption) | exact kd_ls (by first | assumption | exact kdL (by omega) | exact kdQ (by omega) | rfl) (by assumption) | exact kd_sb (by first | assumption | exact kdL (by omega) | exact kdQ (by omega) | rfl) (by assumption) | exact kd_sv (by assumption) | exact kdL (by omega) | exact kdQ (by omega) | rfl) qf_X4_32 dX4_copyFrom_18 ?_
  refine jp_State_period C (by first | assumption | exact kd_sums (by assumption) | exact kd_st1 (by assumption) | exact kd_st2 (by assumption) | exact kd_ls (by first | assumption | exact kdL (by omega) | exact kdQ (by omega) | rfl) (by assumption) | exact kd_sb (by first | assumption | exact kdL (by omega) | exact kdQ (by omega) | rfl) (by assumption) | exact kd_sv (by assumption) | exact kdL (by omega) | exact kdQ (by omega) | rfl) qf_X4_32 dX4_copyFrom_21 ?_
  refine j_iconst (v := (nI 0)) C dX4_copyFrom_24 (by decide) ?_
  refine j_ist2 C dX4_copyFrom_25 rfl (Nat.le_of_ble_eq_true rfl) rfl ?_
  refine j_mem (V' := st3 b b2 V) (L' := L) rfl rfl ?_
  have f1 := st3_b (V := V) hne
  have f2 : st3 b b2 V b2 = V b2 := st3_o hne
  refine lp_X4_copyL C hb hb2 hne h8 (f1.1.trans e1) (by rw [f2]; exact e1) ?_ nl 0 (by omega)
  refine j_iconst (v := (nI 0)) C dX4_copyFrom_68 (by decide) ?_
  refine j_ist2 C dX4_copyFrom_69 rfl (Nat.le_of_ble_eq_true rfl) rfl ?_
  refine lp_X4_copyS C hb hb2 hne h12 (by rw [stL_o nl h8 (fun j hj => by have z1 := kd0 (k := 0) hb; have z2 := kd0 (k := 0) hb2; omega)]; exact f1.2.1.trans e2) (by rw [stL_o nl h8 (fun j hj => by have z1 := kd0 (k := 0) hb; have z2 := kd0 (k := 0) hb2; omega), f2]; exact e2) ?_ ns 0 (by omega)
  exact j_vret C dX4_copyFrom_112 rfl (by rfl) (by rfl)
def cAddL (nl : Nat) (p n r c : Int32) (V : Mem) : Mem := cBeg (3 + nl) p n r c (mset V 0 2 (nI (nl + 1)))
def cAddS (k ns : Nat) (t rc n : Int32) (V : Mem) : Mem :=
  let V1 := mset V 0 3 (nI (ns + 1))
  let V4 := mset (mset (mset (mset V1 (19 + ns) 0 (nI k)) (19 + ns) 1 t) (19 + ns) 2 rc) (19 + ns) 3 n
  let V5 := mset V4 (19 + ns) 4 (V4 (3 + k) 2)
  let V6 := mset V5 (19 + ns) 5 (wor (V5 (19 + ns) 2) n (V5 (19 + ns) 4))
  cSubT (3 + k) t (V6 (19 + ns) 5) V6
set_option maxHeartbeats 4000000 in
theorem c_X4_addLease {l : Launch} {g : GC} {V : Mem} {L : LMem} {nl : Nat} {p1 n r c0 : Int32} (h : LC nl V) (h8 : nl < 8) (hz : rateR r) : MC l yX4_addLease cX4_addLease 7 (some .int) 2 g V L [.ref (ad g 0), .int p1, .int n, .int r, .int c0] (some (.int (nI nl))) (cAddL nl p1 n r c0 V) L := by
  refine MC.of [some (.ref (ad g 0)), some (.int p1), some (.int n), some (.int r), some (.int c0), none, none] (by decide +kernel) rfl (Nat.le_of_ble_eq_true rfl) (fun p e s m args below meth c C => ?_)
  refine j_aload_n C dX4_addLease_0 rfl rfl ?_
  refine jg_State_leaseCount C (by first | assumption | exact kd_sums (by assumption) | exact kd_st1 (by assumption) | exact kd_st2 (by assumption) | exact kd_ls (by first | assumption | exact kdL (by omega) | exact kdQ (by omega) | rfl) (by assumption) | exact kd_sb (by first | assumption | exact kdL (by omega) | exact kdQ (by omega) | rfl) (by assumption) | exact kd_sv (by assumption) | exact kdL (by omega) | exact kdQ (by omega) | rfl) qf_X4_25 dX4_addLease_1 ?_
  refine j_tope (y := nI nl) (by exact h.1) ?_
  refine j_ist5 C dX4_addLease_4 (Nat.le_of_ble_eq_true rfl) rfl ?_
  refine j_aload_n C dX4_addLease_6 rfl rfl ?_
  refine j_dup C dX4_addLease_7 rfl ?_
  refine jg_State_leaseCount C (by first | assumption | exact kd_sums (by assumption) | exact kd_st1 (by assumption) | exact kd_st2 (by assumption) | exact kd_ls (by first | assumption | exact kdL (by omega) | exact kdQ (by omega) | rfl) (by assumption) | exact kd_sb (by first | assumption | exact kdL (by omega) | exact kdQ (by omega) | rfl) (by assumption) | exact kd_sv (by assumption) | exact kdL (by omega) | exact kdQ (by omega) | rfl) qf_X4_25 dX4_addLease_8 ?_
  refine j_tope (y := nI nl) (by exact h.1) ?_
  refine j_iconst (v := (nI 1)) C dX4_addLease_11 (by decide) ?_
  refine j_iaddN C dX4_addLease_12 ?_
  refine jp_State_leaseCount C (by first | assumption | exact kd_sums (by assumption) | exact kd_st1 (by assumption) | exact kd_st2 (by assumption) | exact kd_ls (by first | assumption | exact kdL (by omega) | exact kdQ (by omega) | rfl) (by assumption) | exact kd_sb (by first | assumption | exact kdL (by omega) | exact kdQ (by omega) | rfl) (by assumption) | exact kd_sv (by assumption) | exact kdL (by omega) | exact kdQ (by omega) | rfl) qf_X4_25 dX4_addLease_13 ?_
  refine j_aload_n C dX4_addLease_16 rfl rfl ?_
  refine j_iload C dX4_addLease_17 rfl ?_
  refine j_callV1r C (oa_X4 (by first | assumption | exact kd_sums (by assumption) | exact kd_st1 (by assumption) | exact kd_st2 (by assumption) | exact kd_ls (by first | assumption | exact kdL (by omega) | exact kdQ (by omega) | rfl) (by assumption) | exact kd_sb (by first | assumption | exact kdL (by omega) | exact kdQ (by omega) | rfl) (by assumption) | exact kd_sv (by assumption) | exact kdL (by omega) | exact kdQ (by omega) | rfl)) rfl rfl (at_L (nl := nl + 1) ⟨mset_at _ _ _ _, h8⟩ (by omega)) qm_X4_35 qi_X4_leaseAt qs_X4_leaseAt qn_X4 qc_X4_leaseAt fit_X4_leaseAt ⟨Nat.le_of_ble_eq_true rfl, Nat.le_of_ble_eq_true rfl, Nat.le_of_ble_eq_true rfl, Nat.le_of_ble_eq_true rfl⟩ (Nat.le_of_ble_eq_true rfl) dX4_addLease_19 ?_
  refine j_ast6 C dX4_addLease_22 (Nat.le_of_ble_eq_true rfl) rfl ?_
  refine j_aload C dX4_addLease_24 rfl ?_
  refine j_ifnull C dX4_addLease_26 ?_
  refine j_aload C dX4_addLease_29 rfl ?_
  refine j_iload_n C dX4_addLease_31 rfl rfl ?_
  refine j_iload_n C dX4_addLease_32 rfl rfl ?_
  refine j_iload_n C dX4_addLease_33 rfl rfl ?_
  refine j_iload C dX4_addLease_34 rfl ?_
  refine j_callV4v C (oa_X2 (by first | assumption | exact kd_sums (by assumption) | exact kd_st1 (by assumption) | exact kd_st2 (by assumption) | exact kd_ls (by first | assumption | exact kdL (by omega) | exact kdQ (by omega) | rfl) (by assumption) | exact kd_sb (by first | assumption | exact kdL (by omega) | exact kdQ (by omega) | rfl) (by assumption) | exact kd_sv (by assumption) | exact kdL (by omega) | exact kdQ (by omega) | rfl)) rfl rfl (c_X2_begin (kdL h8) hz) qm_X4_50 qi_X2_begin qs_X2_begin qn_X2 qc_X2_begin fit_X2_begin ⟨Nat.le_of_ble_eq_true rfl, Nat.le_of_ble_eq_true rfl, Nat.le_of_ble_eq_true rfl, Nat.le_of_ble_eq_true rfl⟩ (Nat.le_of_ble_eq_true rfl) dX4_addLease_36 ?_
  refine j_iload C dX4_addLease_39 rfl ?_
  exact j_iret C dX4_addLease_41 (by rfl) (by rfl) (by rfl)
set_option maxHeartbeats 4000000 in
theorem c_X4_addSublease {l : Launch} {g : GC} {V : Mem} {L : LMem} {k ns : Nat} {t rc n : Int32} (h : SC ns V) (h12 : ns < 12) (hk8 : k < 8) (hz : rateR (V (3 + k) 2)) : MC l yX4_addSublease cX4_addSublease 8 (some .int) 2 g V L [.ref (ad g 0), .int (nI k), .ref (ad g (3 + k)), .int t, .int rc, .int n] (some (.int (nI ns))) (cAddS k ns t rc n V) L := by
  refine MC.of [some (.ref (ad g 0)), some (.int (nI k)), some (.ref (ad g (3 + k))), some (.int t), some (.int rc), some (.int n), none, none] (by decide +kernel) rfl (Nat.le_of_ble_eq_true rfl) (fun p e s m args below meth c C => ?_)
  have hkk := kdL hk8
  have hqq := kdQ h12
  refine j_aload_n C dX4_addSublease_0 rfl rfl ?_
  refine jg_State_subleaseCount C (by first | assumption | exact kd_sums (by assumption) | exact kd_st1 (by assumption) | exact kd_st2 (by assumption) | exact kd_ls (by first | assumption | exact kdL (by omega) | exact kdQ (by omega) | rfl) (by assumption) | exact kd_sb (by first | assumption | exact kdL (by omega) | exact kdQ (by omega) | rfl) (by assumption) | exact kd_sv (by assumption) | exact kdL (by omega) | exact kdQ (by omega) | rfl) qf_X4_29 dX4_addSublease_1 ?_
  refine j_tope (y := nI ns) (by exact h.1) ?_
  refine j_ist6 C dX4_addSublease_4 (Nat.le_of_ble_eq_true rfl) rfl ?_
  refine j_aload_n C dX4_addSublease_6 rfl rfl ?_
  refine j_dup C dX4_addSublease_7 rfl ?_
  refine jg_State_subleaseCount C (by first | assumption | exact kd_sums (by assumption) | exact kd_st1 (by assumption) | exact kd_st2 (by assumption) | exact kd_ls (by first | assumption | exact kdL (by omega) | exact kdQ (by omega) | rfl) (by assumption) | exact kd_sb (by first | assumption | exact kdL (by omega) | exact kdQ (by omega) | rfl) (by assumption) | exact kd_sv (by assumption) | exact kdL (by omega) | exact kdQ (by omega) | rfl) qf_X4_29 dX4_addSublease_8 ?_
  refine j_tope (y := nI ns) (by exact h.1) ?_
  refine j_iconst (v := (nI 1)) C dX4_addSublease_11 (by decide) ?_
  refine j_iaddN C dX4_addSublease_12 ?_
  refine jp_State_subleaseCount C (by first | assumption | exact kd_sums (by assumption) | exact kd_st1 (by assumption) | exact kd_st2 (by assumption) | exact kd_ls (by first | assumption | exact kdL (by omega) | exact kdQ (by omega) | rfl) (by assumption) | exact kd_sb (by first | assumption | exact kdL (by omega) | exact kdQ (by omega) | rfl) (by assumption) | exact kd_sv (by assumption) | exact kdL (by omega) | exact kdQ (by omega) | rfl) qf_X4_29 dX4_addSublease_13 ?_
  refine j_aload_n C dX4_addSublease_16 rfl rfl ?_
  refine j_iload C dX4_addSublease_17 rfl ?_
  refine j_callV1r C (oa_X4 (by first | assumption | exact kd_sums (by assumption) | exact kd_st1 (by assumption) | exact kd_st2 (by assumption) | exact kd_ls (by first | assumption | exact kdL (by omega) | exact kdQ (by omega) | rfl) (by assumption) | exact kd_sb (by first | assumption | exact kdL (by omega) | exact kdQ (by omega) | rfl) (by assumption) | exact kd_sv (by assumption) | exact kdL (by omega) | exact kdQ (by omega) | rfl)) rfl rfl (at_S (ns := ns + 1) ⟨mset_at _ _ _ _, h12⟩ (by omega)) qm_X4_43 qi_X4_subleaseAt qs_X4_subleaseAt qn_X4 qc_X4_subleaseAt fit_X4_subleaseAt ⟨Nat.le_of_ble_eq_true rfl, Nat.le_of_ble_eq_true rfl, Nat.le_of_ble_eq_true rfl, Nat.le_of_ble_eq_true rfl⟩ (Nat.le_of_ble_eq_true rfl) dX4_addSublease_19 ?_
  refine j_ast7 C dX4_addSublease_22 (Nat.le_of_ble_eq_true rfl) rfl ?_
  refine j_aload C dX4_addSublease_24 rfl ?_
  refine j_ifnull C dX4_addSublease_26 ?_
  refine j_aload C dX4_addSublease_29 rfl ?_
  refine j_iload_n C dX4_addSublease_31 rfl rfl ?_
  refine jp_Sublease_head C (by first | assumption | exact kd_sums (by assumption) | exact kd_st1 (by assumption) | exact kd_st2 (by assumption) | exact kd_ls (by first | assumption | exact kdL (by omega) | exact kdQ (by omega) | rfl) (by assumption) | exact kd_sb (by first | assumption | exact kdL (by omega) | exact kdQ (by omega) | rfl) (by assumption) | exact kd_sv (by assumption) | exact kdL (by omega) | exact kdQ (by omega) | rfl) qf_X4_54 dX4_addSublease_32 ?_
  refine j_aload C dX4_addSublease_35 rfl ?_
  refine j_iload_n C dX4_addSublease_37 rfl rfl ?_
  refine jp_Sublease_thousandths C (by first | assumption | exact kd_sums (by assumption) | exact kd_st1 (by assumption) | exact kd_st2 (by assumption) | exact kd_ls (by first | assumption | exact kdL (by omega) | exact kdQ (by omega) | rfl) (by assumption) | exact kd_sb (by first | assumption | exact kdL (by omega) | exact kdQ (by omega) | rfl) (by assumption) | exact kd_sv (by assumption) | exact kdL (by omega) | exact kdQ (by omega) | rfl) qf_X4_57 dX4_addSublease_38 ?_
  refine j_aload C dX4_addSublease_41 rfl ?_
  refine j_iload C dX4_addSublease_43 rfl ?_
  refine jp_Sublease_receipt C (by first | assumption | exact kd_sums (by assumption) | exact kd_st1 (by assumption) | exact kd_st2 (by assumption) | exact kd_ls (by first | assumption | exact kdL (by omega) | exact kdQ (by omega) | rfl) (by assumption) | exact kd_sb (by first | assumption | exact kdL (by omega) | exact kdQ (by omega) | rfl) (by assumption) | exact kd_sv (by assumption) | exact kdL (by omega) | exact kdQ (by omega) | rfl) qf_X4_60 dX4_addSublease_45 ?_
  refine j_aload C dX4_addSublease_48 rfl ?_
  refine j_iload C dX4_addSublease_50 rfl ?_
  refine jp_Sublease_periods C (by first | assumption | exact kd_sums (by assumption) | exact kd_st1 (by assumption) | exact kd_st2 (by assumption) | exact kd_ls (by first | assumption | exact kdL (by omega) | exact kdQ (by omega) | rfl) (by assumption) | exact kd_sb (by first | assumption | exact kdL (by omega) | exact kdQ (by omega) | rfl) (by assumption) | exact kd_sv (by assumption) | exact kdL (by omega) | exact kdQ (by omega) | rfl) qf_X4_63 dX4_addSublease_52 ?_
  refine j_aload C dX4_addSublease_55 rfl ?_
  refine j_aload_n C dX4_addSublease_57 rfl rfl ?_
  refine jg_Lease_rate C (by first | assumption | exact kd_sums (by assumption) | exact kd_st1 (by assumption) | exact kd_st2 (by assumption) | exact kd_ls (by first | assumption | exact kdL (by omega) | exact kdQ (by omega) | rfl) (by assumption) | exact kd_sb (by first | assumption | exact kdL (by omega) | exact kdQ (by omega) | rfl) (by assumption) | exact kd_sv (by assumption) | exact kdL (by omega) | exact kdQ (by omega) | rfl) qf_X4_66 dX4_addSublease_58 ?_
  refine jp_Sublease_rate C (by first | assumption | exact kd_sums (by assumption) | exact kd_st1 (by assumption) | exact kd_st2 (by assumption) | exact kd_ls (by first | assumption | exact kdL (by omega) | exact kdQ (by omega) | rfl) (by assumption) | exact kd_sb (by first | assumption | exact kdL (by omega) | exact kdQ (by omega) | rfl) (by assumption) | exact kd_sv (by assumption) | exact kdL (by omega) | exact kdQ (by omega) | rfl) qf_X4_69 dX4_addSublease_61 ?_
  refine j_aload C dX4_addSublease_64 rfl ?_
  refine j_aload C dX4_addSublease_66 rfl ?_
  refine j_iload C dX4_addSublease_68 rfl ?_
  refine j_callV1r C (oa_X5 (by first | assumption | exact kd_sums (by assumption) | exact kd_st1 (by assumption) | exact kd_st2 (by assumption) | exact kd_ls (by first | assumption | exact kdL (by omega) | exact kdQ (by omega) | rfl) (by assumption) | exact kd_sb (by first | assumption | exact kdL (by omega) | exact kdQ (by omega) | rfl) (by assumption) | exact kd_sv (by assumption) | exact kdL (by omega) | exact kdQ (by omega) | rfl)) rfl rfl (c_X5_receivableWith hqq (by rw [mset_at, mset_ne (by omega), mset_ne (by omega), mset_ne (by omega), mset_ne (by omega), mset_ne (by omega)]; exact hz)) qm_X4_70 qi_X5_receivableWith qs_X5_receivableWith qn_X5 qc_X5_receivableWith fit_X5_receivableWith ⟨Nat.le_of_ble_eq_true rfl, Nat.le_of_ble_eq_true rfl, Nat.le_of_ble_eq_true rfl, Nat.le_of_ble_eq_true rfl⟩ (Nat.le_of_ble_eq_true rfl) dX4_addSublease_70 ?_
  refine jp_Sublease_receivable C (by first | assumption | exact kd_sums (by assumption) | exact kd_st1 (by assumption) | exact kd_st2 (by assumption) | exact kd_ls (by first | assumption | exact kdL (by omega) | exact kdQ (by omega) | rfl) (by assumption) | exact kd_sb (by first | assumption | exact kdL (by omega) | exact kdQ (by omega) | rfl) (by assumption) | exact kd_sv (by assumption) | exact kdL (by omega) | exact kdQ (by omega) | rfl) qf_X4_74 dX4_addSublease_73 ?_
  refine j_aload_n C dX4_addSublease_76 rfl rfl ?_
  refine j_iload_n C dX4_addSublease_77 rfl rfl ?_
  refine j_aload C dX4_addSublease_78 rfl ?_
  refine jg_Sublease_receivable C (by first | assumption | exact kd_sums (by assumption) | exact kd_st1 (by assumption) | exact kd_st2 (by assumption) | exact kd_ls (by first | assumption | exact kdL (by omega) | exact kdQ (by omega) | rfl) (by assumption) | exact kd_sb (by first | assumption | exact kdL (by omega) | exact kdQ (by omega) | rfl) (by assumption) | exact kd_sv (by assumption) | exact kdL (by omega) | exact kdQ (by omega) | rfl) qf_X4_74 dX4_addSublease_80 ?_
  refine j_callV2v C (oa_X2 (by first | assumption | exact kd_sums (by assumption) | exact kd_st1 (by assumption) | exact kd_st2 (by assumption) | exact kd_ls (by first | assumption | exact kdL (by omega) | exact kdQ (by omega) | rfl) (by assumption) | exact kd_sb (by first | assumption | exact kdL (by omega) | exact kdQ (by omega) | rfl) (by assumption) | exact kd_sv (by assumption) | exact kdL (by omega) | exact kdQ (by omega) | rfl)) rfl rfl (c_X2_subletThousandths hkk) qm_X4_77 qi_X2_subletThousandths qs_X2_subletThousandths qn_X2 qc_X2_subletThousandths fit_X2_subletThousandths ⟨Nat.le_of_ble_eq_true rfl, Nat.le_of_ble_eq_true rfl, Nat.le_of_ble_eq_true rfl, Nat.le_of_ble_eq_true rfl⟩ (Nat.le_of_ble_eq_true rfl) dX4_addSublease_83 ?_
  refine j_iload C dX4_addSublease_86 rfl ?_
  exact j_iret C dX4_addSublease_88 (by rfl) (by rfl) (by rfl)
abbrev perR (x : Int32) : Prop := nI 0 ≤ x ∧ x ≤ nI 60
theorem nI_clN {j : Nat} (h : j < 2 ^ 31) : (nI j).toNatClampNeg = j := by
  have h2 : (nI j).toNatClampNeg = (nI j).toInt.toNat := rfl
  rw [h2, nI_toInt h]; rfl
def cPLs (d : Nat) (V : Mem) : Nat → Mem
  | 0 => V
  | i + 1 => cPass (3 + i) (cPLs d V i (3 + i) 1).toNatClampNeg d (cPLs d V i)
theorem cPLs_o {d r : Nat} {V : Mem} : ∀ i, i ≤ 8 → (r < 3 ∨ (3 + i ≤ r ∧ r < 11) ∨ 11 + i ≤ r) → cPLs d V i r = V r
  | 0, _, _ => rfl
  | i + 1, h, hr => (cPass_o (by omega) (by omega)).trans (cPLs_o i (by omega) (by omega))
def sPassH (q : Nat) (d : Int32) (V : Mem) : Mem := sPass (19 + q) (3 + (V (19 + q) 0).toNatClampNeg) d V
def cPSs (d : Int32) (V : Mem) : Nat → Mem
  | 0 => V
  | i + 1 => sPassH i d (cPSs d V i)
abbrev hdR (nl ns : Nat) (V : Mem) : Prop := ∀ q, q < ns → ∃ k, k < nl ∧ V (19 + q) 0 = nI k
theorem cPSs_o {nl ns r : Nat} {d : Int32} {V : Mem} (hh : hdR nl ns V) (h8 : nl ≤ 8) : ∀ i, i ≤ ns → (r < 11 ∨ 19 + i ≤ r) → cPSs d V i r = V r
  | 0, _, _ => rfl
  | i + 1, h, hr => by
    obtain ⟨k, hk, e⟩ := hh i (by omega)
    have e2 : cPSs d V i (19 + i) 0 = nI k := by rw [cPSs_o hh h8 i (by omega) (by omega)]; exact e
    show sPassH i d (cPSs d V i) r = _
    unfold sPassH
    rw [e2, nI_clN (by omega), sPass_o (by omega) (by omega)]
    exact cPSs_o hh h8 i (by omega) (by omega)
def cPassSt (nl ns d : Nat) (V : Mem) : Mem := cPSs (nI d) (cPLs d (mset V 0 4 (V 0 4 + nI d)) nl) ns
set_option maxHeartbeats 4000000 in
theorem lp_X4_passL {p : Program} {l : Launch} {e : Env} {s : State} {m : MethodId} {args : Array Value} {below : List Frame} {meth : Method} {c : Code} {g : GC} {Q : State → Prop} {V : Mem} {L : LMem} {d nl : Nat} (C : Cx p s args m meth c cX4_passPeriods 5 yX4_passPeriods.cls (Option.none : Option Jvm.ClassFile.FieldType) g) (h : LC nl V) (hp : ∀ k, k < nl → perR (V (3 + k) 1)) (hz : ∀ k, k < nl → rateR (V (3 + k) 2)) (hd : d ≤ 2000) (kx : J p l e (RM 3) s m args below meth c 5 g 0 0 Q (cPLs d V (nl)) L 41 [some (.ref (ad g 0)), some (.int (nI d)), some (.int (nI (nl))), none, none] []) : ∀ j i : Nat, i + j = nl → J p l e (RM 3) s m args below meth c 5 g 0 0 Q (cPLs d V i) L 12 [some (.ref (ad g 0)), some (.int (nI d)), some (.int (nI i)), none, none] [] := by
  intro j
  induction j with
  | zero =>
    intro i hi
    have hi : nl = i := by omega
    subst hi
    refine j_iload_n C dX4_passPeriods_12 rfl rfl ?_
    refine j_aload_n C dX4_passPeriods_13 rfl rfl ?_
    refine jg_State_leaseCount C (by first | assumption | exact kd_sums (by assumption) | exact kd_st1 (by assumption) | exact kd_st2 (by assumption) | exact kd_ls (by first | assumption | exact kdL (by omega) | exact kdQ (by omega) | rfl) (by assumption) | exact kd_sb (by first | assumption | exact kdL (by omega) | exact kdQ (by omega) | rfl) (by assumption) | exact kd_sv (by assumption) | exact kdL (by omega) | exact kdQ (by omega) | rfl) qf_X4_25 dX4_passPeriods_14 ?_
    refine j_tope (y := nI nl) (by rw [cPLs_o _ (by have := h.2; omega) (by have := h.2; omega)]; exact h.1) ?_
    refine j_icmp_ge (tgt := 41) C dX4_passPeriods_17 (by decide) (fun h17 => ?_) (fun h17 => absurd (nI_le (by omega) (by have := h.2; omega)) h17)
    exact kx
  | succ j ih =>
    intro i hi
    have h8 := h.2
    have e1 : cPLs d V i (3 + i) = V (3 + i) := cPLs_o i (by omega) (by omega)
    have e0 : cPLs d V i 0 = V 0 := cPLs_o i (by omega) (by omega)
    have hcl := nI_cl (x := cPLs d V i (3 + i) 1) (n := 60) (by rw [e1]; exact hp i (by omega)) (by omega)
    refine j_iload_n C dX4_passPeriods_12 rfl rfl ?_
    refine j_aload_n C dX4_passPeriods_13 rfl rfl ?_
    refine jg_State_leaseCount C (by first | assumption | exact kd_sums (by assumption) | exact kd_st1 (by assumption) | exact kd_st2 (by assumption) | exact kd_ls (by first | assumption | exact kdL (by omega) | exact kdQ (by omega) | rfl) (by assumption) | exact kd_sb (by first | assumption | exact kdL (by omega) | exact kdQ (by omega) | rfl) (by assumption) | exact kd_sv (by assumption) | exact kdL (by omega) | exact kdQ (by omega) | rfl) qf_X4_25 dX4_passPeriods_14 ?_
    refine j_tope (y := nI nl) (by rw [cPLs_o _ (by have := h.2; omega) (by have := h.2; omega)]; exact h.1) ?_
    refine j_icmp_ge (tgt := 41) C dX4_passPeriods_17 (by decide) (fun h17 => absurd h17 (nI_ge (by omega) (by have := h.2; omega))) (fun h17 => ?_)
    refine j_aload_n C dX4_passPeriods_20 rfl rfl ?_
    refine j_iload_n C dX4_passPeriods_21 rfl rfl ?_
    refine j_callV1r C (oa_X4 (by first | assumption | exact kd_sums (by assumption) | exact kd_st1 (by assumption) | exact kd_st2 (by assumption) | exact kd_ls (by first | assumption | exact kdL (by omega) | exact kdQ (by omega) | rfl) (by assumption) | exact kd_sb (by first | assumption | exact kdL (by omega) | exact kdQ (by omega) | rfl) (by assumption) | exact kd_sv (by assumption) | exact kdL (by omega) | exact kdQ (by omega) | rfl)) rfl rfl (at_L (nl := nl) ⟨by rw [e0]; exact h.1, h8⟩ (by omega)) qm_X4_35 qi_X4_leaseAt qs_X4_leaseAt qn_X4 qc_X4_leaseAt fit_X4_leaseAt ⟨Nat.le_of_ble_eq_true rfl, Nat.le_of_ble_eq_true rfl, Nat.le_of_ble_eq_true rfl, Nat.le_of_ble_eq_true rfl⟩ (Nat.le_of_ble_eq_true rfl) dX4_passPeriods_22 ?_
    refine j_ast3 C dX4_passPeriods_25 rfl (Nat.le_of_ble_eq_true rfl) rfl ?_
    refine j_aload_n C dX4_passPeriods_26 rfl rfl ?_
    refine j_ifnull C dX4_passPeriods_27 ?_
    refine j_aload_n C dX4_passPeriods_30 rfl rfl ?_
    refine j_iload_n C dX4_passPeriods_31 rfl rfl ?_
    refine j_callV1v C (oa_X2 (by first | assumption | exact kd_sums (by assumption) | exact kd_st1 (by assumption) | exact kd_st2 (by assumption) | exact kd_ls (by first | assumption | exact kdL (by omega) | exact kdQ (by omega) | rfl) (by assumption) | exact kd_sb (by first | assumption | exact kdL (by omega) | exact kdQ (by omega) | rfl) (by assumption) | exact kd_sv (by assumption) | exact kdL (by omega) | exact kdQ (by omega) | rfl)) rfl rfl (c_X2_passPeriods (kdL (by omega)) hcl.1 (by omega) hd (by rw [e1]; exact hz i (by omega))) qm_X4_101 qi_X2_passPeriods qs_X2_passPeriods qn_X2 qc_X2_passPeriods fit_X2_passPeriods ⟨Nat.le_of_ble_eq_true rfl, Nat.le_of_ble_eq_true rfl, Nat.le_of_ble_eq_true rfl, Nat.le_of_ble_eq_true rfl⟩ (Nat.le_of_ble_eq_true rfl) dX4_passPeriods_32 ?_
    refine j_incN2 (q := 1) C dX4_passPeriods_35 (by decide) (Nat.le_of_ble_eq_true rfl) rfl ?_
    refine j_goto (tgt := 12) C dX4_passPeriods_38 (by decide) ?_
    refine j_mem (V' := (cPLs d V (i + 1))) (L' := L) (by rfl) rfl ?_
    exact j_dr (lv' := [some (.ref (ad g 0)), some (.int (nI d)), some (.int (nI (i + 1))), none, none]) (And.intro rfl (And.intro rfl (And.intro rfl True.intro))) (ih (i + 1) (by omega))
set_option maxHeartbeats 4000000 in
theorem lp_X4_passS {p : Program} {l : Launch} {e : Env} {s : State} {m : MethodId} {args : Array Value} {below : List Frame} {meth : Method} {c : Code} {g : GC} {Q : State → Prop} {V : Mem} {L : LMem} {d nl ns : Nat} (C : Cx p s args m meth c cX4_passPeriods 5 yX4_passPeriods.cls (Option.none : Option Jvm.ClassFile.FieldType) g) (h : LC nl V) (hs : SC ns V) (hh : hdR nl ns V) (hz : rateS ns V) (kx : J p l e (RM 3) s m args below meth c 5 g 0 0 Q (cPSs (nI d) V (ns)) L 97 [some (.ref (ad g 0)), some (.int (nI d)), some (.int (nI (ns))), none, none] []) : ∀ j i : Nat, i + j = ns → J p l e (RM 3) s m args below meth c 5 g 0 0 Q (cPSs (nI d) V i) L 43 [some (.ref (ad g 0)), some (.int (nI d)), some (.int (nI i)), none, none] [] := by
  intro j
  induction j with
  | zero =>
    intro i hi
    have hi : ns = i := by omega
    subst hi
    refine j_iload_n C dX4_passPeriods_43 rfl rfl ?_
    refine j_aload_n C dX4_passPeriods_44 rfl rfl ?_
    refine jg_State_subleaseCount C (by first | assumption | exact kd_sums (by assumption) | exact kd_st1 (by assumption) | exact kd_st2 (by assumption) | exact kd_ls (by first | assumption | exact kdL (by omega) | exact kdQ (by omega) | rfl) (by assumption) | exact kd_sb (by first | assumption | exact kdL (by omega) | exact kdQ (by omega) | rfl) (by assumption) | exact kd_sv (by assumption) | exact kdL (by omega) | exact kdQ (by omega) | rfl) qf_X4_29 dX4_passPeriods_45 ?_
    refine j_tope (y := nI ns) (by rw [cPSs_o hh h.2 _ (by omega) (by omega)]; exact hs.1) ?_
    refine j_icmp_ge (tgt := 97) C dX4_passPeriods_48 (by decide) (fun h48 => ?_) (fun h48 => absurd (nI_le (by omega) (by have := hs.2; omega)) h48)
    exact kx
  | succ j ih =>
    intro i hi
    have h8 := h.2
    have h12 := hs.2
    obtain ⟨k, hk, ek⟩ := hh i (by omega)
    have e0 : cPSs (nI d) V i 0 = V 0 := cPSs_o hh h8 i (by omega) (by omega)
    have e1 : cPSs (nI d) V i (19 + i) = V (19 + i) := cPSs_o hh h8 i (by omega) (by omega)
    have e2 : cPSs (nI d) V i (19 + i) 0 = nI k := by rw [e1]; exact ek
    refine j_iload_n C dX4_passPeriods_43 rfl rfl ?_
    refine j_aload_n C dX4_passPeriods_44 rfl rfl ?_
    refine jg_State_subleaseCount C (by first | assumption | exact kd_sums (by assumption) | exact kd_st1 (by assumption) | exact kd_st2 (by assumption) | exact kd_ls (by first | assumption | exact kdL (by omega) | exact kdQ (by omega) | rfl) (by assumption) | exact kd_sb (by first | assumption | exact kdL (by omega) | exact kdQ (by omega) | rfl) (by assumption) | exact kd_sv (by assumption) | exact kdL (by omega) | exact kdQ (by omega) | rfl) qf_X4_29 dX4_passPeriods_45 ?_
    refine j_tope (y := nI ns) (by rw [cPSs_o hh h.2 _ (by omega) (by omega)]; exact hs.1) ?_
    refine j_icmp_ge (tgt := 97) C dX4_passPeriods_48 (by decide) (fun h48 => absurd h48 (nI_ge (by omega) (by have := hs.2; omega))) (fun h48 => ?_)
    refine j_aload_n C dX4_passPeriods_51 rfl rfl ?_
    refine j_iload_n C dX4_passPeriods_52 rfl rfl ?_
    refine j_callV1r C (oa_X4 (by first | assumption | exact kd_sums (by assumption) | exact kd_st1 (by assumption) | exact kd_st2 (by assumption) | exact kd_ls (by first | assumption | exact kdL (by omega) | exact kdQ (by omega) | rfl) (by assumption) | exact kd_sb (by first | assumption | exact kdL (by omega) | exact kdQ (by omega) | rfl) (by assumption) | exact kd_sv (by assumption) | exact kdL (by omega) | exact kdQ (by omega) | rfl)) rfl rfl (at_S (ns := ns) ⟨by rw [e0]; exact hs.1, h12⟩ (by omega)) qm_X4_43 qi_X4_subleaseAt qs_X4_subleaseAt qn_X4 qc_X4_subleaseAt fit_X4_subleaseAt ⟨Nat.le_of_ble_eq_true rfl, Nat.le_of_ble_eq_true rfl, Nat.le_of_ble_eq_true rfl, Nat.le_of_ble_eq_true rfl⟩ (Nat.le_of_ble_eq_true rfl) dX4_passPeriods_53 ?_
    refine j_ast3 C dX4_passPeriods_56 rfl (Nat.le_of_ble_eq_true rfl) rfl ?_
    refine j_aload_n C dX4_passPeriods_57 rfl rfl ?_
    refine j_ifnonnull (tgt := 65) C dX4_passPeriods_58 (by decide) ?_
    refine j_aload_n C dX4_passPeriods_65 rfl rfl ?_
    refine j_aload_n C dX4_passPeriods_66 rfl rfl ?_
    refine jg_Sublease_head C (by first | assumption | exact kd_sums (by assumption) | exact kd_st1 (by assumption) | exact kd_st2 (by assumption) | exact kd_ls (by first | assumption | exact kdL (by omega) | exact kdQ (by omega) | rfl) (by assumption) | exact kd_sb (by first | assumption | exact kdL (by omega) | exact kdQ (by omega) | rfl) (by assumption) | exact kd_sv (by assumption) | exact kdL (by omega) | exact kdQ (by omega) | rfl) qf_X4_54 dX4_passPeriods_67 ?_
    refine j_tope (y := nI k) (by exact e2) ?_
    refine j_callV1r C (oa_X4 (by first | assumption | exact kd_sums (by assumption) | exact kd_st1 (by assumption) | exact kd_st2 (by assumption) | exact kd_ls (by first | assumption | exact kdL (by omega) | exact kdQ (by omega) | rfl) (by assumption) | exact kd_sb (by first | assumption | exact kdL (by omega) | exact kdQ (by omega) | rfl) (by assumption) | exact kd_sv (by assumption) | exact kdL (by omega) | exact kdQ (by omega) | rfl)) rfl rfl (at_L (nl := nl) ⟨by rw [e0]; exact h.1, h8⟩ hk) qm_X4_35 qi_X4_leaseAt qs_X4_leaseAt qn_X4 qc_X4_leaseAt fit_X4_leaseAt ⟨Nat.le_of_ble_eq_true rfl, Nat.le_of_ble_eq_true rfl, Nat.le_of_ble_eq_true rfl, Nat.le_of_ble_eq_true rfl⟩ (Nat.le_of_ble_eq_true rfl) dX4_passPeriods_70 ?_
    refine j_ast4 C dX4_passPeriods_73 (Nat.le_of_ble_eq_true rfl) rfl ?_
    refine j_aload_n C dX4_passPeriods_75 rfl rfl ?_
    refine j_ifnull C dX4_passPeriods_76 ?_
    refine j_aload C dX4_passPeriods_79 rfl ?_
    refine j_ifnull C dX4_passPeriods_81 ?_
    refine j_aload_n C dX4_passPeriods_84 rfl rfl ?_
    refine j_iload_n C dX4_passPeriods_85 rfl rfl ?_
    refine j_aload C dX4_passPeriods_86 rfl ?_
    refine j_callV2v C (oa_X5 (by first | assumption | exact kd_sums (by assumption) | exact kd_st1 (by assumption) | exact kd_st2 (by assumption) | exact kd_ls (by first | assumption | exact kdL (by omega) | exact kdQ (by omega) | rfl) (by assumption) | exact kd_sb (by first | assumption | exact kdL (by omega) | exact kdQ (by omega) | rfl) (by assumption) | exact kd_sv (by assumption) | exact kdL (by omega) | exact kdQ (by omega) | rfl)) rfl rfl (c_X5_passPeriods (a := 3 + k) (kdQ (by omega)) (kdL (by omega)) (by rw [e1]; exact hz i (by omega))) qm_X4_105 qi_X5_passPeriods qs_X5_passPeriods qn_X5 qc_X5_passPeriods fit_X5_passPeriods ⟨Nat.le_of_ble_eq_true rfl, Nat.le_of_ble_eq_true rfl, Nat.le_of_ble_eq_true rfl, Nat.le_of_ble_eq_true rfl⟩ (Nat.le_of_ble_eq_true rfl) dX4_passPeriods_88 ?_
    refine j_incN2 (q := 1) C dX4_passPeriods_91 (by decide) (Nat.le_of_ble_eq_true rfl) rfl ?_
    refine j_goto (tgt := 43) C dX4_passPeriods_94 (by decide) ?_
    refine j_mem (V' := (cPSs (nI d) V (i + 1))) (L' := L) (by show sPassH i (nI d) (cPSs (nI d) V i) = _; unfold sPassH; rw [e2, nI_clN (by omega)]) rfl ?_
    exact j_dr (lv' := [some (.ref (ad g 0)), some (.int (nI d)), some (.int (nI (i + 1))), none, none]) (And.intro rfl (And.intro rfl (And.intro rfl True.intro))) (ih (i + 1) (by omega))
set_option maxHeartbeats 4000000 in
theorem c_X4_passPeriods {l : Launch} {g : GC} {V : Mem} {L : LMem} {d nl ns : Nat} (h : LC nl V) (hs : SC ns V) (hp : ∀ k, k < nl → perR (V (3 + k) 1)) (hz : ∀ k, k < nl → rateR (V (3 + k) 2)) (hh : hdR nl ns V) (hzs : rateS ns V) (hd : d ≤ 2000) : MC l yX4_passPeriods cX4_passPeriods 5 (Option.none : Option Jvm.ClassFile.FieldType) 3 g V L [.ref (ad g 0), .int (nI d)] none (cPassSt nl ns d V) L := by
  refine MC.of [some (.ref (ad g 0)), some (.int (nI d)), none, none, none] (by decide +kernel) rfl (Nat.le_of_ble_eq_true rfl) (fun p e s m args below meth c C => ?_)
  have h8 := h.2
  have e3 : ∀ r, 0 < r → mset V 0 4 (V 0 4 + nI d) r = V r := fun r hr => mset_o (by omega)
  have eW : ∀ r, (r = 0 ∨ 19 ≤ r) → cPLs d (mset V 0 4 (V 0 4 + nI d)) nl r = mset V 0 4 (V 0 4 + nI d) r := fun r hr => cPLs_o nl h8 (by omega)
  have hhW : hdR nl ns (cPLs d (mset V 0 4 (V 0 4 + nI d)) nl) := fun q hq => by rw [eW _ (by omega), e3 _ (by omega)]; exact hh q hq
  refine j_aload_n C dX4_passPeriods_0 rfl rfl ?_
  refine j_dup C dX4_passPeriods_1 rfl ?_
  refine jg_State_period C (by first | assumption | exact kd_sums (by assumption) | exact kd_st1 (by assumption) | exact kd_st2 (by assumption) | exact kd_ls (by first | assumption | exact kdL (by omega) | exact kdQ (by omega) | rfl) (by assumption) | exact kd_sb (by first | assumption | exact kdL (by omega) | exact kdQ (by omega) | rfl) (by assumption) | exact kd_sv (by assumption) | exact kdL (by omega) | exact kdQ (by omega) | rfl) qf_X4_32 dX4_passPeriods_2 ?_
  refine j_iload_n C dX4_passPeriods_5 rfl rfl ?_
  refine j_iadd C dX4_passPeriods_6 ?_
  refine jp_State_period C (by first | assumption | exact kd_sums (by assumption) | exact kd_st1 (by assumption) | exact kd_st2 (by assumption) | exact kd_ls (by first | assumption | exact kdL (by omega) | exact kdQ (by omega) | rfl) (by assumption) | exact kd_sb (by first | assumption | exact kdL (by omega) | exact kdQ (by omega) | rfl) (by assumption) | exact kd_sv (by assumption) | exact kdL (by omega) | exact kdQ (by omega) | rfl) qf_X4_32 dX4_passPeriods_7 ?_
  refine j_iconst (v := (nI 0)) C dX4_passPeriods_10 (by decide) ?_
  refine j_ist2 C dX4_passPeriods_11 rfl (Nat.le_of_ble_eq_true rfl) rfl ?_
  refine lp_X4_passL C ⟨(mset_ne (by omega)).trans h.1, h8⟩ (fun k hk => by rw [e3 _ (by omega)]; exact hp k hk) (fun k hk => by rw [e3 _ (by omega)]; exact hz k hk) hd ?_ nl 0 (by omega)
  refine j_iconst (v := (nI 0)) C dX4_passPeriods_41 (by decide) ?_
  refine j_ist2 C dX4_passPeriods_42 rfl (Nat.le_of_ble_eq_true rfl) rfl ?_
  refine lp_X4_passS C (nl := nl) ⟨by rw [eW _ (by omega)]; exact (mset_ne (by omega)).trans h.1, h8⟩ ⟨by rw [eW _ (by omega)]; exact (mset_ne (by omega)).trans hs.1, hs.2⟩ hhW (fun q hq => by rw [eW _ (by omega), e3 _ (by omega)]; exact hzs q hq) ?_ ns 0 (by omega)
  exact j_vret C dX4_passPeriods_97 rfl (by rfl) (by rfl)
def cCutS (k q : Nat) (W : Mem) : Mem :=
  if runU W k q = true then
    let W1 := mset W (19 + q) 3 (mn (W (19 + q) 3) (W (3 + k) 1))
    mset W1 (19 + q) 5 (wor (W1 (19 + q) 2) (W1 (19 + q) 3) (W1 (19 + q) 4))
  else W
def cCut (k : Nat) (V : Mem) : Nat → Mem
  | 0 => V
  | i + 1 => cCutS k i (cCut k V i)
theorem cCutS_o {k q r : Nat} {W : Mem} (h : r ≠ 19 + q) : cCutS k q W r = W r := by
  unfold cCutS
  split
  · show mset (mset _ _ _ _) _ _ _ r = _
    rw [mset_o h, mset_o h]
  · rfl
theorem cCut_o {k r : Nat} {V : Mem} : ∀ i, (r < 19 ∨ 19 + i ≤ r) → cCut k V i r = V r
  | 0, _ => rfl
  | i + 1, h => (cCutS_o (by omega)).trans (cCut_o i (by omega))
def cCutO (k ns : Nat) (V : Mem) : Mem := cCut k (cMv (3 + k) 14 (cLoss V ns k (V (3 + k) 1)) V) ns
set_option maxHeartbeats 4000000 in
theorem lp_X4_cutOff {p : Program} {l : Launch} {e : Env} {s : State} {m : MethodId} {args : Array Value} {below : List Frame} {meth : Method} {c : Code} {g : GC} {Q : State → Prop} {V : Mem} {L : LMem} {k ns : Nat} (C : Cx p s args m meth c cX4_cutOff 5 yX4_cutOff.cls (Option.none : Option Jvm.ClassFile.FieldType) g) (hs : SC ns V) (hk8 : k < 8) (hz : rateS ns V) (kx : J p l e (RM 4) s m args below meth c 5 g 0 0 Q (cCut k V (ns)) L 84 [some (.ref (ad g 0)), some (.int (nI k)), some (.ref (ad g (3 + k))), some (.int (nI (ns))), none] []) : ∀ j i : Nat, i + j = ns → J p l e (RM 4) s m args below meth c 5 g 0 0 Q (cCut k V i) L 17 [some (.ref (ad g 0)), some (.int (nI k)), some (.ref (ad g (3 + k))), some (.int (nI i)), none] [] := by
  intro j
  induction j with
  | zero =>
    intro i hi
    have hi : ns = i := by omega
    subst hi
    refine j_iload_n C dX4_cutOff_17 rfl rfl ?_
    refine j_aload_n C dX4_cutOff_18 rfl rfl ?_
    refine jg_State_subleaseCount C (by first | assumption | exact kd_sums (by assumption) | exact kd_st1 (by assumption) | exact kd_st2 (by assumption) | exact kd_ls (by first | assumption | exact kdL (by omega) | exact kdQ (by omega) | rfl) (by assumption) | exact kd_sb (by first | assumption | exact kdL (by omega) | exact kdQ (by omega) | rfl) (by assumption) | exact kd_sv (by assumption) | exact kdL (by omega) | exact kdQ (by omega) | rfl) qf_X4_29 dX4_cutOff_19 ?_
    refine j_tope (y := nI ns) (by rw [cCut_o _ (by omega)]; exact hs.1) ?_
    refine j_icmp_ge (tgt := 84) C dX4_cutOff_22 (by decide) (fun h22 => ?_) (fun h22 => absurd (nI_le (by omega) (by have := hs.2; omega)) h22)
    exact kx
  | succ j ih =>
    intro i hi
    have h12 := hs.2
    have e0 : cCut k V i 0 = V 0 := cCut_o i (by omega)
    have e1 : cCut k V i (19 + i) = V (19 + i) := cCut_o i (by omega)
    refine j_iload_n C dX4_cutOff_17 rfl rfl ?_
    refine j_aload_n C dX4_cutOff_18 rfl rfl ?_
    refine jg_State_subleaseCount C (by first | assumption | exact kd_sums (by assumption) | exact kd_st1 (by assumption) | exact kd_st2 (by assumption) | exact kd_ls (by first | assumption | exact kdL (by omega) | exact kdQ (by omega) | rfl) (by assumption) | exact kd_sb (by first | assumption | exact kdL (by omega) | exact kdQ (by omega) | rfl) (by assumption) | exact kd_sv (by assumption) | exact kdL (by omega) | exact kdQ (by omega) | rfl) qf_X4_29 dX4_cutOff_19 ?_
    refine j_tope (y := nI ns) (by rw [cCut_o _ (by omega)]; exact hs.1) ?_
    refine j_icmp_ge (tgt := 84) C dX4_cutOff_22 (by decide) (fun h22 => absurd h22 (nI_ge (by omega) (by have := hs.2; omega))) (fun h22 => ?_)
    refine j_aload_n C dX4_cutOff_25 rfl rfl ?_
    refine j_iload_n C dX4_cutOff_26 rfl rfl ?_
    refine j_callV1r C (oa_X4 (by first | assumption | exact kd_sums (by assumption) | exact kd_st1 (by assumption) | exact kd_st2 (by assumption) | exact kd_ls (by first | assumption | exact kdL (by omega) | exact kdQ (by omega) | rfl) (by assumption) | exact kd_sb (by first | assumption | exact kdL (by omega) | exact kdQ (by omega) | rfl) (by assumption) | exact kd_sv (by assumption) | exact kdL (by omega) | exact kdQ (by omega) | rfl)) rfl rfl (at_S (ns := ns) ⟨by rw [e0]; exact hs.1, h12⟩ (by omega)) qm_X4_43 qi_X4_subleaseAt qs_X4_subleaseAt qn_X4 qc_X4_subleaseAt fit_X4_subleaseAt ⟨Nat.le_of_ble_eq_true rfl, Nat.le_of_ble_eq_true rfl, Nat.le_of_ble_eq_true rfl, Nat.le_of_ble_eq_true rfl⟩ (Nat.le_of_ble_eq_true rfl) dX4_cutOff_27 ?_
    refine j_ast4 C dX4_cutOff_30 (Nat.le_of_ble_eq_true rfl) rfl ?_
    refine j_aload C dX4_cutOff_32 rfl ?_
    refine j_ifnull C dX4_cutOff_34 ?_
    refine j_aload C dX4_cutOff_37 rfl ?_
    refine j_iload_n C dX4_cutOff_39 rfl rfl ?_
    refine j_callV1r C (oa_X5 (by first | assumption | exact kd_sums (by assumption) | exact kd_st1 (by assumption) | exact kd_st2 (by assumption) | exact kd_ls (by first | assumption | exact kdL (by omega) | exact kdQ (by omega) | rfl) (by assumption) | exact kd_sb (by first | assumption | exact kdL (by omega) | exact kdQ (by omega) | rfl) (by assumption) | exact kd_sv (by assumption) | exact kdL (by omega) | exact kdQ (by omega) | rfl)) rfl rfl (c_X5_runsUnder (kdQ (by omega))) qm_X4_114 qi_X5_runsUnder qs_X5_runsUnder qn_X5 qc_X5_runsUnder fit_X5_runsUnder ⟨Nat.le_of_ble_eq_true rfl, Nat.le_of_ble_eq_true rfl, Nat.le_of_ble_eq_true rfl, Nat.le_of_ble_eq_true rfl⟩ (Nat.le_of_ble_eq_true rfl) dX4_cutOff_40 ?_
    refine j_if_eq (tgt := 78) C dX4_cutOff_43 (by decide) (fun h43 => ?_) (fun h43 => ?_)
    · replace h43 := b2i_0 h43
      refine j_incN3 (q := 1) C dX4_cutOff_78 (by decide) (Nat.le_of_ble_eq_true rfl) rfl ?_
      refine j_goto (tgt := 17) C dX4_cutOff_81 (by decide) ?_
      refine j_mem (V' := (cCut k V (i + 1))) (L' := L) (by show cCutS k i (cCut k V i) = _; unfold cCutS; first | (rw [if_pos (runU_t h43)]; rfl) | rw [if_neg (runU_f h43)]) rfl ?_
      exact j_dr (lv' := [some (.ref (ad g 0)), some (.int (nI k)), some (.ref (ad g (3 + k))), some (.int (nI (i + 1))), none]) (And.intro rfl (And.intro rfl (And.intro rfl (And.intro rfl True.intro)))) (ih (i + 1) (by omega))
    · replace h43 := b2i_1 h43
      refine j_aload C dX4_cutOff_46 rfl ?_
      refine j_aload C dX4_cutOff_48 rfl ?_
      refine jg_Sublease_periods C (by first | assumption | exact kd_sums (by assumption) | exact kd_st1 (by assumption) | exact kd_st2 (by assumption) | exact kd_ls (by first | assumption | exact kdL (by omega) | exact kdQ (by omega) | rfl) (by assumption) | exact kd_sb (by first | assumption | exact kdL (by omega) | exact kdQ (by omega) | rfl) (by assumption) | exact kd_sv (by assumption) | exact kdL (by omega) | exact kdQ (by omega) | rfl) qf_X4_63 dX4_cutOff_50 ?_
      refine j_aload_n C dX4_cutOff_53 rfl rfl ?_
      refine jg_Lease_periods C (by first | assumption | exact kd_sums (by assumption) | exact kd_st1 (by assumption) | exact kd_st2 (by assumption) | exact kd_ls (by first | assumption | exact kdL (by omega) | exact kdQ (by omega) | rfl) (by assumption) | exact kd_sb (by first | assumption | exact kdL (by omega) | exact kdQ (by omega) | rfl) (by assumption) | exact kd_sv (by assumption) | exact kdL (by omega) | exact kdQ (by omega) | rfl) qf_X4_84 dX4_cutOff_54 ?_
      refine j_mmin C qm_X4_118 qt_J9_min_7cf53 qn_J9 qc_J9_min_7cf53 (Nat.le_of_ble_eq_true rfl) (Nat.le_of_ble_eq_true rfl) (Nat.le_of_ble_eq_true rfl) (Nat.le_of_ble_eq_true rfl) dX4_cutOff_57 ?_
      refine jp_Sublease_periods C (by first | assumption | exact kd_sums (by assumption) | exact kd_st1 (by assumption) | exact kd_st2 (by assumption) | exact kd_ls (by first | assumption | exact kdL (by omega) | exact kdQ (by omega) | rfl) (by assumption) | exact kd_sb (by first | assumption | exact kdL (by omega) | exact kdQ (by omega) | rfl) (by assumption) | exact kd_sv (by assumption) | exact kdL (by omega) | exact kdQ (by omega) | rfl) qf_X4_63 dX4_cutOff_60 ?_
      refine j_aload C dX4_cutOff_63 rfl ?_
      refine j_aload C dX4_cutOff_65 rfl ?_
      refine j_aload C dX4_cutOff_67 rfl ?_
      refine jg_Sublease_periods C (by first | assumption | exact kd_sums (by assumption) | exact kd_st1 (by assumption) | exact kd_st2 (by assumption) | exact kd_ls (by first | assumption | exact kdL (by omega) | exact kdQ (by omega) | rfl) (by assumption) | exact kd_sb (by first | assumption | exact kdL (by omega) | exact kdQ (by omega) | rfl) (by assumption) | exact kd_sv (by assumption) | exact kdL (by omega) | exact kdQ (by omega) | rfl) qf_X4_63 dX4_cutOff_69 ?_
      refine j_callV1r C (oa_X5 (by first | assumption | exact kd_sums (by assumption) | exact kd_st1 (by assumption) | exact kd_st2 (by assumption) | exact kd_ls (by first | assumption | exact kdL (by omega) | exact kdQ (by omega) | rfl) (by assumption) | exact kd_sb (by first | assumption | exact kdL (by omega) | exact kdQ (by omega) | rfl) (by assumption) | exact kd_sv (by assumption) | exact kdL (by omega) | exact kdQ (by omega) | rfl)) rfl rfl (c_X5_receivableWith (kdQ (by omega)) (by rw [mset_ne (by omega), e1]; exact hz i (by omega))) qm_X4_70 qi_X5_receivableWith qs_X5_receivableWith qn_X5 qc_X5_receivableWith fit_X5_receivableWith ⟨Nat.le_of_ble_eq_true rfl, Nat.le_of_ble_eq_true rfl, Nat.le_of_ble_eq_true rfl, Nat.le_of_ble_eq_true rfl⟩ (Nat.le_of_ble_eq_true rfl) dX4_cutOff_72 ?_
      refine jp_Sublease_receivable C (by first | assumption | exact kd_sums (by assumption) | exact kd_st1 (by assumption) | exact kd_st2 (by assumption) | exact kd_ls (by first | assumption | exact kdL (by omega) | exact kdQ (by omega) | rfl) (by assumption) | exact kd_sb (by first | assumption | exact kdL (by omega) | exact kdQ (by omega) | rfl) (by assumption) | exact kd_sv (by assumption) | exact kdL (by omega) | exact kdQ (by omega) | rfl) qf_X4_74 dX4_cutOff_75 ?_
      refine j_incN3 (q := 1) C dX4_cutOff_78 (by decide) (Nat.le_of_ble_eq_true rfl) rfl ?_
      refine j_goto (tgt := 17) C dX4_cutOff_81 (by decide) ?_
      refine j_mem (V' := (cCut k V (i + 1))) (L' := L) (by show cCutS k i (cCut k V i) = _; unfold cCutS; first | (rw [if_pos (runU_t h43)]; rfl) | rw [if_neg (runU_f h43)]) rfl ?_
      exact j_dr (lv' := [some (.ref (ad g 0)), some (.int (nI k)), some (.ref (ad g (3 + k))), some (.int (nI (i + 1))), none]) (And.intro rfl (And.intro rfl (And.intro rfl (And.intro rfl True.intro)))) (ih (i + 1) (by omega))
set_option maxHeartbeats 4000000 in
theorem c_X4_cutOff {l : Launch} {g : GC} {V : Mem} {L : LMem} {k ns : Nat} (hs : SC ns V) (hk8 : k < 8) (hz : rateS ns V) : MC l yX4_cutOff cX4_cutOff 5 (Option.none : Option Jvm.ClassFile.FieldType) 4 g V L [.ref (ad g 0), .int (nI k), .ref (ad g (3 + k))] none (cCutO k ns V) L := by
  refine MC.of [some (.ref (ad g 0)), some (.int (nI k)), some (.ref (ad g (3 + k))), none, none] (by decide +kernel) rfl (Nat.le_of_ble_eq_true rfl) (fun p e s m args below meth c C => ?_)
  have hkk := kdL hk8
  have eM : ∀ r, (r = 0 ∨ 19 ≤ r) → cMv (3 + k) 14 (cLoss V ns k (V (3 + k) 1)) V r = V r := fun r hr => cMv_o (by omega)
  refine j_aload_n C dX4_cutOff_0 rfl rfl ?_
  refine j_bipush (v := (nI 14)) C dX4_cutOff_1 (by decide) ?_
  refine j_aload_n C dX4_cutOff_3 rfl rfl ?_
  refine j_iload_n C dX4_cutOff_4 rfl rfl ?_
  refine j_aload_n C dX4_cutOff_5 rfl rfl ?_
  refine jg_Lease_periods C (by first | assumption | exact kd_sums (by assumption) | exact kd_st1 (by assumption) | exact kd_st2 (by assumption) | exact kd_ls (by first | assumption | exact kdL (by omega) | exact kdQ (by omega) | rfl) (by assumption) | exact kd_sb (by first | assumption | exact kdL (by omega) | exact kdQ (by omega) | rfl) (by assumption) | exact kd_sv (by assumption) | exact kdL (by omega) | exact kdQ (by omega) | rfl) qf_X4_84 dX4_cutOff_6 ?_
  refine j_callV2r C (oa_X4 (by first | assumption | exact kd_sums (by assumption) | exact kd_st1 (by assumption) | exact kd_st2 (by assumption) | exact kd_ls (by first | assumption | exact kdL (by omega) | exact kdQ (by omega) | rfl) (by assumption) | exact kd_sb (by first | assumption | exact kdL (by omega) | exact kdQ (by omega) | rfl) (by assumption) | exact kd_sv (by assumption) | exact kdL (by omega) | exact kdQ (by omega) | rfl)) rfl rfl (c_X4_lossByCutOff hs hz) qm_X4_108 qi_X4_lossByCutOff qs_X4_lossByCutOff qn_X4 qc_X4_lossByCutOff fit_X4_lossByCutOff ⟨Nat.le_of_ble_eq_true rfl, Nat.le_of_ble_eq_true rfl, Nat.le_of_ble_eq_true rfl, Nat.le_of_ble_eq_true rfl⟩ (Nat.le_of_ble_eq_true rfl) dX4_cutOff_9 ?_
  refine j_callV2v C (oa_X2 (by first | assumption | exact kd_sums (by assumption) | exact kd_st1 (by assumption) | exact kd_st2 (by assumption) | exact kd_ls (by first | assumption | exact kdL (by omega) | exact kdQ (by omega) | rfl) (by assumption) | exact kd_sb (by first | assumption | exact kdL (by omega) | exact kdQ (by omega) | rfl) (by assumption) | exact kd_sv (by assumption) | exact kdL (by omega) | exact kdQ (by omega) | rfl)) rfl rfl (c_X2_move hkk (by omega)) qm_X4_111 qi_X2_move qs_X2_move qn_X2 qc_X2_move fit_X2_move ⟨Nat.le_of_ble_eq_true rfl, Nat.le_of_ble_eq_true rfl, Nat.le_of_ble_eq_true rfl, Nat.le_of_ble_eq_true rfl⟩ (Nat.le_of_ble_eq_true rfl) dX4_cutOff_12 ?_
  refine j_iconst (v := (nI 0)) C dX4_cutOff_15 (by decide) ?_
  refine j_ist3 C dX4_cutOff_16 rfl (Nat.le_of_ble_eq_true rfl) rfl ?_
  refine lp_X4_cutOff (V := cMv (3 + k) 14 (cLoss V ns k (V (3 + k) 1)) V) C ⟨by rw [eM _ (by omega)]; exact hs.1, hs.2⟩ hk8 (fun q hq => by rw [eM _ (by omega)]; exact hz q hq) ?_ ns 0 (by omega)
  exact j_vret C dX4_cutOff_84 rfl (by rfl) (by rfl)
