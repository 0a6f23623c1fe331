/-! THE CLASS: history, text, reader (laid by wip/whole/p27.py) -/
theorem rem6 : ∀ j, j < 12 → nI j - nI j / nI 6 * nI 6 = nI (j % 6) := by decide +kernel
set_option maxHeartbeats 4000000 in
theorem c_X0_slotAt {l : Launch} {g : GC} {V : Mem} {L : LMem} {o a : Nat} (ho : V 217 1 = nI o) (ho6 : o < 6) (ha : a < 6) : MC l yX0_slotAt cX0_slotAt 3 (some (.object "LeaseBook$State")) 0 g V L [.ref (ad g 217), .int (nI a)] (some (.ref (ad g (31 * ((o + a) % 6 + 1))))) V L := by
  refine MC.of [some (.ref (ad g 217)), some (.int (nI a)), none] (by decide +kernel) rfl (Nat.le_of_ble_eq_true rfl) (fun p e s m args below meth c C => ?_)
  refine j_aload_n C dX0_slotAt_0 rfl rfl ?_
  refine jg_History_oldest C (by first | assumption | exact kd_sums (by assumption) | exact kd_st1 (by assumption) | exact kd_st2 (by assumption) | exact kd_ls (by first | assumption | exact kdL (by omega) | exact kdQ (by omega) | rfl) (by assumption) | exact kd_sb (by first | assumption | exact kdL (by omega) | exact kdQ (by omega) | rfl) (by assumption) | exact kd_sv (by assumption) | exact kdL (by omega) | exact kdQ (by omega) | rfl) qf_X0_22 dX0_slotAt_1 ?_
  refine j_tope (y := nI o) (by exact ho) ?_
  refine j_iload_n C dX0_slotAt_4 rfl rfl ?_
  refine j_iaddN C dX0_slotAt_5 ?_
  refine j_bipush (v := (nI 6)) C dX0_slotAt_6 (by decide) ?_
  refine j_irem C dX0_slotAt_8 (by decide) ?_
  refine j_tope (y := nI ((o + a) % 6)) (by exact rem6 (o + a) (by omega)) ?_
  refine j_ist2 C dX0_slotAt_9 rfl (Nat.le_of_ble_eq_true rfl) rfl ?_
  refine j_iload_n C dX0_slotAt_10 rfl rfl ?_
  refine j_if_lt (tgt := 36) C dX0_slotAt_11 (by decide) (fun h11 => absurd h11 (nI_pos (by omega))) (fun h11 => ?_)
  refine j_iload_n C dX0_slotAt_14 rfl rfl ?_
  refine j_if_lt (tgt := 36) C dX0_slotAt_15 (by decide) (fun h15 => absurd h15 (nI_pos (by omega))) (fun h15 => ?_)
  refine j_iload_n C dX0_slotAt_18 rfl rfl ?_
  refine j_aload_n C dX0_slotAt_19 rfl rfl ?_
  refine jg_History_saved C (by first | assumption | exact kd_sums (by assumption) | exact kd_st1 (by assumption) | exact kd_st2 (by assumption) | exact kd_ls (by first | assumption | exact kdL (by omega) | exact kdQ (by omega) | rfl) (by assumption) | exact kd_sb (by first | assumption | exact kdL (by omega) | exact kdQ (by omega) | rfl) (by assumption) | exact kd_sv (by assumption) | exact kdL (by omega) | exact kdQ (by omega) | rfl) qf_X0_11 dX0_slotAt_20 ?_
  refine j_alen7 C (by first | assumption | exact kd_sums (by assumption) | exact kd_st1 (by assumption) | exact kd_st2 (by assumption) | exact kd_ls (by first | assumption | exact kdL (by omega) | exact kdQ (by omega) | rfl) (by assumption) | exact kd_sb (by first | assumption | exact kdL (by omega) | exact kdQ (by omega) | rfl) (by assumption) | exact kd_sv (by assumption) | exact kdL (by omega) | exact kdQ (by omega) | rfl) rfl dX0_slotAt_23 ?_
  refine j_icmp_ge (tgt := 36) C dX0_slotAt_24 (by decide) (fun h24 => absurd h24 (nI_ge (by omega) (by omega))) (fun h24 => ?_)
  refine j_aload_n C dX0_slotAt_27 rfl rfl ?_
  refine jg_History_saved C (by first | assumption | exact kd_sums (by assumption) | exact kd_st1 (by assumption) | exact kd_st2 (by assumption) | exact kd_ls (by first | assumption | exact kdL (by omega) | exact kdQ (by omega) | rfl) (by assumption) | exact kd_sb (by first | assumption | exact kdL (by omega) | exact kdQ (by omega) | rfl) (by assumption) | exact kd_sv (by assumption) | exact kdL (by omega) | exact kdQ (by omega) | rfl) qf_X0_11 dX0_slotAt_28 ?_
  refine j_iload_n C dX0_slotAt_31 rfl rfl ?_
  refine j_aald7 C (by first | assumption | exact kd_sums (by assumption) | exact kd_st1 (by assumption) | exact kd_st2 (by assumption) | exact kd_ls (by first | assumption | exact kdL (by omega) | exact kdQ (by omega) | rfl) (by assumption) | exact kd_sb (by first | assumption | exact kdL (by omega) | exact kdQ (by omega) | rfl) (by assumption) | exact kd_sv (by assumption) | exact kdL (by omega) | exact kdQ (by omega) | rfl) rfl (by have := Nat.mod_lt (o + a) (show 0 < 6 by omega); omega) dX0_slotAt_32 ?_
  refine j_goto (tgt := 37) C dX0_slotAt_33 (by decide) ?_
  exact j_aret C dX0_slotAt_37 (by rfl) (by rfl) (by rfl)
theorem kdS7 (j : Nat) (h : j ≤ 6) : kd (31 * j) = 0 := by unfold kd; (repeat' split) <;> omega
abbrev slR (o a : Nat) : Nat := 31 * ((o + a) % 6 + 1)
theorem slR_k {o a : Nat} : kd (slR o a) = 0 ∧ ¬ 0 = slR o a ∧ ¬ slR o a = 0 := ⟨kdS7 _ (by have := Nat.mod_lt (o + a) (show 0 < 6 by omega); omega), by unfold slR; omega, by unfold slR; omega⟩
def hSave (o n nl ns : Nat) (V : Mem) : Mem := mset (cpySt (slR o n) 0 nl ns V) 217 2 (nI (n + 1))
def hSave6 (o nl ns : Nat) (V : Mem) : Mem := hSave ((o + 1) % 6) 5 nl ns (mset (mset V 217 1 (nI ((o + 1) % 6))) 217 2 (nI 5))
def hRest (o n nl ns : Nat) (V : Mem) : Mem := mset (cpySt 0 (slR o n) nl ns V) 217 2 (nI n)
theorem cpySt_o {b b2 nl ns r : Nat} {V : Mem} (h8 : nl ≤ 8) (h12 : ns ≤ 12) (h : r < b ∨ b + 31 ≤ r) : cpySt b b2 nl ns V r = V r := by
  unfold cpySt
  rw [stS_o ns h12 (fun j hj => by omega), stL_o nl h8 (fun j hj => by omega), st3_o (by omega)]
set_option maxHeartbeats 4000000 in
theorem c_X0_save_lt {l : Launch} {g : GC} {V : Mem} {L : LMem} {o n nl ns : Nat} (ho : V 217 1 = nI o) (ho6 : o < 6) (hn : V 217 2 = nI n) (hn6 : n < 6) (e1 : V 0 2 = nI nl) (e2 : V 0 3 = nI ns) (h8 : nl ≤ 8) (h12 : ns ≤ 12)  : MC l yX0_save cX0_save 3 (Option.none : Option Jvm.ClassFile.FieldType) 2 g V L [.ref (ad g 217), .ref (ad g 0)] none (hSave o n nl ns V) L := by
  refine MC.of [some (.ref (ad g 217)), some (.ref (ad g 0)), none] (by decide +kernel) rfl (Nat.le_of_ble_eq_true rfl) (fun p e s m args below meth c C => ?_)
  have hm := Nat.mod_lt (o + n) (show 0 < 6 by omega)
  refine j_aload_n C dX0_save_0 rfl rfl ?_
  refine jg_History_size C (by first | assumption | exact kd_sums (by assumption) | exact kd_st1 (by assumption) | exact kd_st2 (by assumption) | exact kd_ls (by first | assumption | exact kdL (by omega) | exact kdQ (by omega) | rfl) (by assumption) | exact kd_sb (by first | assumption | exact kdL (by omega) | exact kdQ (by omega) | rfl) (by assumption) | exact kd_sv (by assumption) | exact kdL (by omega) | exact kdQ (by omega) | rfl) qf_X0_18 dX0_save_1 ?_
  refine j_tope (y := nI n) (by exact hn) ?_
  refine j_bipush (v := (nI 6)) C dX0_save_4 (by decide) ?_
  refine j_icmp_lt (tgt := 32) C dX0_save_6 (by decide) (fun h6 => ?_) (fun h6 => (by exact absurd (nI_lt hn6 (by omega)) h6))
  refine j_aload_n C dX0_save_32 rfl rfl ?_
  refine j_aload_n C dX0_save_33 rfl rfl ?_
  refine jg_History_size C (by first | assumption | exact kd_sums (by assumption) | exact kd_st1 (by assumption) | exact kd_st2 (by assumption) | exact kd_ls (by first | assumption | exact kdL (by omega) | exact kdQ (by omega) | rfl) (by assumption) | exact kd_sb (by first | assumption | exact kdL (by omega) | exact kdQ (by omega) | rfl) (by assumption) | exact kd_sv (by assumption) | exact kdL (by omega) | exact kdQ (by omega) | rfl) qf_X0_18 dX0_save_34 ?_
  refine j_tope (y := nI n) (by exact hn) ?_
  refine j_callV1r C (oa_X0 (by first | assumption | exact kd_sums (by assumption) | exact kd_st1 (by assumption) | exact kd_st2 (by assumption) | exact kd_ls (by first | assumption | exact kdL (by omega) | exact kdQ (by omega) | rfl) (by assumption) | exact kd_sb (by first | assumption | exact kdL (by omega) | exact kdQ (by omega) | rfl) (by assumption) | exact kd_sv (by assumption) | exact kdL (by omega) | exact kdQ (by omega) | rfl)) rfl rfl (c_X0_slotAt ho ho6 hn6) qm_X0_25 qi_X0_slotAt qs_X0_slotAt qn_X0 qc_X0_slotAt fit_X0_slotAt ⟨Nat.le_of_ble_eq_true rfl, Nat.le_of_ble_eq_true rfl, Nat.le_of_ble_eq_true rfl, Nat.le_of_ble_eq_true rfl⟩ (Nat.le_of_ble_eq_true rfl) dX0_save_37 ?_
  refine j_ast2 C dX0_save_40 rfl (Nat.le_of_ble_eq_true rfl) rfl ?_
  refine j_aload_n C dX0_save_41 rfl rfl ?_
  refine j_ifnull C dX0_save_42 ?_
  refine j_aload_n C dX0_save_45 rfl rfl ?_
  refine j_aload_n C dX0_save_46 rfl rfl ?_
  refine j_callV1v C (oa_X4 (by exact slR_k.1)) rfl rfl (c_X4_copyFrom slR_k.1 rfl slR_k.2.1 h8 h12 e1 e2) qm_X0_29 qi_X4_copyFrom qs_X4_copyFrom qn_X4 qc_X4_copyFrom fit_X4_copyFrom ⟨Nat.le_of_ble_eq_true rfl, Nat.le_of_ble_eq_true rfl, Nat.le_of_ble_eq_true rfl, Nat.le_of_ble_eq_true rfl⟩ (Nat.le_of_ble_eq_true rfl) dX0_save_47 ?_
  refine j_aload_n C dX0_save_50 rfl rfl ?_
  refine j_dup C dX0_save_51 rfl ?_
  refine jg_History_size C (by first | assumption | exact kd_sums (by assumption) | exact kd_st1 (by assumption) | exact kd_st2 (by assumption) | exact kd_ls (by first | assumption | exact kdL (by omega) | exact kdQ (by omega) | rfl) (by assumption) | exact kd_sb (by first | assumption | exact kdL (by omega) | exact kdQ (by omega) | rfl) (by assumption) | exact kd_sv (by assumption) | exact kdL (by omega) | exact kdQ (by omega) | rfl) qf_X0_18 dX0_save_52 ?_
  refine j_tope (y := nI n) (by rw [cpySt_o h8 h12 (by first | omega | (unfold slR; omega))]; exact hn) ?_
  refine j_iconst (v := (nI 1)) C dX0_save_55 (by decide) ?_
  refine j_iaddN C dX0_save_56 ?_
  refine jp_History_size C (by first | assumption | exact kd_sums (by assumption) | exact kd_st1 (by assumption) | exact kd_st2 (by assumption) | exact kd_ls (by first | assumption | exact kdL (by omega) | exact kdQ (by omega) | rfl) (by assumption) | exact kd_sb (by first | assumption | exact kdL (by omega) | exact kdQ (by omega) | rfl) (by assumption) | exact kd_sv (by assumption) | exact kdL (by omega) | exact kdQ (by omega) | rfl) qf_X0_18 dX0_save_57 ?_
  exact j_vret C dX0_save_60 rfl (by rfl) (by rfl)
set_option maxHeartbeats 4000000 in
theorem c_X0_save_6 {l : Launch} {g : GC} {V : Mem} {L : LMem} {o nl ns : Nat} (ho : V 217 1 = nI o) (ho6 : o < 6) (hn : V 217 2 = nI 6) (e1 : V 0 2 = nI nl) (e2 : V 0 3 = nI ns) (h8 : nl ≤ 8) (h12 : ns ≤ 12)  : MC l yX0_save cX0_save 3 (Option.none : Option Jvm.ClassFile.FieldType) 2 g V L [.ref (ad g 217), .ref (ad g 0)] none (hSave6 o nl ns V) L := by
  refine MC.of [some (.ref (ad g 217)), some (.ref (ad g 0)), none] (by decide +kernel) rfl (Nat.le_of_ble_eq_true rfl) (fun p e s m args below meth c C => ?_)
  have hm := Nat.mod_lt (o + 1) (show 0 < 6 by omega)
  have hm2 := Nat.mod_lt ((o + 1) % 6 + 5) (show 0 < 6 by omega)
  refine j_aload_n C dX0_save_0 rfl rfl ?_
  refine jg_History_size C (by first | assumption | exact kd_sums (by assumption) | exact kd_st1 (by assumption) | exact kd_st2 (by assumption) | exact kd_ls (by first | assumption | exact kdL (by omega) | exact kdQ (by omega) | rfl) (by assumption) | exact kd_sb (by first | assumption | exact kdL (by omega) | exact kdQ (by omega) | rfl) (by assumption) | exact kd_sv (by assumption) | exact kdL (by omega) | exact kdQ (by omega) | rfl) qf_X0_18 dX0_save_1 ?_
  refine j_tope (y := nI 6) (by exact hn) ?_
  refine j_bipush (v := (nI 6)) C dX0_save_4 (by decide) ?_
  refine j_icmp_lt (tgt := 32) C dX0_save_6 (by decide) (fun h6 => (by exact absurd h6 (by decide))) (fun h6 => ?_)
  refine j_aload_n C dX0_save_9 rfl rfl ?_
  refine j_aload_n C dX0_save_10 rfl rfl ?_
  refine jg_History_oldest C (by first | assumption | exact kd_sums (by assumption) | exact kd_st1 (by assumption) | exact kd_st2 (by assumption) | exact kd_ls (by first | assumption | exact kdL (by omega) | exact kdQ (by omega) | rfl) (by assumption) | exact kd_sb (by first | assumption | exact kdL (by omega) | exact kdQ (by omega) | rfl) (by assumption) | exact kd_sv (by assumption) | exact kdL (by omega) | exact kdQ (by omega) | rfl) qf_X0_22 dX0_save_11 ?_
  refine j_tope (y := nI o) (by exact ho) ?_
  refine j_iconst (v := (nI 1)) C dX0_save_14 (by decide) ?_
  refine j_iaddN C dX0_save_15 ?_
  refine j_bipush (v := (nI 6)) C dX0_save_16 (by decide) ?_
  refine j_irem C dX0_save_18 (by decide) ?_
  refine j_tope (y := nI ((o + 1) % 6)) (by exact rem6 (o + 1) (by omega)) ?_
  refine jp_History_oldest C (by first | assumption | exact kd_sums (by assumption) | exact kd_st1 (by assumption) | exact kd_st2 (by assumption) | exact kd_ls (by first | assumption | exact kdL (by omega) | exact kdQ (by omega) | rfl) (by assumption) | exact kd_sb (by first | assumption | exact kdL (by omega) | exact kdQ (by omega) | rfl) (by assumption) | exact kd_sv (by assumption) | exact kdL (by omega) | exact kdQ (by omega) | rfl) qf_X0_22 dX0_save_19 ?_
  refine j_aload_n C dX0_save_22 rfl rfl ?_
  refine j_dup C dX0_save_23 rfl ?_
  refine jg_History_size C (by first | assumption | exact kd_sums (by assumption) | exact kd_st1 (by assumption) | exact kd_st2 (by assumption) | exact kd_ls (by first | assumption | exact kdL (by omega) | exact kdQ (by omega) | rfl) (by assumption) | exact kd_sb (by first | assumption | exact kdL (by omega) | exact kdQ (by omega) | rfl) (by assumption) | exact kd_sv (by assumption) | exact kdL (by omega) | exact kdQ (by omega) | rfl) qf_X0_18 dX0_save_24 ?_
  refine j_tope (y := nI 6) (by exact (mset_ne (by omega)).trans hn) ?_
  refine j_iconst (v := (nI 1)) C dX0_save_27 (by decide) ?_
  refine j_isub C dX0_save_28 ?_
  refine j_tope (y := nI 5) (by decide) ?_
  refine jp_History_size C (by first | assumption | exact kd_sums (by assumption) | exact kd_st1 (by assumption) | exact kd_st2 (by assumption) | exact kd_ls (by first | assumption | exact kdL (by omega) | exact kdQ (by omega) | rfl) (by assumption) | exact kd_sb (by first | assumption | exact kdL (by omega) | exact kdQ (by omega) | rfl) (by assumption) | exact kd_sv (by assumption) | exact kdL (by omega) | exact kdQ (by omega) | rfl) qf_X0_18 dX0_save_29 ?_
  refine j_aload_n C dX0_save_32 rfl rfl ?_
  refine j_aload_n C dX0_save_33 rfl rfl ?_
  refine jg_History_size C (by first | assumption | exact kd_sums (by assumption) | exact kd_st1 (by assumption) | exact kd_st2 (by assumption) | exact kd_ls (by first | assumption | exact kdL (by omega) | exact kdQ (by omega) | rfl) (by assumption) | exact kd_sb (by first | assumption | exact kdL (by omega) | exact kdQ (by omega) | rfl) (by assumption) | exact kd_sv (by assumption) | exact kdL (by omega) | exact kdQ (by omega) | rfl) qf_X0_18 dX0_save_34 ?_
  refine j_tope (y := nI 5) (by rw [mset_at]) ?_
  refine j_callV1r C (oa_X0 (by first | assumption | exact kd_sums (by assumption) | exact kd_st1 (by assumption) | exact kd_st2 (by assumption) | exact kd_ls (by first | assumption | exact kdL (by omega) | exact kdQ (by omega) | rfl) (by assumption) | exact kd_sb (by first | assumption | exact kdL (by omega) | exact kdQ (by omega) | rfl) (by assumption) | exact kd_sv (by assumption) | exact kdL (by omega) | exact kdQ (by omega) | rfl)) rfl rfl (c_X0_slotAt (o := (o + 1) % 6) (by rw [mset_ne (by omega), mset_at]) hm (by omega)) qm_X0_25 qi_X0_slotAt qs_X0_slotAt qn_X0 qc_X0_slotAt fit_X0_slotAt ⟨Nat.le_of_ble_eq_true rfl, Nat.le_of_ble_eq_true rfl, Nat.le_of_ble_eq_true rfl, Nat.le_of_ble_eq_true rfl⟩ (Nat.le_of_ble_eq_true rfl) dX0_save_37 ?_
  refine j_ast2 C dX0_save_40 rfl (Nat.le_of_ble_eq_true rfl) rfl ?_
  refine j_aload_n C dX0_save_41 rfl rfl ?_
  refine j_ifnull C dX0_save_42 ?_
  refine j_aload_n C dX0_save_45 rfl rfl ?_
  refine j_aload_n C dX0_save_46 rfl rfl ?_
  refine j_callV1v C (oa_X4 (by exact slR_k.1)) rfl rfl (c_X4_copyFrom slR_k.1 rfl slR_k.2.1 h8 h12 ((mset_ne (by omega)).trans ((mset_ne (by omega)).trans e1)) ((mset_ne (by omega)).trans ((mset_ne (by omega)).trans e2))) qm_X0_29 qi_X4_copyFrom qs_X4_copyFrom qn_X4 qc_X4_copyFrom fit_X4_copyFrom ⟨Nat.le_of_ble_eq_true rfl, Nat.le_of_ble_eq_true rfl, Nat.le_of_ble_eq_true rfl, Nat.le_of_ble_eq_true rfl⟩ (Nat.le_of_ble_eq_true rfl) dX0_save_47 ?_
  refine j_aload_n C dX0_save_50 rfl rfl ?_
  refine j_dup C dX0_save_51 rfl ?_
  refine jg_History_size C (by first | assumption | exact kd_sums (by assumption) | exact kd_st1 (by assumption) | exact kd_st2 (by assumption) | exact kd_ls (by first | assumption | exact kdL (by omega) | exact kdQ (by omega) | rfl) (by assumption) | exact kd_sb (by first | assumption | exact kdL (by omega) | exact kdQ (by omega) | rfl) (by assumption) | exact kd_sv (by assumption) | exact kdL (by omega) | exact kdQ (by omega) | rfl) qf_X0_18 dX0_save_52 ?_
  refine j_tope (y := nI 5) (by rw [cpySt_o h8 h12 (by first | omega | (unfold slR; omega)), mset_at]) ?_
  refine j_iconst (v := (nI 1)) C dX0_save_55 (by decide) ?_
  refine j_iaddN C dX0_save_56 ?_
  refine jp_History_size C (by first | assumption | exact kd_sums (by assumption) | exact kd_st1 (by assumption) | exact kd_st2 (by assumption) | exact kd_ls (by first | assumption | exact kdL (by omega) | exact kdQ (by omega) | rfl) (by assumption) | exact kd_sb (by first | assumption | exact kdL (by omega) | exact kdQ (by omega) | rfl) (by assumption) | exact kd_sv (by assumption) | exact kdL (by omega) | exact kdQ (by omega) | rfl) qf_X0_18 dX0_save_57 ?_
  exact j_vret C dX0_save_60 rfl (by rfl) (by rfl)
