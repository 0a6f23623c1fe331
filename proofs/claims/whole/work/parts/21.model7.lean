/-! THE MODEL'S PUBLIC METHODS, 2 (laid by wip/whole/p20.py) -/
set_option maxHeartbeats 4000000 in
theorem lp_X7_areLeases {p : Program} {l : Launch} {e : Env} {s : State} {m : MethodId} {args : Array Value} {below : List Frame} {meth : Method} {c : Code} {g : GC} {Q : State → Prop} {V : Mem} {L : LMem} {bm : Nat} (C : Cx p s args m meth c cX7_areLeases 2 yX7_areLeases.cls (some .boolean) g) (hb : V 224 5 = nI bm) (hbm : bm ≤ 60) : ∀ (f : Nat) (r : Bool × Nat × Nat × (Nat → Int32)), r.2.1 ≤ bm → (r.1 = true → 6 * r.2.2.1 ≤ r.2.1 + 1 ∧ 61 ≤ r.2.1 + 6 * f) → (J p l e (RM 3) s m args below meth c 2 g 0 0 Q (pS V (pAre (V 228) bm f r).2.1 (pAre (V 228) bm f r).2.2.1 (pAre (V 228) bm f r).2.2.2) L 36 [some (.ref (ad g 224)), some (.int (b2i ((pAre (V 228) bm f r).1 = true)))] []) → J p l e (RM 3) s m args below meth c 2 g 0 0 Q (pS V r.2.1 r.2.2.1 r.2.2.2) L 15 [some (.ref (ad g 224)), some (.int (b2i (r.1 = true)))] [] := by
  intro f
  induction f with
  | zero =>
    intro r hpl hg kx
    refine j_iload_n C dX7_areLeases_15 rfl rfl ?_
    refine j_if_eq (tgt := 36) C dX7_areLeases_16 (by decide) (fun h16 => ?_) (fun h16 => ?_)
    · replace h16 := b2i_0 h16
      rw [pAre_stop (fun z => h16 z.1)] at kx
      exact kx
    · replace h16 := b2i_1 h16
      refine j_aload_n C dX7_areLeases_19 rfl rfl ?_
      refine j_bipush (v := (nI 59)) C dX7_areLeases_20 (by decide) ?_
      refine j_callV1r C (oa_X7 (by first | assumption | rfl | exact kd_sums (by assumption) | exact kd_st1 (by assumption) | exact kd_st2 (by assumption) | exact kd_ls (by first | assumption | rfl) (by assumption) | exact kd_sb (by first | assumption | rfl) (by assumption) | exact kd_sv (by assumption))) rfl rfl (c_X7_takes hb hbm hpl) qm_X7_130 qi_X7_takes qs_X7_takes qn_X7 qc_X7_takes fit_X7_takes ⟨Nat.le_of_ble_eq_true rfl, Nat.le_of_ble_eq_true rfl, Nat.le_of_ble_eq_true rfl, Nat.le_of_ble_eq_true rfl⟩ (Nat.le_of_ble_eq_true rfl) dX7_areLeases_22 ?_
      refine j_if_eq (tgt := 36) C dX7_areLeases_25 (by decide) (fun h25 => ?_) (fun h25 => ?_)
      · replace h25 := b2i_0 h25
        rw [if_neg h25]
        rw [pAre_stop (fun z => h25 z.2)] at kx
        exact kx
      · replace h25 := b2i_1 h25
        exfalso
        have z1 := (hg h16).2
        have z2 := nx_lt (n := 59) h25 (by omega) (by omega)
        omega
  | succ f ih =>
    intro r hpl hg kx
    refine j_iload_n C dX7_areLeases_15 rfl rfl ?_
    refine j_if_eq (tgt := 36) C dX7_areLeases_16 (by decide) (fun h16 => ?_) (fun h16 => ?_)
    · replace h16 := b2i_0 h16
      rw [pAre_stop (fun z => h16 z.1)] at kx
      exact kx
    · replace h16 := b2i_1 h16
      refine j_aload_n C dX7_areLeases_19 rfl rfl ?_
      refine j_bipush (v := (nI 59)) C dX7_areLeases_20 (by decide) ?_
      refine j_callV1r C (oa_X7 (by first | assumption | rfl | exact kd_sums (by assumption) | exact kd_st1 (by assumption) | exact kd_st2 (by assumption) | exact kd_ls (by first | assumption | rfl) (by assumption) | exact kd_sb (by first | assumption | rfl) (by assumption) | exact kd_sv (by assumption))) rfl rfl (c_X7_takes hb hbm hpl) qm_X7_130 qi_X7_takes qs_X7_takes qn_X7 qc_X7_takes fit_X7_takes ⟨Nat.le_of_ble_eq_true rfl, Nat.le_of_ble_eq_true rfl, Nat.le_of_ble_eq_true rfl, Nat.le_of_ble_eq_true rfl⟩ (Nat.le_of_ble_eq_true rfl) dX7_areLeases_22 ?_
      refine j_if_eq (tgt := 36) C dX7_areLeases_25 (by decide) (fun h25 => ?_) (fun h25 => ?_)
      · replace h25 := b2i_0 h25
        rw [if_neg h25]
        rw [pAre_stop (fun z => h25 z.2)] at kx
        exact kx
      · replace h25 := b2i_1 h25
        have z1 := hg h16
        have z2 := nx_lt (n := 59) h25 (by omega) (by omega)
        rw [if_pos h25]
        refine j_aload_n C dX7_areLeases_28 rfl rfl ?_
        refine j_callV0r C (oa_X7 (by first | assumption | rfl | exact kd_sums (by assumption) | exact kd_st1 (by assumption) | exact kd_st2 (by assumption) | exact kd_ls (by first | assumption | rfl) (by assumption) | exact kd_sb (by first | assumption | rfl) (by assumption) | exact kd_sv (by assumption))) rfl rfl (c_X7_part hb hbm (by omega) (by omega)) qm_X7_133 qi_X7_part qs_X7_part qn_X7 qc_X7_part fit_X7_part ⟨Nat.le_of_ble_eq_true rfl, Nat.le_of_ble_eq_true rfl, Nat.le_of_ble_eq_true rfl, Nat.le_of_ble_eq_true rfl⟩ (Nat.le_of_ble_eq_true rfl) dX7_areLeases_29 ?_
        refine j_ist1 C dX7_areLeases_32 rfl (Nat.le_of_ble_eq_true rfl) rfl ?_
        refine j_goto (tgt := 15) C dX7_areLeases_33 (by decide) ?_
        rw [pAre_go ⟨h16, h25⟩] at kx
        have z3 := pPart_le (B := V 228) (bm := bm) (m := r.2.2.1) (pl := r.2.1 + 1) (T := r.2.2.2) (by omega)
        exact ih (pPart (V 228) bm r.2.2.1 (r.2.1 + 1) r.2.2.2) z3.1 (fun z => by have z4 := z3.2 z; omega) kx
set_option maxHeartbeats 4000000 in
theorem c_X7_areLeases {l : Launch} {g : GC} {V : Mem} {L : LMem} {bm : Nat} (hb : V 224 5 = nI bm) (hbm : bm ≤ 60) : MC l yX7_areLeases cX7_areLeases 2 (some .boolean) 3 g V L [.ref (ad g 224)] (some (.int (b2i ((pAll (V 228) bm (V 229)).1 = true ∧ (pAll (V 228) bm (V 229)).2.1 = bm)))) (pS V (pAll (V 228) bm (V 229)).2.1 (pAll (V 228) bm (V 229)).2.2.1 (pAll (V 228) bm (V 229)).2.2.2) L := by
  refine MC.of [some (.ref (ad g 224)), none] (by decide +kernel) rfl (Nat.le_of_ble_eq_true rfl) (fun p e s m args below meth c C => ?_)
  refine j_aload_n C dX7_areLeases_0 rfl rfl ?_
  refine j_iconst (v := (nI 0)) C dX7_areLeases_1 (by decide) ?_
  refine jp_LeaseBookModel_place C (by first | assumption | rfl | exact kd_sums (by assumption) | exact kd_st1 (by assumption) | exact kd_st2 (by assumption) | exact kd_ls (by first | assumption | rfl) (by assumption) | exact kd_sb (by first | assumption | rfl) (by assumption) | exact kd_sv (by assumption)) qf_X7_117 dX7_areLeases_2 ?_
  refine j_aload_n C dX7_areLeases_5 rfl rfl ?_
  refine j_iconst (v := (nI 0)) C dX7_areLeases_6 (by decide) ?_
  refine jp_LeaseBookModel_many C (by first | assumption | rfl | exact kd_sums (by assumption) | exact kd_st1 (by assumption) | exact kd_st2 (by assumption) | exact kd_ls (by first | assumption | rfl) (by assumption) | exact kd_sb (by first | assumption | rfl) (by assumption) | exact kd_sv (by assumption)) qf_X7_124 dX7_areLeases_7 ?_
  refine j_mem (V' := pS V 0 0 (V 229)) (L' := L) pS_start rfl ?_
  refine j_aload_n C dX7_areLeases_10 rfl rfl ?_
  refine j_callV0r C (oa_X7 (by first | assumption | rfl | exact kd_sums (by assumption) | exact kd_st1 (by assumption) | exact kd_st2 (by assumption) | exact kd_ls (by first | assumption | rfl) (by assumption) | exact kd_sb (by first | assumption | rfl) (by assumption) | exact kd_sv (by assumption))) rfl rfl (c_X7_part hb hbm (by omega) (by omega)) qm_X7_133 qi_X7_part qs_X7_part qn_X7 qc_X7_part fit_X7_part ⟨Nat.le_of_ble_eq_true rfl, Nat.le_of_ble_eq_true rfl, Nat.le_of_ble_eq_true rfl, Nat.le_of_ble_eq_true rfl⟩ (Nat.le_of_ble_eq_true rfl) dX7_areLeases_11 ?_
  refine j_ist1 C dX7_areLeases_14 rfl (Nat.le_of_ble_eq_true rfl) rfl ?_
  have z3 := pPart_le (B := V 228) (bm := bm) (m := 0) (pl := 0) (T := V 229) (by omega)
  refine lp_X7_areLeases C hb hbm 11 (pPart (V 228) bm 0 0 (V 229)) z3.1 (fun z => by have z4 := z3.2 z; omega) ?_
  show J _ _ _ _ _ _ _ _ _ _ _ _ _ _ _ (pS V (pAll (V 228) bm (V 229)).2.1 (pAll (V 228) bm (V 229)).2.2.1 (pAll (V 228) bm (V 229)).2.2.2) _ _ [some (.ref (ad g 224)), some (.int (b2i ((pAll (V 228) bm (V 229)).1 = true)))] _
  refine j_iload_n C dX7_areLeases_36 rfl rfl ?_
  refine j_if_eq (tgt := 55) C dX7_areLeases_37 (by decide) (fun h37 => ?_) (fun h37 => ?_)
  · replace h37 := b2i_0 h37
    refine j_iconst (v := (nI 0)) C dX7_areLeases_55 (by decide) ?_
    exact j_zret C dX7_areLeases_56 (by first | rfl | exact nar_b2i) (by first | exact b2i_t ⟨by assumption, by assumption⟩ | exact b2i_f (fun z => absurd z.1 (by assumption)) | exact b2i_f (fun z => absurd z.2 (by assumption))) (by rfl) (by rfl)
  · replace h37 := b2i_1 h37
    refine j_aload_n C dX7_areLeases_40 rfl rfl ?_
    refine jg_LeaseBookModel_place C (by first | assumption | rfl | exact kd_sums (by assumption) | exact kd_st1 (by assumption) | exact kd_st2 (by assumption) | exact kd_ls (by first | assumption | rfl) (by assumption) | exact kd_sb (by first | assumption | rfl) (by assumption) | exact kd_sv (by assumption)) qf_X7_117 dX7_areLeases_41 ?_
    refine j_tope (y := nI (pAll (V 228) bm (V 229)).2.1) (by exact pS_7) ?_
    refine j_aload_n C dX7_areLeases_44 rfl rfl ?_
    refine jg_LeaseBookModel_bufferMany C (by first | assumption | rfl | exact kd_sums (by assumption) | exact kd_st1 (by assumption) | exact kd_st2 (by assumption) | exact kd_ls (by first | assumption | rfl) (by assumption) | exact kd_sb (by first | assumption | rfl) (by assumption) | exact kd_sv (by assumption)) qf_X7_114 dX7_areLeases_45 ?_
    refine j_tope (y := nI bm) (by exact (pS_o (by decide) (by decide)).trans hb) ?_
    refine j_icmp_ne (tgt := 55) C dX7_areLeases_48 (by decide) (fun h48 => ?_) (fun h48 => ?_)
    · have h49 : ¬ (pAll (V 228) bm (V 229)).2.1 = bm := fun z => h48 (by rw [z])
      refine j_iconst (v := (nI 0)) C dX7_areLeases_55 (by decide) ?_
      exact j_zret C dX7_areLeases_56 (by first | rfl | exact nar_b2i) (by first | exact b2i_t ⟨by assumption, by assumption⟩ | exact b2i_f (fun z => absurd z.1 (by assumption)) | exact b2i_f (fun z => absurd z.2 (by assumption))) (by rfl) (by rfl)
    · have h49 : (pAll (V 228) bm (V 229)).2.1 = bm := (nI_eq (by have := (pAll_le (B := V 228) (T := V 229) hbm).1; omega) (by omega)).mp h48
      refine j_iconst (v := (nI 1)) C dX7_areLeases_51 (by decide) ?_
      refine j_goto (tgt := 56) C dX7_areLeases_52 (by decide) ?_
      exact j_zret C dX7_areLeases_56 (by first | rfl | exact nar_b2i) (by first | exact b2i_t ⟨by assumption, by assumption⟩ | exact b2i_f (fun z => absurd z.1 (by assumption)) | exact b2i_f (fun z => absurd z.2 (by assumption))) (by rfl) (by rfl)
set_option maxHeartbeats 4000000 in
theorem c_X7_firstError {l : Launch} {g : GC} {V : Mem} {L : LMem} {bm : Nat} (hb : V 224 5 = nI bm) (hbm : bm ≤ 60) : MC l yX7_firstError cX7_firstError 1 (some .int) 4 g V L [.ref (ad g 224)] (some (.int (nI (if (pAll (V 228) bm (V 229)).1 = true ∧ (pAll (V 228) bm (V 229)).2.1 = bm then bm else (pAll (V 228) bm (V 229)).2.1)))) (pS (mset V 224 6 (nI 0)) (pAll (V 228) bm (V 229)).2.1 (pAll (V 228) bm (V 229)).2.2.1 (pAll (V 228) bm (V 229)).2.2.2) L := by
  refine MC.of [some (.ref (ad g 224))] (by decide +kernel) rfl (Nat.le_of_ble_eq_true rfl) (fun p e s m args below meth c C => ?_)
  refine j_aload_n C dX7_firstError_0 rfl rfl ?_
  refine j_iconst (v := (nI 0)) C dX7_firstError_1 (by decide) ?_
  refine jp_LeaseBookModel_thrown C (by first | assumption | rfl | exact kd_sums (by assumption) | exact kd_st1 (by assumption) | exact kd_st2 (by assumption) | exact kd_ls (by first | assumption | rfl) (by assumption) | exact kd_sb (by first | assumption | rfl) (by assumption) | exact kd_sv (by assumption)) qf_X7_25 dX7_firstError_2 ?_
  refine j_aload_n C dX7_firstError_5 rfl rfl ?_
  refine j_callV0r C (oa_X7 (by first | assumption | rfl | exact kd_sums (by assumption) | exact kd_st1 (by assumption) | exact kd_st2 (by assumption) | exact kd_ls (by first | assumption | rfl) (by assumption) | exact kd_sb (by first | assumption | rfl) (by assumption) | exact kd_sv (by assumption))) rfl rfl (c_X7_areLeases (V := mset V 224 6 (nI 0)) ((mset_ne (by omega)).trans hb) hbm) qm_X7_137 qi_X7_areLeases qs_X7_areLeases qn_X7 qc_X7_areLeases fit_X7_areLeases ⟨Nat.le_of_ble_eq_true rfl, Nat.le_of_ble_eq_true rfl, Nat.le_of_ble_eq_true rfl, Nat.le_of_ble_eq_true rfl⟩ (Nat.le_of_ble_eq_true rfl) dX7_firstError_6 ?_
  refine j_if_eq (tgt := 19) C dX7_firstError_9 (by decide) (fun h9 => ?_) (fun h9 => ?_)
  · replace h9 := b2i_0 h9
    refine j_aload_n C dX7_firstError_19 rfl rfl ?_
    refine jg_LeaseBookModel_place C (by first | assumption | rfl | exact kd_sums (by assumption) | exact kd_st1 (by assumption) | exact kd_st2 (by assumption) | exact kd_ls (by first | assumption | rfl) (by assumption) | exact kd_sb (by first | assumption | rfl) (by assumption) | exact kd_sv (by assumption)) qf_X7_117 dX7_firstError_20 ?_
    refine j_tope (y := nI (pAll (V 228) bm (V 229)).2.1) (by exact pS_7) ?_
    exact j_iret C dX7_firstError_23 (by first | rw [if_pos (by assumption)] | rw [if_neg (by assumption)]) (by rfl) (by rfl)
  · replace h9 := b2i_1 h9
    refine j_aload_n C dX7_firstError_12 rfl rfl ?_
    refine jg_LeaseBookModel_bufferMany C (by first | assumption | rfl | exact kd_sums (by assumption) | exact kd_st1 (by assumption) | exact kd_st2 (by assumption) | exact kd_ls (by first | assumption | rfl) (by assumption) | exact kd_sb (by first | assumption | rfl) (by assumption) | exact kd_sv (by assumption)) qf_X7_114 dX7_firstError_13 ?_
    refine j_tope (y := nI bm) (by exact (pS_o (by decide) (by decide)).trans ((mset_ne (by omega)).trans hb)) ?_
    refine j_goto (tgt := 23) C dX7_firstError_16 (by decide) ?_
    exact j_iret C dX7_firstError_23 (by first | rw [if_pos (by assumption)] | rw [if_neg (by assumption)]) (by rfl) (by rfl)
