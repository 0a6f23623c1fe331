/-! THE CLASS: history, text, reader (laid by wip/whole/p27.py) -/
section
variable {p : Program} {l : Launch} {e : Env} {R : Room} {s : State} {m : MethodId} {args : Array Value} {below : List Frame} {meth : Method} {c : Code} {cc : ByteArray} {nL : Nat} {own : String} {ret : Option FieldType} {g : GC} {cells slots pc : Nat} {Q : State → Prop} {V : Mem} {L : LMem} {lv : List (Option Value)} {st : List Value}
/-- a static table of four ints, as it stands at the law's entry -/
def TB (g : GC) (s : State) (t : Nat) (f : Nat → Int32) : Prop := va_T .int t 4 (fun j => .int (f j)) (AA g) s s.heap
theorem TB.of {t : Nat} {f : Nat → Int32} (h : va_T .int t 4 (fun j => .int (f j)) (AA g) s (gH g)) (hO : OldH g s.heap) : TB g s t f := va_T.kept h (fun a ha _ => hO.2 a ha)
theorem j_getsT (C : Cx p s args m meth c cc nL own ret g) {i : Nat} {n host : String} {f : Nat → Int32} (hl : Cond.fieldLinkNest own i RX6 n "[I" host ∈ NWs) (hA : SAr g n f s) (hd : decode cc pc = .ok (.getstatic i, 3)) (k : ∀ t, TB g s t f → J p l e R s m args below meth c nL g cells slots Q V L (pc + 3) lv (.ref t :: st)) : J p l e R s m args below meth c nL g cells slots Q V L pc lv st := fun H locs ls hw hlv => by
  obtain ⟨t, h1, h2⟩ := hA
  have hX := C.2.2.2.2.2.2.2
  have hO : OldH g s.heap := hX.2.2.1
  exact va_getsN C.1 C.2.1 (va_Z.kept h1 (fun a ha _ => hO.2 a ha)) hw.2 C.2.2.2.1 (va_tabs rfl rfl (hX.2.2.2.1.1 _ hl)) (fun _ h => h) hd (k t (TB.of h2 hO) H locs ls hw hlv)
theorem j_lenT (C : Cx p s args m meth c cc nL own ret g) {t : Nat} {f : Nat → Int32} (hT : TB g s t f) (hd : decode cc pc = .ok (.arraylength, 1)) (k : J p l e R s m args below meth c nL g cells slots Q V L (pc + 1) lv (.int (nI 4) :: st)) : J p l e R s m args below meth c nL g cells slots Q V L pc lv (.ref t :: st) := fun H locs ls hw hlv => va_tlen C.1 C.2.1 hT hw.2 rfl hd (k H locs ls hw hlv)
theorem j_ialdT (C : Cx p s args m meth c cc nL own ret g) {t a0 : Nat} {f : Nat → Int32} {i : Int32} (hT : TB g s t f) (he : i = nI a0) (hin : a0 < 4) (hd : decode cc pc = .ok (.iaload, 1)) (k : J p l e R s m args below meth c nL g cells slots Q V L (pc + 1) lv (.int (f a0) :: st)) : J p l e R s m args below meth c nL g cells slots Q V L pc lv (.int i :: .ref t :: st) := fun H locs ls hw hlv => by
  subst he
  have e1 : (nI a0).toNatClampNeg = a0 := nI_clN (by omega)
  exact va_ti C.1 C.2.1 hT hw.2 (by intro q; rcases q with q | q; (· exact nI_pos (by omega) q); (· rw [e1] at q; omega)) (by simp only [e1]) hd (k H locs ls hw hlv)
theorem Cx.lop (C : Cx p s args m meth c cc nL own ret g) : SAr g "LEAST_OF_PART" lopN s := C.2.2.2.2.2.2.2.2.2.2.2.2.2.1
theorem Cx.mop (C : Cx p s args m meth c cc nL own ret g) : SAr g "MOST_OF_PART" mopN s := C.2.2.2.2.2.2.2.2.2.2.2.2.2.2
end
theorem nl_44 : Cond.fieldLinkNest RX3 44 RX6 "LEAST_OF_PART" "[I" RX6 ∈ NWs := by simp [NWs]
theorem nl_47 : Cond.fieldLinkNest RX3 47 RX6 "MOST_OF_PART" "[I" RX6 ∈ NWs := by simp [NWs]
theorem rem6 : ∀ j, j < 12 → nI j - nI j / nI 6 * nI 6 = nI (j % 6) := by decide +kernel
set_option maxHeartbeats 4000000 in
theorem c_X0_slotAt {l : Launch} {g : GC} {V : Mem} {L : LMem} {o a : Nat} (ho : V 217 1 = nI o) (ho6 : o < 6) (ha : a < 6) : MC l yX0_slotAt cX0_slotAt 3 (some (.object "LeaseBook$State")) 0 g V L [.ref (ad g 217), .int (nI a)] (some (.ref (ad g (31 * ((o + a) % 6 + 1))))) V L := by
  refine MC.of [some (.ref (ad g 217)), some (.int (nI a)), none] (by decide +kernel) rfl (Nat.le_of_ble_eq_true rfl) (fun p e s m args below meth c C => ?_)
  refine j_aload_n C dX0_slotAt_0 rfl rfl ?_
  refine jg_History_oldest C (by first | assumption | exact kd_sums (by assumption) | exact kd_st1 (by assumption) | exact kd_st2 (by assumption) | exact kd_ls (by first | assumption | exact kdL (by omega) | exact kdQ (by omega) | rfl) (by assumption) | exact kd_sb (by first | assumption | exact kdL (by omega) | exact kdQ (by omega) | rfl) (by assumption) | exact kd_sv (by assumption) | exact kdL (by omega) | exact kdQ (by omega) | rfl) qf_X0_22 dX0_slotAt_1 ?_
  refine j_tope (y := nI o) (by exact ho) ?_
  refine j_iload_n C dX0_slotAt_4 rfl rfl ?_
  refine j_iaddN C dX0_slotAt_5 ?_
  refine j_bipush (v := (nI 6)) C dX0_slotAt_6 (by decide) ?_
  refine j_irem C dX0_slotAt_8 (by decide) ?_
  refine j_tope (y := nI ((o + a) % 6)) (by exact rem6 (o + a) (by omega)) ?_
  refine j_ist2 C dX0_slotAt_9 rfl (Nat.le_of_ble_eq_true rfl) rfl ?_
  refine j_iload_n C dX0_slotAt_10 rfl rfl ?_
  refine j_if_lt (tgt := 36) C dX0_slotAt_11 (by decide) (fun h11 => absurd h11 (nI_pos (by omega))) (fun h11 => ?_)
  refine j_iload_n C dX0_slotAt_14 rfl rfl ?_
  refine j_if_lt (tgt := 36) C dX0_slotAt_15 (by decide) (fun h15 => absurd h15 (nI_pos (by omega))) (fun h15 => ?_)
  refine j_iload_n C dX0_slotAt_18 rfl rfl ?_
  refine j_aload_n C dX0_slotAt_19 rfl rfl ?_
  refine jg_History_saved C (by first | assumption | exact kd_sums (by assumption) | exact kd_st1 (by assumption) | exact kd_st2 (by assumption) | exact kd_ls (by first | assumption | exact kdL (by omega) | exact kdQ (by omega) | rfl) (by assumption) | exact kd_sb (by first | assumption | exact kdL (by omega) | exact kdQ (by omega) | rfl) (by assumption) | exact kd_sv (by assumption) | exact kdL (by omega) | exact kdQ (by omega) | rfl) qf_X0_11 dX0_slotAt_20 ?_
  refine j_alen7 C (by first | assumption | exact kd_sums (by assumption) | exact kd_st1 (by assumption) | exact kd_st2 (by assumption) | exact kd_ls (by first | assumption | exact kdL (by omega) | exact kdQ (by omega) | rfl) (by assumption) | exact kd_sb (by first | assumption | exact kdL (by omega) | exact kdQ (by omega) | rfl) (by assumption) | exact kd_sv (by assumption) | exact kdL (by omega) | exact kdQ (by omega) | rfl) rfl dX0_slotAt_23 ?_
  refine j_icmp_ge (tgt := 36) C dX0_slotAt_24 (by decide) (fun h24 => absurd h24 (nI_ge (by omega) (by omega))) (fun h24 => ?_)
  refine j_aload_n C dX0_slotAt_27 rfl rfl ?_
  refine jg_History_saved C (by first | assumption | exact kd_sums (by assumption) | exact kd_st1 (by assumption) | exact kd_st2 (by assumption) | exact kd_ls (by first | assumption | exact kdL (by omega) | exact kdQ (by omega) | rfl) (by assumption) | exact kd_sb (by first | assumption | exact kdL (by omega) | exact kdQ (by omega) | rfl) (by assumption) | exact kd_sv (by assumption) | exact kdL (by omega) | exact kdQ (by omega) | rfl) qf_X0_11 dX0_slotAt_28 ?_
  refine j_iload_n C dX0_slotAt_31 rfl rfl ?_
  refine j_aald7 C (by first | assumption | exact kd_sums (by assumption) | exact kd_st1 (by assumption) | exact kd_st2 (by assumption) | exact kd_ls (by first | assumption | exact kdL (by omega) | exact kdQ (by omega) | rfl) (by assumption) | exact kd_sb (by first | assumption | exact kdL (by omega) | exact kdQ (by omega) | rfl) (by assumption) | exact kd_sv (by assumption) | exact kdL (by omega) | exact kdQ (by omega) | rfl) rfl (by have := Nat.mod_lt (o + a) (show 0 < 6 by omega); omega) dX0_slotAt_32 ?_
  refine j_goto (tgt := 37) C dX0_slotAt_33 (by decide) ?_
  exact j_aret C dX0_slotAt_37 (by rfl) (by rfl) (by rfl)
theorem kdS7 (j : Nat) (h : j ≤ 6) : kd (31 * j) = 0 := by unfold kd; (repeat' split) <;> omega
abbrev slR (o a : Nat) : Nat := 31 * ((o + a) % 6 + 1)
theorem slR_k {o a : Nat} : kd (slR o a) = 0 ∧ ¬ 0 = slR o a ∧ ¬ slR o a = 0 := ⟨kdS7 _ (by have := Nat.mod_lt (o + a) (show 0 < 6 by omega); omega), by unfold slR; omega, by unfold slR; omega⟩
def hSave (o n nl ns : Nat) (V : Mem) : Mem := mset (cpySt (slR o n) 0 nl ns V) 217 2 (nI (n + 1))
def hSave6 (o nl ns : Nat) (V : Mem) : Mem := hSave ((o + 1) % 6) 5 nl ns (mset (mset V 217 1 (nI ((o + 1) % 6))) 217 2 (nI 5))
def hRest (o n nl ns : Nat) (V : Mem) : Mem := mset (cpySt 0 (slR o n) nl ns V) 217 2 (nI n)
theorem cpySt_o {b b2 nl ns r : Nat} {V : Mem} (h8 : nl ≤ 8) (h12 : ns ≤ 12) (h : r < b ∨ b + 31 ≤ r) : cpySt b b2 nl ns V r = V r := by
  unfold cpySt
  rw [stS_o ns h12 (fun j hj => by omega), stL_o nl h8 (fun j hj => by omega), st3_o (by omega)]
set_option maxHeartbeats 4000000 in
theorem c_X0_save_lt {l : Launch} {g : GC} {V : Mem} {L : LMem} {o n nl ns : Nat} (ho : V 217 1 = nI o) (ho6 : o < 6) (hn : V 217 2 = nI n) (hn6 : n < 6) (e1 : V 0 2 = nI nl) (e2 : V 0 3 = nI ns) (h8 : nl ≤ 8) (h12 : ns ≤ 12)  : MC l yX0_save cX0_save 3 (Option.none : Option Jvm.ClassFile.FieldType) 2 g V L [.ref (ad g 217), .ref (ad g 0)] none (hSave o n nl ns V) L := by
  refine MC.of [some (.ref (ad g 217)), some (.ref (ad g 0)), none] (by decide +kernel) rfl (Nat.le_of_ble_eq_true rfl) (fun p e s m args below meth c C => ?_)
  have hm := Nat.mod_lt (o + n) (show 0 < 6 by omega)
  refine j_aload_n C dX0_save_0 rfl rfl ?_
  refine jg_History_size C (by first | assumption | exact kd_sums (by assumption) | exact kd_st1 (by assumption) | exact kd_st2 (by assumption) | exact kd_ls (by first | assumption | exact kdL (by omega) | exact kdQ (by omega) | rfl) (by assumption) | exact kd_sb (by first | assumption | exact kdL (by omega) | exact kdQ (by omega) | rfl) (by assumption) | exact kd_sv (by assumption) | exact kdL (by omega) | exact kdQ (by omega) | rfl) qf_X0_18 dX0_save_1 ?_
  refine j_tope (y := nI n) (by exact hn) ?_
  refine j_bipush (v := (nI 6)) C dX0_save_4 (by decide) ?_
  refine j_icmp_lt (tgt := 32) C dX0_save_6 (by decide) (fun h6 => ?_) (fun h6 => (by exact absurd (nI_lt hn6 (by omega)) h6))
  refine j_aload_n C dX0_save_32 rfl rfl ?_
  refine j_aload_n C dX0_save_33 rfl rfl ?_
  refine jg_History_size C (by first | assumption | exact kd_sums (by assumption) | exact kd_st1 (by assumption) | exact kd_st2 (by assumption) | exact kd_ls (by first | assumption | exact kdL (by omega) | exact kdQ (by omega) | rfl) (by assumption) | exact kd_sb (by first | assumption | exact kdL (by omega) | exact kdQ (by omega) | rfl) (by assumption) | exact kd_sv (by assumption) | exact kdL (by omega) | exact kdQ (by omega) | rfl) qf_X0_18 dX0_save_34 ?_
  refine j_tope (y := nI n) (by exact hn) ?_
  refine j_callV1r C (oa_X0 (by first | assumption | exact kd_sums (by assumption) | exact kd_st1 (by assumption) | exact kd_st2 (by assumption) | exact kd_ls (by first | assumption | exact kdL (by omega) | exact kdQ (by omega) | rfl) (by assumption) | exact kd_sb (by first | assumption | exact kdL (by omega) | exact kdQ (by omega) | rfl) (by assumption) | exact kd_sv (by assumption) | exact kdL (by omega) | exact kdQ (by omega) | rfl)) rfl rfl (c_X0_slotAt ho ho6 hn6) qm_X0_25 qi_X0_slotAt qs_X0_slotAt qn_X0 qc_X0_slotAt fit_X0_slotAt ⟨Nat.le_of_ble_eq_true rfl, Nat.le_of_ble_eq_true rfl, Nat.le_of_ble_eq_true rfl, Nat.le_of_ble_eq_true rfl⟩ (Nat.le_of_ble_eq_true rfl) dX0_save_37 ?_
  refine j_ast2 C dX0_save_40 rfl (Nat.le_of_ble_eq_true rfl) rfl ?_
  refine j_aload_n C dX0_save_41 rfl rfl ?_
  refine j_ifnull C dX0_save_42 ?_
  refine j_aload_n C dX0_save_45 rfl rfl ?_
  refine j_aload_n C dX0_save_46 rfl rfl ?_
  refine j_callV1v C (oa_X4 (by exact slR_k.1)) rfl rfl (c_X4_copyFrom slR_k.1 rfl slR_k.2.1 h8 h12 e1 e2) qm_X0_29 qi_X4_copyFrom qs_X4_copyFrom qn_X4 qc_X4_copyFrom fit_X4_copyFrom ⟨Nat.le_of_ble_eq_true rfl, Nat.le_of_ble_eq_true rfl, Nat.le_of_ble_eq_true rfl, Nat.le_of_ble_eq_true rfl⟩ (Nat.le_of_ble_eq_true rfl) dX0_save_47 ?_
  refine j_aload_n C dX0_save_50 rfl rfl ?_
  refine j_dup C dX0_save_51 rfl ?_
  refine jg_History_size C (by first | assumption | exact kd_sums (by assumption) | exact kd_st1 (by assumption) | exact kd_st2 (by assumption) | exact kd_ls (by first | assumption | exact kdL (by omega) | exact kdQ (by omega) | rfl) (by assumption) | exact kd_sb (by first | assumption | exact kdL (by omega) | exact kdQ (by omega) | rfl) (by assumption) | exact kd_sv (by assumption) | exact kdL (by omega) | exact kdQ (by omega) | rfl) qf_X0_18 dX0_save_52 ?_
  refine j_tope (y := nI n) (by rw [cpySt_o h8 h12 (by first | omega | (unfold slR; omega))]; exact hn) ?_
  refine j_iconst (v := (nI 1)) C dX0_save_55 (by decide) ?_
  refine j_iaddN C dX0_save_56 ?_
  refine jp_History_size C (by first | assumption | exact kd_sums (by assumption) | exact kd_st1 (by assumption) | exact kd_st2 (by assumption) | exact kd_ls (by first | assumption | exact kdL (by omega) | exact kdQ (by omega) | rfl) (by assumption) | exact kd_sb (by first | assumption | exact kdL (by omega) | exact kdQ (by omega) | rfl) (by assumption) | exact kd_sv (by assumption) | exact kdL (by omega) | exact kdQ (by omega) | rfl) qf_X0_18 dX0_save_57 ?_
  exact j_vret C dX0_save_60 rfl (by rfl) (by rfl)
set_option maxHeartbeats 4000000 in
theorem c_X0_save_6 {l : Launch} {g : GC} {V : Mem} {L : LMem} {o nl ns : Nat} (ho : V 217 1 = nI o) (ho6 : o < 6) (hn : V 217 2 = nI 6) (e1 : V 0 2 = nI nl) (e2 : V 0 3 = nI ns) (h8 : nl ≤ 8) (h12 : ns ≤ 12)  : MC l yX0_save cX0_save 3 (Option.none : Option Jvm.ClassFile.FieldType) 2 g V L [.ref (ad g 217), .ref (ad g 0)] none (hSave6 o nl ns V) L := by
  refine MC.of [some (.ref (ad g 217)), some (.ref (ad g 0)), none] (by decide +kernel) rfl (Nat.le_of_ble_eq_true rfl) (fun p e s m args below meth c C => ?_)
  have hm := Nat.mod_lt (o + 1) (show 0 < 6 by omega)
  have hm2 := Nat.mod_lt ((o + 1) % 6 + 5) (show 0 < 6 by omega)
  refine j_aload_n C dX0_save_0 rfl rfl ?_
  refine jg_History_size C (by first | assumption | exact kd_sums (by assumption) | exact kd_st1 (by assumption) | exact kd_st2 (by assumption) | exact kd_ls (by first | assumption | exact kdL (by omega) | exact kdQ (by omega) | rfl) (by assumption) | exact kd_sb (by first | assumption | exact kdL (by omega) | exact kdQ (by omega) | rfl) (by assumption) | exact kd_sv (by assumption) | exact kdL (by omega) | exact kdQ (by omega) | rfl) qf_X0_18 dX0_save_1 ?_
  refine j_tope (y := nI 6) (by exact hn) ?_
  refine j_bipush (v := (nI 6)) C dX0_save_4 (by decide) ?_
  refine j_icmp_lt (tgt := 32) C dX0_save_6 (by decide) (fun h6 => (by exact absurd h6 (by decide))) (fun h6 => ?_)
  refine j_aload_n C dX0_save_9 rfl rfl ?_
  refine j_aload_n C dX0_save_10 rfl rfl ?_
  refine jg_History_oldest C (by first | assumption | exact kd_sums (by assumption) | exact kd_st1 (by assumption) | exact kd_st2 (by assumption) | exact kd_ls (by first | assumption | exact kdL (by omega) | exact kdQ (by omega) | rfl) (by assumption) | exact kd_sb (by first | assumption | exact kdL (by omega) | exact kdQ (by omega) | rfl) (by assumption) | exact kd_sv (by assumption) | exact kdL (by omega) | exact kdQ (by omega) | rfl) qf_X0_22 dX0_save_11 ?_
  refine j_tope (y := nI o) (by exact ho) ?_
  refine j_iconst (v := (nI 1)) C dX0_save_14 (by decide) ?_
  refine j_iaddN C dX0_save_15 ?_
  refine j_bipush (v := (nI 6)) C dX0_save_16 (by decide) ?_
  refine j_irem C dX0_save_18 (by decide) ?_
  refine j_tope (y := nI ((o + 1) % 6)) (by exact rem6 (o + 1) (by omega)) ?_
  refine jp_History_oldest C (by first | assumption | exact kd_sums (by assumption) | exact kd_st1 (by assumption) | exact kd_st2 (by assumption) | exact kd_ls (by first | assumption | exact kdL (by omega) | exact kdQ (by omega) | rfl) (by assumption) | exact kd_sb (by first | assumption | exact kdL (by omega) | exact kdQ (by omega) | rfl) (by assumption) | exact kd_sv (by assumption) | exact kdL (by omega) | exact kdQ (by omega) | rfl) qf_X0_22 dX0_save_19 ?_
  refine j_aload_n C dX0_save_22 rfl rfl ?_
  refine j_dup C dX0_save_23 rfl ?_
  refine jg_History_size C (by first | assumption | exact kd_sums (by assumption) | exact kd_st1 (by assumption) | exact kd_st2 (by assumption) | exact kd_ls (by first | assumption | exact kdL (by omega) | exact kdQ (by omega) | rfl) (by assumption) | exact kd_sb (by first | assumption | exact kdL (by omega) | exact kdQ (by omega) | rfl) (by assumption) | exact kd_sv (by assumption) | exact kdL (by omega) | exact kdQ (by omega) | rfl) qf_X0_18 dX0_save_24 ?_
  refine j_tope (y := nI 6) (by exact (mset_ne (by omega)).trans hn) ?_
  refine j_iconst (v := (nI 1)) C dX0_save_27 (by decide) ?_
  refine j_isub C dX0_save_28 ?_
  refine j_tope (y := nI 5) (by decide) ?_
  refine jp_History_size C (by first | assumption | exact kd_sums (by assumption) | exact kd_st1 (by assumption) | exact kd_st2 (by assumption) | exact kd_ls (by first | assumption | exact kdL (by omega) | exact kdQ (by omega) | rfl) (by assumption) | exact kd_sb (by first | assumption | exact kdL (by omega) | exact kdQ (by omega) | rfl) (by assumption) | exact kd_sv (by assumption) | exact kdL (by omega) | exact kdQ (by omega) | rfl) qf_X0_18 dX0_save_29 ?_
  refine j_aload_n C dX0_save_32 rfl rfl ?_
  refine j_aload_n C dX0_save_33 rfl rfl ?_
  refine jg_History_size C (by first | assumption | exact kd_sums (by assumption) | exact kd_st1 (by assumption) | exact kd_st2 (by assumption) | exact kd_ls (by first | assumption | exact kdL (by omega) | exact kdQ (by omega) | rfl) (by assumption) | exact kd_sb (by first | assumption | exact kdL (by omega) | exact kdQ (by omega) | rfl) (by assumption) | exact kd_sv (by assumption) | exact kdL (by omega) | exact kdQ (by omega) | rfl) qf_X0_18 dX0_save_34 ?_
  refine j_tope (y := nI 5) (by rw [mset_at]) ?_
  refine j_callV1r C (oa_X0 (by first | assumption | exact kd_sums (by assumption) | exact kd_st1 (by assumption) | exact kd_st2 (by assumption) | exact kd_ls (by first | assumption | exact kdL (by omega) | exact kdQ (by omega) | rfl) (by assumption) | exact kd_sb (by first | assumption | exact kdL (by omega) | exact kdQ (by omega) | rfl) (by assumption) | exact kd_sv (by assumption) | exact kdL (by omega) | exact kdQ (by omega) | rfl)) rfl rfl (c_X0_slotAt (o := (o + 1) % 6) (by rw [mset_ne (by omega), mset_at]) hm (by omega)) qm_X0_25 qi_X0_slotAt qs_X0_slotAt qn_X0 qc_X0_slotAt fit_X0_slotAt ⟨Nat.le_of_ble_eq_true rfl, Nat.le_of_ble_eq_true rfl, Nat.le_of_ble_eq_true rfl, Nat.le_of_ble_eq_true rfl⟩ (Nat.le_of_ble_eq_true rfl) dX0_save_37 ?_
  refine j_ast2 C dX0_save_40 rfl (Nat.le_of_ble_eq_true rfl) rfl ?_
  refine j_aload_n C dX0_save_41 rfl rfl ?_
  refine j_ifnull C dX0_save_42 ?_
  refine j_aload_n C dX0_save_45 rfl rfl ?_
  refine j_aload_n C dX0_save_46 rfl rfl ?_
  refine j_callV1v C (oa_X4 (by exact slR_k.1)) rfl rfl (c_X4_copyFrom slR_k.1 rfl slR_k.2.1 h8 h12 ((mset_ne (by omega)).trans ((mset_ne (by omega)).trans e1)) ((mset_ne (by omega)).trans ((mset_ne (by omega)).trans e2))) qm_X0_29 qi_X4_copyFrom qs_X4_copyFrom qn_X4 qc_X4_copyFrom fit_X4_copyFrom ⟨Nat.le_of_ble_eq_true rfl, Nat.le_of_ble_eq_true rfl, Nat.le_of_ble_eq_true rfl, Nat.le_of_ble_eq_true rfl⟩ (Nat.le_of_ble_eq_true rfl) dX0_save_47 ?_
  refine j_aload_n C dX0_save_50 rfl rfl ?_
  refine j_dup C dX0_save_51 rfl ?_
  refine jg_History_size C (by first | assumption | exact kd_sums (by assumption) | exact kd_st1 (by assumption) | exact kd_st2 (by assumption) | exact kd_ls (by first | assumption | exact kdL (by omega) | exact kdQ (by omega) | rfl) (by assumption) | exact kd_sb (by first | assumption | exact kdL (by omega) | exact kdQ (by omega) | rfl) (by assumption) | exact kd_sv (by assumption) | exact kdL (by omega) | exact kdQ (by omega) | rfl) qf_X0_18 dX0_save_52 ?_
  refine j_tope (y := nI 5) (by rw [cpySt_o h8 h12 (by first | omega | (unfold slR; omega)), mset_at]) ?_
  refine j_iconst (v := (nI 1)) C dX0_save_55 (by decide) ?_
  refine j_iaddN C dX0_save_56 ?_
  refine jp_History_size C (by first | assumption | exact kd_sums (by assumption) | exact kd_st1 (by assumption) | exact kd_st2 (by assumption) | exact kd_ls (by first | assumption | exact kdL (by omega) | exact kdQ (by omega) | rfl) (by assumption) | exact kd_sb (by first | assumption | exact kdL (by omega) | exact kdQ (by omega) | rfl) (by assumption) | exact kd_sv (by assumption) | exact kdL (by omega) | exact kdQ (by omega) | rfl) qf_X0_18 dX0_save_57 ?_
  exact j_vret C dX0_save_60 rfl (by rfl) (by rfl)
set_option maxHeartbeats 4000000 in
theorem c_X0_restore {l : Launch} {g : GC} {V : Mem} {L : LMem} {o n nl ns : Nat} (ho : V 217 1 = nI o) (ho6 : o < 6) (hn : V 217 2 = nI (n + 1)) (hn6 : n < 6) (e1 : V (slR o n) 2 = nI nl) (e2 : V (slR o n) 3 = nI ns) (h8 : nl ≤ 8) (h12 : ns ≤ 12) : MC l yX0_restore cX0_restore 3 (Option.none : Option Jvm.ClassFile.FieldType) 2 g V L [.ref (ad g 217), .ref (ad g 0)] none (hRest o n nl ns V) L := by
  refine MC.of [some (.ref (ad g 217)), some (.ref (ad g 0)), none] (by decide +kernel) rfl (Nat.le_of_ble_eq_true rfl) (fun p e s m args below meth c C => ?_)
  have hm := Nat.mod_lt (o + n) (show 0 < 6 by omega)
  refine j_aload_n C dX0_restore_0 rfl rfl ?_
  refine j_aload_n C dX0_restore_1 rfl rfl ?_
  refine jg_History_size C (by first | assumption | exact kd_sums (by assumption) | exact kd_st1 (by assumption) | exact kd_st2 (by assumption) | exact kd_ls (by first | assumption | exact kdL (by omega) | exact kdQ (by omega) | rfl) (by assumption) | exact kd_sb (by first | assumption | exact kdL (by omega) | exact kdQ (by omega) | rfl) (by assumption) | exact kd_sv (by assumption) | exact kdL (by omega) | exact kdQ (by omega) | rfl) qf_X0_18 dX0_restore_2 ?_
  refine j_tope (y := nI (n + 1)) (by exact hn) ?_
  refine j_iconst (v := (nI 1)) C dX0_restore_5 (by decide) ?_
  refine j_isub C dX0_restore_6 ?_
  refine j_tope (y := nI n) (by exact pk_sub (by omega)) ?_
  refine j_callV1r C (oa_X0 (by first | assumption | exact kd_sums (by assumption) | exact kd_st1 (by assumption) | exact kd_st2 (by assumption) | exact kd_ls (by first | assumption | exact kdL (by omega) | exact kdQ (by omega) | rfl) (by assumption) | exact kd_sb (by first | assumption | exact kdL (by omega) | exact kdQ (by omega) | rfl) (by assumption) | exact kd_sv (by assumption) | exact kdL (by omega) | exact kdQ (by omega) | rfl)) rfl rfl (c_X0_slotAt ho ho6 hn6) qm_X0_25 qi_X0_slotAt qs_X0_slotAt qn_X0 qc_X0_slotAt fit_X0_slotAt ⟨Nat.le_of_ble_eq_true rfl, Nat.le_of_ble_eq_true rfl, Nat.le_of_ble_eq_true rfl, Nat.le_of_ble_eq_true rfl⟩ (Nat.le_of_ble_eq_true rfl) dX0_restore_7 ?_
  refine j_ast2 C dX0_restore_10 rfl (Nat.le_of_ble_eq_true rfl) rfl ?_
  refine j_aload_n C dX0_restore_11 rfl rfl ?_
  refine j_ifnull C dX0_restore_12 ?_
  refine j_aload_n C dX0_restore_15 rfl rfl ?_
  refine j_aload_n C dX0_restore_16 rfl rfl ?_
  refine j_callV1v C (oa_X4 (by first | assumption | exact kd_sums (by assumption) | exact kd_st1 (by assumption) | exact kd_st2 (by assumption) | exact kd_ls (by first | assumption | exact kdL (by omega) | exact kdQ (by omega) | rfl) (by assumption) | exact kd_sb (by first | assumption | exact kdL (by omega) | exact kdQ (by omega) | rfl) (by assumption) | exact kd_sv (by assumption) | exact kdL (by omega) | exact kdQ (by omega) | rfl)) rfl rfl (c_X4_copyFrom rfl slR_k.1 slR_k.2.2 h8 h12 e1 e2) qm_X0_29 qi_X4_copyFrom qs_X4_copyFrom qn_X4 qc_X4_copyFrom fit_X4_copyFrom ⟨Nat.le_of_ble_eq_true rfl, Nat.le_of_ble_eq_true rfl, Nat.le_of_ble_eq_true rfl, Nat.le_of_ble_eq_true rfl⟩ (Nat.le_of_ble_eq_true rfl) dX0_restore_17 ?_
  refine j_aload_n C dX0_restore_20 rfl rfl ?_
  refine j_dup C dX0_restore_21 rfl ?_
  refine jg_History_size C (by first | assumption | exact kd_sums (by assumption) | exact kd_st1 (by assumption) | exact kd_st2 (by assumption) | exact kd_ls (by first | assumption | exact kdL (by omega) | exact kdQ (by omega) | rfl) (by assumption) | exact kd_sb (by first | assumption | exact kdL (by omega) | exact kdQ (by omega) | rfl) (by assumption) | exact kd_sv (by assumption) | exact kdL (by omega) | exact kdQ (by omega) | rfl) qf_X0_18 dX0_restore_22 ?_
  refine j_tope (y := nI (n + 1)) (by rw [cpySt_o h8 h12 (by omega)]; exact hn) ?_
  refine j_iconst (v := (nI 1)) C dX0_restore_25 (by decide) ?_
  refine j_isub C dX0_restore_26 ?_
  refine j_tope (y := nI n) (by exact pk_sub (by omega)) ?_
  refine jp_History_size C (by first | assumption | exact kd_sums (by assumption) | exact kd_st1 (by assumption) | exact kd_st2 (by assumption) | exact kd_ls (by first | assumption | exact kdL (by omega) | exact kdQ (by omega) | rfl) (by assumption) | exact kd_sb (by first | assumption | exact kdL (by omega) | exact kdQ (by omega) | rfl) (by assumption) | exact kd_sv (by assumption) | exact kdL (by omega) | exact kdQ (by omega) | rfl) qf_X0_18 dX0_restore_27 ?_
  exact j_vret C dX0_restore_30 rfl (by rfl) (by rfl)
theorem ch_id {x : Int32} (h : nI 33 ≤ x ∧ x ≤ nI 126) : (x.toUInt32 % 65536).toInt32 = x := by
  obtain ⟨j, hj, rfl⟩ := nI_of2 (n := 126) (nI_toInt (by omega)) (fun q => absurd (Int32.le_trans (by decide) h.1) (Int32.not_le.mpr q)) h.2
  have hz : ∀ j, j < 127 → ((nI j).toUInt32 % 65536).toInt32 = nI j := by decide +kernel
  exact hz j (by omega)
theorem ch_nar {x : Int32} (h : nI 33 ≤ x ∧ x ≤ nI 126) : vp_nar .char x = x := by
  obtain ⟨j, hj, rfl⟩ := nI_of2 (n := 126) (nI_toInt (by omega)) (fun q => absurd (Int32.le_trans (by decide) h.1) (Int32.not_le.mpr q)) h.2
  have hz : ∀ j, j < 127 → vp_nar .char (nI j) = nI j := by decide +kernel
  exact hz j (by omega)
set_option maxHeartbeats 4000000 in
theorem c_X1_add {l : Launch} {g : GC} {V : Mem} {L : LMem} {m0 : Nat} (hm : V 219 1 = nI m0) {x : Int32} (h60 : m0 < 60) (hx : nI 33 ≤ x ∧ x ≤ nI 126) : MC l yX1_add cX1_add 2 (Option.none : Option Jvm.ClassFile.FieldType) 0 g V L [.ref (ad g 219), .int x] none (mset (mset V 220 m0 x) 219 1 (nI (m0 + 1))) L := by
  refine MC.of [some (.ref (ad g 219)), some (.int x)] (by decide +kernel) rfl (Nat.le_of_ble_eq_true rfl) (fun p e s m args below meth c C => ?_)
  refine j_aload_n C dX1_add_0 rfl rfl ?_
  refine jg_InputText_length C (by first | assumption | exact kd_sums (by assumption) | exact kd_st1 (by assumption) | exact kd_st2 (by assumption) | exact kd_ls (by first | assumption | exact kdL (by omega) | exact kdQ (by omega) | rfl) (by assumption) | exact kd_sb (by first | assumption | exact kdL (by omega) | exact kdQ (by omega) | rfl) (by assumption) | exact kd_sv (by assumption) | exact kdL (by omega) | exact kdQ (by omega) | rfl) qf_X1_15 dX1_add_1 ?_
  refine j_tope (y := nI m0) (by exact hm) ?_
  refine j_if_lt (tgt := 40) C dX1_add_4 (by decide) (fun h4 => absurd h4 (nI_pos (by omega))) (fun h4 => ?_)
  refine j_aload_n C dX1_add_7 rfl rfl ?_
  refine jg_InputText_length C (by first | assumption | exact kd_sums (by assumption) | exact kd_st1 (by assumption) | exact kd_st2 (by assumption) | exact kd_ls (by first | assumption | exact kdL (by omega) | exact kdQ (by omega) | rfl) (by assumption) | exact kd_sb (by first | assumption | exact kdL (by omega) | exact kdQ (by omega) | rfl) (by assumption) | exact kd_sv (by assumption) | exact kdL (by omega) | exact kdQ (by omega) | rfl) qf_X1_15 dX1_add_8 ?_
  refine j_tope (y := nI m0) (by exact hm) ?_
  refine j_aload_n C dX1_add_11 rfl rfl ?_
  refine jg_InputText_codes C (by first | assumption | exact kd_sums (by assumption) | exact kd_st1 (by assumption) | exact kd_st2 (by assumption) | exact kd_ls (by first | assumption | exact kdL (by omega) | exact kdQ (by omega) | rfl) (by assumption) | exact kd_sb (by first | assumption | exact kdL (by omega) | exact kdQ (by omega) | rfl) (by assumption) | exact kd_sv (by assumption) | exact kdL (by omega) | exact kdQ (by omega) | rfl) qf_X1_9 dX1_add_12 ?_
  refine j_alenC C (by first | assumption | exact kd_sums (by assumption) | exact kd_st1 (by assumption) | exact kd_st2 (by assumption) | exact kd_ls (by first | assumption | exact kdL (by omega) | exact kdQ (by omega) | rfl) (by assumption) | exact kd_sb (by first | assumption | exact kdL (by omega) | exact kdQ (by omega) | rfl) (by assumption) | exact kd_sv (by assumption) | exact kdL (by omega) | exact kdQ (by omega) | rfl) rfl dX1_add_15 ?_
  refine j_icmp_ge (tgt := 40) C dX1_add_16 (by decide) (fun h16 => absurd h16 (nI_ge (by omega) (by omega))) (fun h16 => ?_)
  refine j_aload_n C dX1_add_19 rfl rfl ?_
  refine jg_InputText_codes C (by first | assumption | exact kd_sums (by assumption) | exact kd_st1 (by assumption) | exact kd_st2 (by assumption) | exact kd_ls (by first | assumption | exact kdL (by omega) | exact kdQ (by omega) | rfl) (by assumption) | exact kd_sb (by first | assumption | exact kdL (by omega) | exact kdQ (by omega) | rfl) (by assumption) | exact kd_sv (by assumption) | exact kdL (by omega) | exact kdQ (by omega) | rfl) qf_X1_9 dX1_add_20 ?_
  refine j_aload_n C dX1_add_23 rfl rfl ?_
  refine jg_InputText_length C (by first | assumption | exact kd_sums (by assumption) | exact kd_st1 (by assumption) | exact kd_st2 (by assumption) | exact kd_ls (by first | assumption | exact kdL (by omega) | exact kdQ (by omega) | rfl) (by assumption) | exact kd_sb (by first | assumption | exact kdL (by omega) | exact kdQ (by omega) | rfl) (by assumption) | exact kd_sv (by assumption) | exact kdL (by omega) | exact kdQ (by omega) | rfl) qf_X1_15 dX1_add_24 ?_
  refine j_tope (y := nI m0) (by exact hm) ?_
  refine j_iload_n C dX1_add_27 rfl rfl ?_
  refine j_i2c C dX1_add_28 ?_
  refine j_tope (y := x) (by exact ch_id hx) ?_
  refine j_cast C (by first | assumption | exact kd_sums (by assumption) | exact kd_st1 (by assumption) | exact kd_st2 (by assumption) | exact kd_ls (by first | assumption | exact kdL (by omega) | exact kdQ (by omega) | rfl) (by assumption) | exact kd_sb (by first | assumption | exact kdL (by omega) | exact kdQ (by omega) | rfl) (by assumption) | exact kd_sv (by assumption) | exact kdL (by omega) | exact kdQ (by omega) | rfl) rfl (by omega) (ch_nar hx) dX1_add_29 ?_
  refine j_aload_n C dX1_add_30 rfl rfl ?_
  refine j_dup C dX1_add_31 rfl ?_
  refine jg_InputText_length C (by first | assumption | exact kd_sums (by assumption) | exact kd_st1 (by assumption) | exact kd_st2 (by assumption) | exact kd_ls (by first | assumption | exact kdL (by omega) | exact kdQ (by omega) | rfl) (by assumption) | exact kd_sb (by first | assumption | exact kdL (by omega) | exact kdQ (by omega) | rfl) (by assumption) | exact kd_sv (by assumption) | exact kdL (by omega) | exact kdQ (by omega) | rfl) qf_X1_15 dX1_add_32 ?_
  refine j_tope (y := nI m0) (by exact (mset_ne (by omega)).trans hm) ?_
  refine j_iconst (v := (nI 1)) C dX1_add_35 (by decide) ?_
  refine j_iaddN C dX1_add_36 ?_
  refine jp_InputText_length C (by first | assumption | exact kd_sums (by assumption) | exact kd_st1 (by assumption) | exact kd_st2 (by assumption) | exact kd_ls (by first | assumption | exact kdL (by omega) | exact kdQ (by omega) | rfl) (by assumption) | exact kd_sb (by first | assumption | exact kdL (by omega) | exact kdQ (by omega) | rfl) (by assumption) | exact kd_sv (by assumption) | exact kdL (by omega) | exact kdQ (by omega) | rfl) qf_X1_15 dX1_add_37 ?_
  exact j_vret C dX1_add_40 rfl (by rfl) (by rfl)
set_option maxHeartbeats 4000000 in
theorem c_X1_codeAt {l : Launch} {g : GC} {V : Mem} {L : LMem} {m0 : Nat} (hm : V 219 1 = nI m0) {q : Nat} (hq : q < m0) (h60 : m0 ≤ 60) : MC l yX1_codeAt cX1_codeAt 2 (some .int) 0 g V L [.ref (ad g 219), .int (nI q)] (some (.int (V 220 q))) V L := by
  refine MC.of [some (.ref (ad g 219)), some (.int (nI q))] (by decide +kernel) rfl (Nat.le_of_ble_eq_true rfl) (fun p e s m args below meth c C => ?_)
  refine j_iload_n C dX1_codeAt_0 rfl rfl ?_
  refine j_if_lt (tgt := 30) C dX1_codeAt_1 (by decide) (fun h1 => absurd h1 (nI_pos (by omega))) (fun h1 => ?_)
  refine j_iload_n C dX1_codeAt_4 rfl rfl ?_
  refine j_aload_n C dX1_codeAt_5 rfl rfl ?_
  refine jg_InputText_length C (by first | assumption | exact kd_sums (by assumption) | exact kd_st1 (by assumption) | exact kd_st2 (by assumption) | exact kd_ls (by first | assumption | exact kdL (by omega) | exact kdQ (by omega) | rfl) (by assumption) | exact kd_sb (by first | assumption | exact kdL (by omega) | exact kdQ (by omega) | rfl) (by assumption) | exact kd_sv (by assumption) | exact kdL (by omega) | exact kdQ (by omega) | rfl) qf_X1_15 dX1_codeAt_6 ?_
  refine j_tope (y := nI m0) (by exact hm) ?_
  refine j_icmp_ge (tgt := 30) C dX1_codeAt_9 (by decide) (fun h9 => absurd h9 (nI_ge (by omega) (by omega))) (fun h9 => ?_)
  refine j_iload_n C dX1_codeAt_12 rfl rfl ?_
  refine j_aload_n C dX1_codeAt_13 rfl rfl ?_
  refine jg_InputText_codes C (by first | assumption | exact kd_sums (by assumption) | exact kd_st1 (by assumption) | exact kd_st2 (by assumption) | exact kd_ls (by first | assumption | exact kdL (by omega) | exact kdQ (by omega) | rfl) (by assumption) | exact kd_sb (by first | assumption | exact kdL (by omega) | exact kdQ (by omega) | rfl) (by assumption) | exact kd_sv (by assumption) | exact kdL (by omega) | exact kdQ (by omega) | rfl) qf_X1_9 dX1_codeAt_14 ?_
  refine j_alenC C (by first | assumption | exact kd_sums (by assumption) | exact kd_st1 (by assumption) | exact kd_st2 (by assumption) | exact kd_ls (by first | assumption | exact kdL (by omega) | exact kdQ (by omega) | rfl) (by assumption) | exact kd_sb (by first | assumption | exact kdL (by omega) | exact kdQ (by omega) | rfl) (by assumption) | exact kd_sv (by assumption) | exact kdL (by omega) | exact kdQ (by omega) | rfl) rfl dX1_codeAt_17 ?_
  refine j_icmp_ge (tgt := 30) C dX1_codeAt_18 (by decide) (fun h18 => absurd h18 (nI_ge (by omega) (by omega))) (fun h18 => ?_)
  refine j_aload_n C dX1_codeAt_21 rfl rfl ?_
  refine jg_InputText_codes C (by first | assumption | exact kd_sums (by assumption) | exact kd_st1 (by assumption) | exact kd_st2 (by assumption) | exact kd_ls (by first | assumption | exact kdL (by omega) | exact kdQ (by omega) | rfl) (by assumption) | exact kd_sb (by first | assumption | exact kdL (by omega) | exact kdQ (by omega) | rfl) (by assumption) | exact kd_sv (by assumption) | exact kdL (by omega) | exact kdQ (by omega) | rfl) qf_X1_9 dX1_codeAt_22 ?_
  refine j_iload_n C dX1_codeAt_25 rfl rfl ?_
  refine j_cald C (by first | assumption | exact kd_sums (by assumption) | exact kd_st1 (by assumption) | exact kd_st2 (by assumption) | exact kd_ls (by first | assumption | exact kdL (by omega) | exact kdQ (by omega) | rfl) (by assumption) | exact kd_sb (by first | assumption | exact kdL (by omega) | exact kdQ (by omega) | rfl) (by assumption) | exact kd_sv (by assumption) | exact kdL (by omega) | exact kdQ (by omega) | rfl) rfl (by omega) dX1_codeAt_26 ?_
  refine j_goto (tgt := 31) C dX1_codeAt_27 (by decide) ?_
  exact j_iret C dX1_codeAt_31 (by rfl) (by rfl) (by rfl)
set_option maxHeartbeats 4000000 in
theorem lp_X1_countOf {p : Program} {l : Launch} {e : Env} {s : State} {m : MethodId} {args : Array Value} {below : List Frame} {meth : Method} {c : Code} {g : GC} {Q : State → Prop} {V : Mem} {L : LMem} {m0 : Nat} {x : Int32} (C : Cx p s args m meth c cX1_countOf 4 yX1_countOf.cls (some .int) g) (hm : V 219 1 = nI m0) (h60 : m0 ≤ 60) (kx : J p l e (RM 1) s m args below meth c 4 g 0 0 Q V L 30 [some (.ref (ad g 219)), some (.int x), some (.int (sF (fun q => decide (V 220 q = x)) (fun _ => nI 1) (m0))), some (.int (nI (m0)))] []) : ∀ j i : Nat, i + j = m0 → J p l e (RM 1) s m args below meth c 4 g 0 0 Q V L 4 [some (.ref (ad g 219)), some (.int x), some (.int (sF (fun q => decide (V 220 q = x)) (fun _ => nI 1) i)), some (.int (nI i))] [] := by
  intro j
  induction j with
  | zero =>
    intro i hi
    have hi : m0 = i := by omega
    subst hi
    refine j_iload_n C dX1_countOf_4 rfl rfl ?_
    refine j_aload_n C dX1_countOf_5 rfl rfl ?_
    refine jg_InputText_length C (by first | assumption | exact kd_sums (by assumption) | exact kd_st1 (by assumption) | exact kd_st2 (by assumption) | exact kd_ls (by first | assumption | exact kdL (by omega) | exact kdQ (by omega) | rfl) (by assumption) | exact kd_sb (by first | assumption | exact kdL (by omega) | exact kdQ (by omega) | rfl) (by assumption) | exact kd_sv (by assumption) | exact kdL (by omega) | exact kdQ (by omega) | rfl) qf_X1_15 dX1_countOf_6 ?_
    refine j_tope (y := nI m0) (by exact hm) ?_
    refine j_icmp_ge (tgt := 30) C dX1_countOf_9 (by decide) (fun h9 => ?_) (fun h9 => absurd (nI_le (by omega) (by omega)) h9)
    exact kx
  | succ j ih =>
    intro i hi
    refine j_iload_n C dX1_countOf_4 rfl rfl ?_
    refine j_aload_n C dX1_countOf_5 rfl rfl ?_
    refine jg_InputText_length C (by first | assumption | exact kd_sums (by assumption) | exact kd_st1 (by assumption) | exact kd_st2 (by assumption) | exact kd_ls (by first | assumption | exact kdL (by omega) | exact kdQ (by omega) | rfl) (by assumption) | exact kd_sb (by first | assumption | exact kdL (by omega) | exact kdQ (by omega) | rfl) (by assumption) | exact kd_sv (by assumption) | exact kdL (by omega) | exact kdQ (by omega) | rfl) qf_X1_15 dX1_countOf_6 ?_
    refine j_tope (y := nI m0) (by exact hm) ?_
    refine j_icmp_ge (tgt := 30) C dX1_countOf_9 (by decide) (fun h9 => absurd h9 (nI_ge (by omega) (by omega))) (fun h9 => ?_)
    refine j_aload_n C dX1_countOf_12 rfl rfl ?_
    refine j_iload_n C dX1_countOf_13 rfl rfl ?_
    refine j_callV1r C (oa_X1 (by first | assumption | exact kd_sums (by assumption) | exact kd_st1 (by assumption) | exact kd_st2 (by assumption) | exact kd_ls (by first | assumption | exact kdL (by omega) | exact kdQ (by omega) | rfl) (by assumption) | exact kd_sb (by first | assumption | exact kdL (by omega) | exact kdQ (by omega) | rfl) (by assumption) | exact kd_sv (by assumption) | exact kdL (by omega) | exact kdQ (by omega) | rfl)) rfl rfl (c_X1_codeAt hm (by omega) h60) qm_X1_19 qi_X1_codeAt qs_X1_codeAt qn_X1 qc_X1_codeAt fit_X1_codeAt ⟨Nat.le_of_ble_eq_true rfl, Nat.le_of_ble_eq_true rfl, Nat.le_of_ble_eq_true rfl, Nat.le_of_ble_eq_true rfl⟩ (Nat.le_of_ble_eq_true rfl) dX1_countOf_14 ?_
    refine j_iload_n C dX1_countOf_17 rfl rfl ?_
    refine j_icmp_ne (tgt := 24) C dX1_countOf_18 (by decide) (fun h18 => ?_) (fun h18 => ?_)
    · refine j_incN3 (q := 1) C dX1_countOf_24 (by decide) (Nat.le_of_ble_eq_true rfl) rfl ?_
      refine j_goto (tgt := 4) C dX1_countOf_27 (by decide) ?_
      refine j_mem (V' := V) (L' := L) (by rfl) rfl ?_
      exact j_dr (lv' := [some (.ref (ad g 219)), some (.int x), some (.int (sF (fun q => decide (V 220 q = x)) (fun _ => nI 1) (i + 1))), some (.int (nI (i + 1)))]) (And.intro rfl (And.intro rfl (And.intro (by first | exact congrArg (fun z => some (Value.int z)) (sF_t (decide_eq_true h18)) | exact congrArg (fun z => some (Value.int z)) (sF_f (mt of_decide_eq_true h18)) | exact congrArg (fun z => some (Value.int z)) (sF_t (decide_eq_true (Decidable.not_not.mp h18)))) (And.intro rfl True.intro)))) (ih (i + 1) (by omega))
    · refine j_inc2 C dX1_countOf_21 rfl (Nat.le_of_ble_eq_true rfl) rfl ?_
      refine j_incN3 (q := 1) C dX1_countOf_24 (by decide) (Nat.le_of_ble_eq_true rfl) rfl ?_
      refine j_goto (tgt := 4) C dX1_countOf_27 (by decide) ?_
      refine j_mem (V' := V) (L' := L) (by rfl) rfl ?_
      exact j_dr (lv' := [some (.ref (ad g 219)), some (.int x), some (.int (sF (fun q => decide (V 220 q = x)) (fun _ => nI 1) (i + 1))), some (.int (nI (i + 1)))]) (And.intro rfl (And.intro rfl (And.intro (by first | exact congrArg (fun z => some (Value.int z)) (sF_t (decide_eq_true h18)) | exact congrArg (fun z => some (Value.int z)) (sF_f (mt of_decide_eq_true h18)) | exact congrArg (fun z => some (Value.int z)) (sF_t (decide_eq_true (Decidable.not_not.mp h18)))) (And.intro rfl True.intro)))) (ih (i + 1) (by omega))
set_option maxHeartbeats 4000000 in
theorem c_X1_countOf {l : Launch} {g : GC} {V : Mem} {L : LMem} {m0 : Nat} {x : Int32} (hm : V 219 1 = nI m0) (h60 : m0 ≤ 60) : MC l yX1_countOf cX1_countOf 4 (some .int) 1 g V L [.ref (ad g 219), .int x] (some (.int (sF (fun q => decide (V 220 q = x)) (fun _ => nI 1) m0))) V L := by
  refine MC.of [some (.ref (ad g 219)), some (.int x), none, none] (by decide +kernel) rfl (Nat.le_of_ble_eq_true rfl) (fun p e s m args below meth c C => ?_)
  refine j_iconst (v := (nI 0)) C dX1_countOf_0 (by decide) ?_
  refine j_ist2 C dX1_countOf_1 rfl (Nat.le_of_ble_eq_true rfl) rfl ?_
  refine j_iconst (v := (nI 0)) C dX1_countOf_2 (by decide) ?_
  refine j_ist3 C dX1_countOf_3 rfl (Nat.le_of_ble_eq_true rfl) rfl ?_
  refine lp_X1_countOf C hm h60 ?_ m0 0 (by omega)
  refine j_iload_n C dX1_countOf_30 rfl rfl ?_
  exact j_iret C dX1_countOf_31 (by rfl) (by rfl) (by rfl)
def tdA (V : Mem) (pt : Nat) : Int32 := if V 221 2 = 0 then nI 0 else V 222 pt
def tdN (V : Mem) (pt : Nat) (d : Int32) : Int32 := nI 10 * tdA V pt + d
abbrev tdOk (V : Mem) (pt : Nat) (d : Int32) : Prop := ¬ (0 < V 221 2 ∧ tdA V pt = 0) ∧ ¬ tdN V pt d < lopN pt ∧ ¬ mopN pt < tdN V pt d
def tdM (V : Mem) (pt : Nat) (d : Int32) : Mem := mset (mset V 222 pt (tdN V pt d)) 221 2 (V 221 2 + nI 1)
def pB (V : Mem) (x : Int32) : Int32 := if x = nI 42 then (if V 221 1 = 0 then nI 1 else -1) else if x = nI 43 then (if V 221 1 = nI 2 then nI 3 else -1) else if x = nI 59 then (if nI 2 ≤ V 221 1 then nI 0 else -1) else if x = nI 64 then (if V 221 1 = nI 1 then nI 2 else -1) else -1
abbrev tsOk (V : Mem) (x : Int32) : Prop := ¬ V 221 2 = 0 ∧ ¬ pB V x = -1
def tsM (V : Mem) (x : Int32) : Mem := mset (mset V 221 1 (pB V x)) 221 2 (nI 0)
abbrev isD (x : Int32) : Prop := nI 48 ≤ x ∧ x ≤ nI 57
abbrev tkOk (V : Mem) (x : Int32) : Prop := if isD x then tdOk V (V 221 1).toNatClampNeg (x - nI 48) else tsOk V x
def tkM (V : Mem) (x : Int32) : Mem := if tkOk V x then (if isD x then tdM V (V 221 1).toNatClampNeg (x - nI 48) else tsM V x) else V
set_option maxHeartbeats 4000000 in
theorem c_X3_restart {l : Launch} {g : GC} {V : Mem} {L : LMem}  : MC l yX3_restart cX3_restart 1 (Option.none : Option Jvm.ClassFile.FieldType) 0 g V L [.ref (ad g 221)] none (mset (mset V 221 1 (nI 0)) 221 2 (nI 0)) L := by
  refine MC.of [some (.ref (ad g 221))] (by decide +kernel) rfl (Nat.le_of_ble_eq_true rfl) (fun p e s m args below meth c C => ?_)
  refine j_aload_n C dX3_restart_0 rfl rfl ?_
  refine j_iconst (v := (nI 0)) C dX3_restart_1 (by decide) ?_
  refine jp_LeaseReader_part C (by first | assumption | exact kd_sums (by assumption) | exact kd_st1 (by assumption) | exact kd_st2 (by assumption) | exact kd_ls (by first | assumption | exact kdL (by omega) | exact kdQ (by omega) | rfl) (by assumption) | exact kd_sb (by first | assumption | exact kdL (by omega) | exact kdQ (by omega) | rfl) (by assumption) | exact kd_sv (by assumption) | exact kdL (by omega) | exact kdQ (by omega) | rfl) qf_X3_15 dX3_restart_2 ?_
  refine j_aload_n C dX3_restart_5 rfl rfl ?_
  refine j_iconst (v := (nI 0)) C dX3_restart_6 (by decide) ?_
  refine jp_LeaseReader_digits C (by first | assumption | exact kd_sums (by assumption) | exact kd_st1 (by assumption) | exact kd_st2 (by assumption) | exact kd_ls (by first | assumption | exact kdL (by omega) | exact kdQ (by omega) | rfl) (by assumption) | exact kd_sb (by first | assumption | exact kdL (by omega) | exact kdQ (by omega) | rfl) (by assumption) | exact kd_sv (by assumption) | exact kdL (by omega) | exact kdQ (by omega) | rfl) qf_X3_19 dX3_restart_7 ?_
  exact j_vret C dX3_restart_10 rfl (by rfl) (by rfl)
set_option maxHeartbeats 4000000 in
theorem c_X3_isComplete {l : Launch} {g : GC} {V : Mem} {L : LMem}  : MC l yX3_isComplete cX3_isComplete 1 (some .boolean) 0 g V L [.ref (ad g 221)] (some (.int (b2i (nI 2 ≤ V 221 1 ∧ 0 < V 221 2)))) V L := by
  refine MC.of [some (.ref (ad g 221))] (by decide +kernel) rfl (Nat.le_of_ble_eq_true rfl) (fun p e s m args below meth c C => ?_)
  refine j_aload_n C dX3_isComplete_0 rfl rfl ?_
  refine jg_LeaseReader_part C (by first | assumption | exact kd_sums (by assumption) | exact kd_st1 (by assumption) | exact kd_st2 (by assumption) | exact kd_ls (by first | assumption | exact kdL (by omega) | exact kdQ (by omega) | rfl) (by assumption) | exact kd_sb (by first | assumption | exact kdL (by omega) | exact kdQ (by omega) | rfl) (by assumption) | exact kd_sv (by assumption) | exact kdL (by omega) | exact kdQ (by omega) | rfl) qf_X3_15 dX3_isComplete_1 ?_
  refine j_iconst (v := (nI 2)) C dX3_isComplete_4 (by decide) ?_
  refine j_icmp_lt (tgt := 19) C dX3_isComplete_5 (by decide) (fun h5 => ?_) (fun h5 => ?_)
  · refine j_iconst (v := (nI 0)) C dX3_isComplete_19 (by decide) ?_
    exact j_zret C dX3_isComplete_20 (by first | rfl | exact nar_b2i) (by first | (refine b2i_t ?_; simp_all; done) | (refine b2i_f ?_; simp_all; done) | (refine b2i_t ?_; simp only [Int32.lt_iff_toInt_lt, Int32.le_iff_toInt_le] at *; omega) | (refine b2i_f ?_; simp only [Int32.lt_iff_toInt_lt, Int32.le_iff_toInt_le] at *; omega)) (by rfl) (by rfl)
  · refine j_aload_n C dX3_isComplete_8 rfl rfl ?_
    refine jg_LeaseReader_digits C (by first | assumption | exact kd_sums (by assumption) | exact kd_st1 (by assumption) | exact kd_st2 (by assumption) | exact kd_ls (by first | assumption | exact kdL (by omega) | exact kdQ (by omega) | rfl) (by assumption) | exact kd_sb (by first | assumption | exact kdL (by omega) | exact kdQ (by omega) | rfl) (by assumption) | exact kd_sv (by assumption) | exact kdL (by omega) | exact kdQ (by omega) | rfl) qf_X3_19 dX3_isComplete_9 ?_
    refine j_if_le (tgt := 19) C dX3_isComplete_12 (by decide) (fun h12 => ?_) (fun h12 => ?_)
    · refine j_iconst (v := (nI 0)) C dX3_isComplete_19 (by decide) ?_
      exact j_zret C dX3_isComplete_20 (by first | rfl | exact nar_b2i) (by first | (refine b2i_t ?_; simp_all; done) | (refine b2i_f ?_; simp_all; done) | (refine b2i_t ?_; simp only [Int32.lt_iff_toInt_lt, Int32.le_iff_toInt_le] at *; omega) | (refine b2i_f ?_; simp only [Int32.lt_iff_toInt_lt, Int32.le_iff_toInt_le] at *; omega)) (by rfl) (by rfl)
    · refine j_iconst (v := (nI 1)) C dX3_isComplete_15 (by decide) ?_
      refine j_goto (tgt := 20) C dX3_isComplete_16 (by decide) ?_
      exact j_zret C dX3_isComplete_20 (by first | rfl | exact nar_b2i) (by first | (refine b2i_t ?_; simp_all; done) | (refine b2i_f ?_; simp_all; done) | (refine b2i_t ?_; simp only [Int32.lt_iff_toInt_lt, Int32.le_iff_toInt_le] at *; omega) | (refine b2i_f ?_; simp only [Int32.lt_iff_toInt_lt, Int32.le_iff_toInt_le] at *; omega)) (by rfl) (by rfl)
set_option maxHeartbeats 4000000 in
theorem c_X3_numberOf {l : Launch} {g : GC} {V : Mem} {L : LMem} {pt : Nat} (hp : V 221 1 = nI pt) (hp4 : pt < 4) {w : Nat} (hw : w < 4) : MC l yX3_numberOf cX3_numberOf 2 (some .int) 0 g V L [.ref (ad g 221), .int (nI w)] (some (.int (if w ≤ pt then V 222 w else nI 0))) V L := by
  refine MC.of [some (.ref (ad g 221)), some (.int (nI w))] (by decide +kernel) rfl (Nat.le_of_ble_eq_true rfl) (fun p e s m args below meth c C => ?_)
  refine j_iload_n C dX3_numberOf_0 rfl rfl ?_
  refine j_if_lt (tgt := 30) C dX3_numberOf_1 (by decide) (fun h1 => absurd h1 (nI_pos (by omega))) (fun h1 => ?_)
  refine j_iload_n C dX3_numberOf_4 rfl rfl ?_
  refine j_aload_n C dX3_numberOf_5 rfl rfl ?_
  refine jg_LeaseReader_part C (by first | assumption | exact kd_sums (by assumption) | exact kd_st1 (by assumption) | exact kd_st2 (by assumption) | exact kd_ls (by first | assumption | exact kdL (by omega) | exact kdQ (by omega) | rfl) (by assumption) | exact kd_sb (by first | assumption | exact kdL (by omega) | exact kdQ (by omega) | rfl) (by assumption) | exact kd_sv (by assumption) | exact kdL (by omega) | exact kdQ (by omega) | rfl) qf_X3_15 dX3_numberOf_6 ?_
  refine j_tope (y := nI pt) (by exact hp) ?_
  refine j_icmp_gt (tgt := 30) C dX3_numberOf_9 (by decide) (fun h9 => ?_) (fun h9 => ?_)
  · have hq : ¬ w ≤ pt := fun q => absurd (nI_le q (by omega)) (Int32.not_le.mpr h9)
    refine j_iconst (v := (nI 0)) C dX3_numberOf_30 (by decide) ?_
    exact j_iret C dX3_numberOf_31 (by first | rw [if_pos hq] | rw [if_neg hq]) (by rfl) (by rfl)
  · have hq : w ≤ pt := i_ge (by omega) (by omega) (Int32.not_lt.mp h9)
    refine j_iload_n C dX3_numberOf_12 rfl rfl ?_
    refine j_aload_n C dX3_numberOf_13 rfl rfl ?_
    refine jg_LeaseReader_numbers C (by first | assumption | exact kd_sums (by assumption) | exact kd_st1 (by assumption) | exact kd_st2 (by assumption) | exact kd_ls (by first | assumption | exact kdL (by omega) | exact kdQ (by omega) | rfl) (by assumption) | exact kd_sb (by first | assumption | exact kdL (by omega) | exact kdQ (by omega) | rfl) (by assumption) | exact kd_sv (by assumption) | exact kdL (by omega) | exact kdQ (by omega) | rfl) qf_X3_9 dX3_numberOf_14 ?_
    refine j_alen C (by first | assumption | exact kd_sums (by assumption) | exact kd_st1 (by assumption) | exact kd_st2 (by assumption) | exact kd_ls (by first | assumption | exact kdL (by omega) | exact kdQ (by omega) | rfl) (by assumption) | exact kd_sb (by first | assumption | exact kdL (by omega) | exact kdQ (by omega) | rfl) (by assumption) | exact kd_sv (by assumption) | exact kdL (by omega) | exact kdQ (by omega) | rfl) rfl rfl dX3_numberOf_17 ?_
    refine j_icmp_ge (tgt := 30) C dX3_numberOf_18 (by decide) (fun h18 => absurd h18 (nI_ge (by omega) (by omega))) (fun h18 => ?_)
    refine j_aload_n C dX3_numberOf_21 rfl rfl ?_
    refine jg_LeaseReader_numbers C (by first | assumption | exact kd_sums (by assumption) | exact kd_st1 (by assumption) | exact kd_st2 (by assumption) | exact kd_ls (by first | assumption | exact kdL (by omega) | exact kdQ (by omega) | rfl) (by assumption) | exact kd_sb (by first | assumption | exact kdL (by omega) | exact kdQ (by omega) | rfl) (by assumption) | exact kd_sv (by assumption) | exact kdL (by omega) | exact kdQ (by omega) | rfl) qf_X3_9 dX3_numberOf_22 ?_
    refine j_iload_n C dX3_numberOf_25 rfl rfl ?_
    refine j_ialdN C (by first | assumption | exact kd_sums (by assumption) | exact kd_st1 (by assumption) | exact kd_st2 (by assumption) | exact kd_ls (by first | assumption | exact kdL (by omega) | exact kdQ (by omega) | rfl) (by assumption) | exact kd_sb (by first | assumption | exact kdL (by omega) | exact kdQ (by omega) | rfl) (by assumption) | exact kd_sv (by assumption) | exact kdL (by omega) | exact kdQ (by omega) | rfl) rfl rfl (by omega) dX3_numberOf_26 ?_
    refine j_goto (tgt := 31) C dX3_numberOf_27 (by decide) ?_
    exact j_iret C dX3_numberOf_31 (by first | rw [if_pos hq] | rw [if_neg hq]) (by rfl) (by rfl)
set_option maxHeartbeats 4000000 in
theorem c_X3_takeDigit {l : Launch} {g : GC} {V : Mem} {L : LMem} {pt : Nat} (hp : V 221 1 = nI pt) (hp4 : pt < 4) {d : Int32} : MC l yX3_takeDigit cX3_takeDigit 5 (some .boolean) 0 g V L [.ref (ad g 221), .int d] (some (.int (b2i (tdOk V pt d)))) (if tdOk V pt d then tdM V pt d else V) L := by
  refine MC.of [some (.ref (ad g 221)), some (.int d), none, none, none] (by decide +kernel) rfl (Nat.le_of_ble_eq_true rfl) (fun p e s m args below meth c C => ?_)
  refine j_aload_n C dX3_takeDigit_0 rfl rfl ?_
  refine jg_LeaseReader_part C (by first | assumption | exact kd_sums (by assumption) | exact kd_st1 (by assumption) | exact kd_st2 (by assumption) | exact kd_ls (by first | assumption | exact kdL (by omega) | exact kdQ (by omega) | rfl) (by assumption) | exact kd_sb (by first | assumption | exact kdL (by omega) | exact kdQ (by omega) | rfl) (by assumption) | exact kd_sv (by assumption) | exact kdL (by omega) | exact kdQ (by omega) | rfl) qf_X3_15 dX3_takeDigit_1 ?_
  refine j_tope (y := nI pt) (by exact hp) ?_
  refine j_if_lt (tgt := 41) C dX3_takeDigit_4 (by decide) (fun h4 => absurd h4 (nI_pos (by omega))) (fun h4 => ?_)
  refine j_aload_n C dX3_takeDigit_7 rfl rfl ?_
  refine jg_LeaseReader_part C (by first | assumption | exact kd_sums (by assumption) | exact kd_st1 (by assumption) | exact kd_st2 (by assumption) | exact kd_ls (by first | assumption | exact kdL (by omega) | exact kdQ (by omega) | rfl) (by assumption) | exact kd_sb (by first | assumption | exact kdL (by omega) | exact kdQ (by omega) | rfl) (by assumption) | exact kd_sv (by assumption) | exact kdL (by omega) | exact kdQ (by omega) | rfl) qf_X3_15 dX3_takeDigit_8 ?_
  refine j_tope (y := nI pt) (by exact hp) ?_
  refine j_aload_n C dX3_takeDigit_11 rfl rfl ?_
  refine jg_LeaseReader_numbers C (by first | assumption | exact kd_sums (by assumption) | exact kd_st1 (by assumption) | exact kd_st2 (by assumption) | exact kd_ls (by first | assumption | exact kdL (by omega) | exact kdQ (by omega) | rfl) (by assumption) | exact kd_sb (by first | assumption | exact kdL (by omega) | exact kdQ (by omega) | rfl) (by assumption) | exact kd_sv (by assumption) | exact kdL (by omega) | exact kdQ (by omega) | rfl) qf_X3_9 dX3_takeDigit_12 ?_
  refine j_alen C (by first | assumption | exact kd_sums (by assumption) | exact kd_st1 (by assumption) | exact kd_st2 (by assumption) | exact kd_ls (by first | assumption | exact kdL (by omega) | exact kdQ (by omega) | rfl) (by assumption) | exact kd_sb (by first | assumption | exact kdL (by omega) | exact kdQ (by omega) | rfl) (by assumption) | exact kd_sv (by assumption) | exact kdL (by omega) | exact kdQ (by omega) | rfl) rfl rfl dX3_takeDigit_15 ?_
  refine j_icmp_ge (tgt := 41) C dX3_takeDigit_16 (by decide) (fun h16 => absurd h16 (nI_ge (by omega) (by omega))) (fun h16 => ?_)
  refine j_aload_n C dX3_takeDigit_19 rfl rfl ?_
  refine jg_LeaseReader_part C (by first | assumption | exact kd_sums (by assumption) | exact kd_st1 (by assumption) | exact kd_st2 (by assumption) | exact kd_ls (by first | assumption | exact kdL (by omega) | exact kdQ (by omega) | rfl) (by assumption) | exact kd_sb (by first | assumption | exact kdL (by omega) | exact kdQ (by omega) | rfl) (by assumption) | exact kd_sv (by assumption) | exact kdL (by omega) | exact kdQ (by omega) | rfl) qf_X3_15 dX3_takeDigit_20 ?_
  refine j_tope (y := nI pt) (by exact hp) ?_
  refine j_getsT C nl_44 C.lop dX3_takeDigit_23 (fun t23 ht23 => ?_)
  refine j_lenT C ht23 dX3_takeDigit_26 ?_
  refine j_icmp_ge (tgt := 41) C dX3_takeDigit_27 (by decide) (fun h27 => absurd h27 (nI_ge (by omega) (by omega))) (fun h27 => ?_)
  refine j_aload_n C dX3_takeDigit_30 rfl rfl ?_
  refine jg_LeaseReader_part C (by first | assumption | exact kd_sums (by assumption) | exact kd_st1 (by assumption) | exact kd_st2 (by assumption) | exact kd_ls (by first | assumption | exact kdL (by omega) | exact kdQ (by omega) | rfl) (by assumption) | exact kd_sb (by first | assumption | exact kdL (by omega) | exact kdQ (by omega) | rfl) (by assumption) | exact kd_sv (by assumption) | exact kdL (by omega) | exact kdQ (by omega) | rfl) qf_X3_15 dX3_takeDigit_31 ?_
  refine j_tope (y := nI pt) (by exact hp) ?_
  refine j_getsT C nl_47 C.mop dX3_takeDigit_34 (fun t34 ht34 => ?_)
  refine j_lenT C ht34 dX3_takeDigit_37 ?_
  refine j_icmp_lt (tgt := 43) C dX3_takeDigit_38 (by decide) (fun h38 => ?_) (fun h38 => absurd (nI_lt (by omega) (by omega)) h38)
  refine j_aload_n C dX3_takeDigit_43 rfl rfl ?_
  refine jg_LeaseReader_digits C (by first | assumption | exact kd_sums (by assumption) | exact kd_st1 (by assumption) | exact kd_st2 (by assumption) | exact kd_ls (by first | assumption | exact kdL (by omega) | exact kdQ (by omega) | rfl) (by assumption) | exact kd_sb (by first | assumption | exact kdL (by omega) | exact kdQ (by omega) | rfl) (by assumption) | exact kd_sv (by assumption) | exact kdL (by omega) | exact kdQ (by omega) | rfl) qf_X3_19 dX3_takeDigit_44 ?_
  refine j_if_ne (tgt := 54) C dX3_takeDigit_47 (by decide) (fun h47 => ?_) (fun h47 => ?_)
  · refine j_aload_n C dX3_takeDigit_54 rfl rfl ?_
    refine jg_LeaseReader_numbers C (by first | assumption | exact kd_sums (by assumption) | exact kd_st1 (by assumption) | exact kd_st2 (by assumption) | exact kd_ls (by first | assumption | exact kdL (by omega) | exact kdQ (by omega) | rfl) (by assumption) | exact kd_sb (by first | assumption | exact kdL (by omega) | exact kdQ (by omega) | rfl) (by assumption) | exact kd_sv (by assumption) | exact kdL (by omega) | exact kdQ (by omega) | rfl) qf_X3_9 dX3_takeDigit_55 ?_
    refine j_aload_n C dX3_takeDigit_58 rfl rfl ?_
    refine jg_LeaseReader_part C (by first | assumption | exact kd_sums (by assumption) | exact kd_st1 (by assumption) | exact kd_st2 (by assumption) | exact kd_ls (by first | assumption | exact kdL (by omega) | exact kdQ (by omega) | rfl) (by assumption) | exact kd_sb (by first | assumption | exact kdL (by omega) | exact kdQ (by omega) | rfl) (by assumption) | exact kd_sv (by assumption) | exact kdL (by omega) | exact kdQ (by omega) | rfl) qf_X3_15 dX3_takeDigit_59 ?_
    refine j_tope (y := nI pt) (by exact hp) ?_
    refine j_ialdN C (by first | assumption | exact kd_sums (by assumption) | exact kd_st1 (by assumption) | exact kd_st2 (by assumption) | exact kd_ls (by first | assumption | exact kdL (by omega) | exact kdQ (by omega) | rfl) (by assumption) | exact kd_sb (by first | assumption | exact kdL (by omega) | exact kdQ (by omega) | rfl) (by assumption) | exact kd_sv (by assumption) | exact kdL (by omega) | exact kdQ (by omega) | rfl) rfl rfl (by omega) dX3_takeDigit_62 ?_
    refine j_tope (y := tdA V pt) (by unfold tdA; rw [if_neg h47]) ?_
    refine j_ist2 C dX3_takeDigit_63 rfl (Nat.le_of_ble_eq_true rfl) rfl ?_
    refine j_aload_n C dX3_takeDigit_64 rfl rfl ?_
    refine jg_LeaseReader_digits C (by first | assumption | exact kd_sums (by assumption) | exact kd_st1 (by assumption) | exact kd_st2 (by assumption) | exact kd_ls (by first | assumption | exact kdL (by omega) | exact kdQ (by omega) | rfl) (by assumption) | exact kd_sb (by first | assumption | exact kdL (by omega) | exact kdQ (by omega) | rfl) (by assumption) | exact kd_sv (by assumption) | exact kdL (by omega) | exact kdQ (by omega) | rfl) qf_X3_19 dX3_takeDigit_65 ?_
    refine j_if_le (tgt := 79) C dX3_takeDigit_68 (by decide) (fun h68 => ?_) (fun h68 => ?_)
    · have hl : ¬ (0 < V 221 2 ∧ tdA V pt = 0) := fun q => absurd q.1 (Int32.not_lt.mpr h68)
      refine j_iconst (v := (nI 0)) C dX3_takeDigit_79 (by decide) ?_
      refine j_ist3 C dX3_takeDigit_80 rfl (Nat.le_of_ble_eq_true rfl) rfl ?_
      refine j_bipush (v := (nI 10)) C dX3_takeDigit_81 (by decide) ?_
      refine j_iload_n C dX3_takeDigit_83 rfl rfl ?_
      refine j_imul C dX3_takeDigit_84 ?_
      refine j_iload_n C dX3_takeDigit_85 rfl rfl ?_
      refine j_iadd C dX3_takeDigit_86 ?_
      refine j_ist4 C dX3_takeDigit_87 (Nat.le_of_ble_eq_true rfl) rfl ?_
      refine j_iload_n C dX3_takeDigit_89 rfl rfl ?_
      refine j_if_ne (tgt := 119) C dX3_takeDigit_90 (by decide) (fun h90 => (by exact absurd h90 (by decide))) (fun h90 => ?_)
      refine j_iload C dX3_takeDigit_93 rfl ?_
      refine j_getsT C nl_44 C.lop dX3_takeDigit_95 (fun t95 ht95 => ?_)
      refine j_aload_n C dX3_takeDigit_98 rfl rfl ?_
      refine jg_LeaseReader_part C (by first | assumption | exact kd_sums (by assumption) | exact kd_st1 (by assumption) | exact kd_st2 (by assumption) | exact kd_ls (by first | assumption | exact kdL (by omega) | exact kdQ (by omega) | rfl) (by assumption) | exact kd_sb (by first | assumption | exact kdL (by omega) | exact kdQ (by omega) | rfl) (by assumption) | exact kd_sv (by assumption) | exact kdL (by omega) | exact kdQ (by omega) | rfl) qf_X3_15 dX3_takeDigit_99 ?_
      refine j_tope (y := nI pt) (by exact hp) ?_
      refine j_ialdT C ht95 rfl (by omega) dX3_takeDigit_102 ?_
      refine j_icmp_lt (tgt := 119) C dX3_takeDigit_103 (by decide) (fun h103 => ?_) (fun h103 => ?_)
      · have hk : ¬ tdOk V pt d := fun q => q.2.1 h103
        refine j_iconst (v := (nI 0)) C dX3_takeDigit_119 (by decide) ?_
        exact j_zret C dX3_takeDigit_120 (by first | rfl | exact nar_b2i) (by first | exact b2i_t hk | exact b2i_f hk) (by first | (rw [if_pos hk]; rfl) | rw [if_neg hk]) (by rfl)
      · refine j_iload C dX3_takeDigit_106 rfl ?_
        refine j_getsT C nl_47 C.mop dX3_takeDigit_108 (fun t108 ht108 => ?_)
        refine j_aload_n C dX3_takeDigit_111 rfl rfl ?_
        refine jg_LeaseReader_part C (by first | assumption | exact kd_sums (by assumption) | exact kd_st1 (by assumption) | exact kd_st2 (by assumption) | exact kd_ls (by first | assumption | exact kdL (by omega) | exact kdQ (by omega) | rfl) (by assumption) | exact kd_sb (by first | assumption | exact kdL (by omega) | exact kdQ (by omega) | rfl) (by assumption) | exact kd_sv (by assumption) | exact kdL (by omega) | exact kdQ (by omega) | rfl) qf_X3_15 dX3_takeDigit_112 ?_
        refine j_tope (y := nI pt) (by exact hp) ?_
        refine j_ialdT C ht108 rfl (by omega) dX3_takeDigit_115 ?_
        refine j_icmp_le (tgt := 121) C dX3_takeDigit_116 (by decide) (fun h116 => ?_) (fun h116 => ?_)
        · have hk : tdOk V pt d := ⟨hl, h103, Int32.not_lt.mpr h116⟩
          refine j_aload_n C dX3_takeDigit_121 rfl rfl ?_
          refine jg_LeaseReader_numbers C (by first | assumption | exact kd_sums (by assumption) | exact kd_st1 (by assumption) | exact kd_st2 (by assumption) | exact kd_ls (by first | assumption | exact kdL (by omega) | exact kdQ (by omega) | rfl) (by assumption) | exact kd_sb (by first | assumption | exact kdL (by omega) | exact kdQ (by omega) | rfl) (by assumption) | exact kd_sv (by assumption) | exact kdL (by omega) | exact kdQ (by omega) | rfl) qf_X3_9 dX3_takeDigit_122 ?_
          refine j_aload_n C dX3_takeDigit_125 rfl rfl ?_
          refine jg_LeaseReader_part C (by first | assumption | exact kd_sums (by assumption) | exact kd_st1 (by assumption) | exact kd_st2 (by assumption) | exact kd_ls (by first | assumption | exact kdL (by omega) | exact kdQ (by omega) | rfl) (by assumption) | exact kd_sb (by first | assumption | exact kdL (by omega) | exact kdQ (by omega) | rfl) (by assumption) | exact kd_sv (by assumption) | exact kdL (by omega) | exact kdQ (by omega) | rfl) qf_X3_15 dX3_takeDigit_126 ?_
          refine j_tope (y := nI pt) (by exact hp) ?_
          refine j_iload C dX3_takeDigit_129 rfl ?_
          refine j_iastN C (by first | assumption | exact kd_sums (by assumption) | exact kd_st1 (by assumption) | exact kd_st2 (by assumption) | exact kd_ls (by first | assumption | exact kdL (by omega) | exact kdQ (by omega) | rfl) (by assumption) | exact kd_sb (by first | assumption | exact kdL (by omega) | exact kdQ (by omega) | rfl) (by assumption) | exact kd_sv (by assumption) | exact kdL (by omega) | exact kdQ (by omega) | rfl) rfl rfl (by omega) dX3_takeDigit_131 ?_
          refine j_aload_n C dX3_takeDigit_132 rfl rfl ?_
          refine j_dup C dX3_takeDigit_133 rfl ?_
          refine jg_LeaseReader_digits C (by first | assumption | exact kd_sums (by assumption) | exact kd_st1 (by assumption) | exact kd_st2 (by assumption) | exact kd_ls (by first | assumption | exact kdL (by omega) | exact kdQ (by omega) | rfl) (by assumption) | exact kd_sb (by first | assumption | exact kdL (by omega) | exact kdQ (by omega) | rfl) (by assumption) | exact kd_sv (by assumption) | exact kdL (by omega) | exact kdQ (by omega) | rfl) qf_X3_19 dX3_takeDigit_134 ?_
          refine j_iconst (v := (nI 1)) C dX3_takeDigit_137 (by decide) ?_
          refine j_iadd C dX3_takeDigit_138 ?_
          refine jp_LeaseReader_digits C (by first | assumption | exact kd_sums (by assumption) | exact kd_st1 (by assumption) | exact kd_st2 (by assumption) | exact kd_ls (by first | assumption | exact kdL (by omega) | exact kdQ (by omega) | rfl) (by assumption) | exact kd_sb (by first | assumption | exact kdL (by omega) | exact kdQ (by omega) | rfl) (by assumption) | exact kd_sv (by assumption) | exact kdL (by omega) | exact kdQ (by omega) | rfl) qf_X3_19 dX3_takeDigit_139 ?_
          refine j_iconst (v := (nI 1)) C dX3_takeDigit_142 (by decide) ?_
          exact j_zret C dX3_takeDigit_143 (by first | rfl | exact nar_b2i) (by first | exact b2i_t hk | exact b2i_f hk) (by first | (rw [if_pos hk]; rfl) | rw [if_neg hk]) (by rfl)
        · have hk : ¬ tdOk V pt d := fun q => q.2.2 (Int32.not_le.mp h116)
          refine j_iconst (v := (nI 0)) C dX3_takeDigit_119 (by decide) ?_
          exact j_zret C dX3_takeDigit_120 (by first | rfl | exact nar_b2i) (by first | exact b2i_t hk | exact b2i_f hk) (by first | (rw [if_pos hk]; rfl) | rw [if_neg hk]) (by rfl)
    · refine j_iload_n C dX3_takeDigit_71 rfl rfl ?_
      refine j_if_ne (tgt := 79) C dX3_takeDigit_72 (by decide) (fun h72 => ?_) (fun h72 => ?_)
      · have hl : ¬ (0 < V 221 2 ∧ tdA V pt = 0) := fun q => absurd q.2 h72
        refine j_iconst (v := (nI 0)) C dX3_takeDigit_79 (by decide) ?_
        refine j_ist3 C dX3_takeDigit_80 rfl (Nat.le_of_ble_eq_true rfl) rfl ?_
        refine j_bipush (v := (nI 10)) C dX3_takeDigit_81 (by decide) ?_
        refine j_iload_n C dX3_takeDigit_83 rfl rfl ?_
        refine j_imul C dX3_takeDigit_84 ?_
        refine j_iload_n C dX3_takeDigit_85 rfl rfl ?_
        refine j_iadd C dX3_takeDigit_86 ?_
        refine j_ist4 C dX3_takeDigit_87 (Nat.le_of_ble_eq_true rfl) rfl ?_
        refine j_iload_n C dX3_takeDigit_89 rfl rfl ?_
        refine j_if_ne (tgt := 119) C dX3_takeDigit_90 (by decide) (fun h90 => (by exact absurd h90 (by decide))) (fun h90 => ?_)
        refine j_iload C dX3_takeDigit_93 rfl ?_
        refine j_getsT C nl_44 C.lop dX3_takeDigit_95 (fun t95 ht95 => ?_)
        refine j_aload_n C dX3_takeDigit_98 rfl rfl ?_
        refine jg_LeaseReader_part C (by first | assumption | exact kd_sums (by assumption) | exact kd_st1 (by assumption) | exact kd_st2 (by assumption) | exact kd_ls (by first | assumption | exact kdL (by omega) | exact kdQ (by omega) | rfl) (by assumption) | exact kd_sb (by first | assumption | exact kdL (by omega) | exact kdQ (by omega) | rfl) (by assumption) | exact kd_sv (by assumption) | exact kdL (by omega) | exact kdQ (by omega) | rfl) qf_X3_15 dX3_takeDigit_99 ?_
        refine j_tope (y := nI pt) (by exact hp) ?_
        refine j_ialdT C ht95 rfl (by omega) dX3_takeDigit_102 ?_
        refine j_icmp_lt (tgt := 119) C dX3_takeDigit_103 (by decide) (fun h103 => ?_) (fun h103 => ?_)
        · have hk : ¬ tdOk V pt d := fun q => q.2.1 h103
          refine j_iconst (v := (nI 0)) C dX3_takeDigit_119 (by decide) ?_
          exact j_zret C dX3_takeDigit_120 (by first | rfl | exact nar_b2i) (by first | exact b2i_t hk | exact b2i_f hk) (by first | (rw [if_pos hk]; rfl) | rw [if_neg hk]) (by rfl)
        · refine j_iload C dX3_takeDigit_106 rfl ?_
          refine j_getsT C nl_47 C.mop dX3_takeDigit_108 (fun t108 ht108 => ?_)
          refine j_aload_n C dX3_takeDigit_111 rfl rfl ?_
          refine jg_LeaseReader_part C (by first | assumption | exact kd_sums (by assumption) | exact kd_st1 (by assumption) | exact kd_st2 (by assumption) | exact kd_ls (by first | assumption | exact kdL (by omega) | exact kdQ (by omega) | rfl) (by assumption) | exact kd_sb (by first | assumption | exact kdL (by omega) | exact kdQ (by omega) | rfl) (by assumption) | exact kd_sv (by assumption) | exact kdL (by omega) | exact kdQ (by omega) | rfl) qf_X3_15 dX3_takeDigit_112 ?_
          refine j_tope (y := nI pt) (by exact hp) ?_
          refine j_ialdT C ht108 rfl (by omega) dX3_takeDigit_115 ?_
          refine j_icmp_le (tgt := 121) C dX3_takeDigit_116 (by decide) (fun h116 => ?_) (fun h116 => ?_)
          · have hk : tdOk V pt d := ⟨hl, h103, Int32.not_lt.mpr h116⟩
            refine j_aload_n C dX3_takeDigit_121 rfl rfl ?_
            refine jg_LeaseReader_numbers C (by first | assumption | exact kd_sums (by assumption) | exact kd_st1 (by assumption) | exact kd_st2 (by assumption) | exact kd_ls (by first | assumption | exact kdL (by omega) | exact kdQ (by omega) | rfl) (by assumption) | exact kd_sb (by first | assumption | exact kdL (by omega) | exact kdQ (by omega) | rfl) (by assumption) | exact kd_sv (by assumption) | exact kdL (by omega) | exact kdQ (by omega) | rfl) qf_X3_9 dX3_takeDigit_122 ?_
            refine j_aload_n C dX3_takeDigit_125 rfl rfl ?_
            refine jg_LeaseReader_part C (by first | assumption | exact kd_sums (by assumption) | exact kd_st1 (by assumption) | exact kd_st2 (by assumption) | exact kd_ls (by first | assumption | exact kdL (by omega) | exact kdQ (by omega) | rfl) (by assumption) | exact kd_sb (by first | assumption | exact kdL (by omega) | exact kdQ (by omega) | rfl) (by assumption) | exact kd_sv (by assumption) | exact kdL (by omega) | exact kdQ (by omega) | rfl) qf_X3_15 dX3_takeDigit_126 ?_
            refine j_tope (y := nI pt) (by exact hp) ?_
            refine j_iload C dX3_takeDigit_129 rfl ?_
            refine j_iastN C (by first | assumption | exact kd_sums (by assumption) | exact kd_st1 (by assumption) | exact kd_st2 (by assumption) | exact kd_ls (by first | assumption | exact kdL (by omega) | exact kdQ (by omega) | rfl) (by assumption) | exact kd_sb (by first | assumption | exact kdL (by omega) | exact kdQ (by omega) | rfl) (by assumption) | exact kd_sv (by assumption) | exact kdL (by omega) | exact kdQ (by omega) | rfl) rfl rfl (by omega) dX3_takeDigit_131 ?_
            refine j_aload_n C dX3_takeDigit_132 rfl rfl ?_
            refine j_dup C dX3_takeDigit_133 rfl ?_
            refine jg_LeaseReader_digits C (by first | assumption | exact kd_sums (by assumption) | exact kd_st1 (by assumption) | exact kd_st2 (by assumption) | exact kd_ls (by first | assumption | exact kdL (by omega) | exact kdQ (by omega) | rfl) (by assumption) | exact kd_sb (by first | assumption | exact kdL (by omega) | exact kdQ (by omega) | rfl) (by assumption) | exact kd_sv (by assumption) | exact kdL (by omega) | exact kdQ (by omega) | rfl) qf_X3_19 dX3_takeDigit_134 ?_
            refine j_iconst (v := (nI 1)) C dX3_takeDigit_137 (by decide) ?_
            refine j_iadd C dX3_takeDigit_138 ?_
            refine jp_LeaseReader_digits C (by first | assumption | exact kd_sums (by assumption) | exact kd_st1 (by assumption) | exact kd_st2 (by assumption) | exact kd_ls (by first | assumption | exact kdL (by omega) | exact kdQ (by omega) | rfl) (by assumption) | exact kd_sb (by first | assumption | exact kdL (by omega) | exact kdQ (by omega) | rfl) (by assumption) | exact kd_sv (by assumption) | exact kdL (by omega) | exact kdQ (by omega) | rfl) qf_X3_19 dX3_takeDigit_139 ?_
            refine j_iconst (v := (nI 1)) C dX3_takeDigit_142 (by decide) ?_
            exact j_zret C dX3_takeDigit_143 (by first | rfl | exact nar_b2i) (by first | exact b2i_t hk | exact b2i_f hk) (by first | (rw [if_pos hk]; rfl) | rw [if_neg hk]) (by rfl)
          · have hk : ¬ tdOk V pt d := fun q => q.2.2 (Int32.not_le.mp h116)
            refine j_iconst (v := (nI 0)) C dX3_takeDigit_119 (by decide) ?_
            exact j_zret C dX3_takeDigit_120 (by first | rfl | exact nar_b2i) (by first | exact b2i_t hk | exact b2i_f hk) (by first | (rw [if_pos hk]; rfl) | rw [if_neg hk]) (by rfl)
      · have hk : ¬ tdOk V pt d := fun q => q.1 ⟨Int32.not_le.mp h68, h72⟩
        refine j_iconst (v := (nI 1)) C dX3_takeDigit_75 (by decide) ?_
        refine j_goto (tgt := 80) C dX3_takeDigit_76 (by decide) ?_
        refine j_ist3 C dX3_takeDigit_80 rfl (Nat.le_of_ble_eq_true rfl) rfl ?_
        refine j_bipush (v := (nI 10)) C dX3_takeDigit_81 (by decide) ?_
        refine j_iload_n C dX3_takeDigit_83 rfl rfl ?_
        refine j_imul C dX3_takeDigit_84 ?_
        refine j_iload_n C dX3_takeDigit_85 rfl rfl ?_
        refine j_iadd C dX3_takeDigit_86 ?_
        refine j_ist4 C dX3_takeDigit_87 (Nat.le_of_ble_eq_true rfl) rfl ?_
        refine j_iload_n C dX3_takeDigit_89 rfl rfl ?_
        refine j_if_ne (tgt := 119) C dX3_takeDigit_90 (by decide) (fun h90 => ?_) (fun h90 => (by exact absurd h90 (by decide)))
        refine j_iconst (v := (nI 0)) C dX3_takeDigit_119 (by decide) ?_
        exact j_zret C dX3_takeDigit_120 (by first | rfl | exact nar_b2i) (by first | exact b2i_t hk | exact b2i_f hk) (by first | (rw [if_pos hk]; rfl) | rw [if_neg hk]) (by rfl)
  · refine j_iconst (v := (nI 0)) C dX3_takeDigit_50 (by decide) ?_
    refine j_tope (y := tdA V pt) (by unfold tdA; rw [if_pos h47]) ?_
    refine j_goto (tgt := 63) C dX3_takeDigit_51 (by decide) ?_
    refine j_ist2 C dX3_takeDigit_63 rfl (Nat.le_of_ble_eq_true rfl) rfl ?_
    refine j_aload_n C dX3_takeDigit_64 rfl rfl ?_
    refine jg_LeaseReader_digits C (by first | assumption | exact kd_sums (by assumption) | exact kd_st1 (by assumption) | exact kd_st2 (by assumption) | exact kd_ls (by first | assumption | exact kdL (by omega) | exact kdQ (by omega) | rfl) (by assumption) | exact kd_sb (by first | assumption | exact kdL (by omega) | exact kdQ (by omega) | rfl) (by assumption) | exact kd_sv (by assumption) | exact kdL (by omega) | exact kdQ (by omega) | rfl) qf_X3_19 dX3_takeDigit_65 ?_
    refine j_if_le (tgt := 79) C dX3_takeDigit_68 (by decide) (fun h68 => ?_) (fun h68 => ?_)
    · have hl : ¬ (0 < V 221 2 ∧ tdA V pt = 0) := fun q => absurd q.1 (Int32.not_lt.mpr h68)
      refine j_iconst (v := (nI 0)) C dX3_takeDigit_79 (by decide) ?_
      refine j_ist3 C dX3_takeDigit_80 rfl (Nat.le_of_ble_eq_true rfl) rfl ?_
      refine j_bipush (v := (nI 10)) C dX3_takeDigit_81 (by decide) ?_
      refine j_iload_n C dX3_takeDigit_83 rfl rfl ?_
      refine j_imul C dX3_takeDigit_84 ?_
      refine j_iload_n C dX3_takeDigit_85 rfl rfl ?_
      refine j_iadd C dX3_takeDigit_86 ?_
      refine j_ist4 C dX3_takeDigit_87 (Nat.le_of_ble_eq_true rfl) rfl ?_
      refine j_iload_n C dX3_takeDigit_89 rfl rfl ?_
      refine j_if_ne (tgt := 119) C dX3_takeDigit_90 (by decide) (fun h90 => (by exact absurd h90 (by decide))) (fun h90 => ?_)
      refine j_iload C dX3_takeDigit_93 rfl ?_
      refine j_getsT C nl_44 C.lop dX3_takeDigit_95 (fun t95 ht95 => ?_)
      refine j_aload_n C dX3_takeDigit_98 rfl rfl ?_
      refine jg_LeaseReader_part C (by first | assumption | exact kd_sums (by assumption) | exact kd_st1 (by assumption) | exact kd_st2 (by assumption) | exact kd_ls (by first | assumption | exact kdL (by omega) | exact kdQ (by omega) | rfl) (by assumption) | exact kd_sb (by first | assumption | exact kdL (by omega) | exact kdQ (by omega) | rfl) (by assumption) | exact kd_sv (by assumption) | exact kdL (by omega) | exact kdQ (by omega) | rfl) qf_X3_15 dX3_takeDigit_99 ?_
      refine j_tope (y := nI pt) (by exact hp) ?_
      refine j_ialdT C ht95 rfl (by omega) dX3_takeDigit_102 ?_
      refine j_icmp_lt (tgt := 119) C dX3_takeDigit_103 (by decide) (fun h103 => ?_) (fun h103 => ?_)
      · have hk : ¬ tdOk V pt d := fun q => q.2.1 h103
        refine j_iconst (v := (nI 0)) C dX3_takeDigit_119 (by decide) ?_
        exact j_zret C dX3_takeDigit_120 (by first | rfl | exact nar_b2i) (by first | exact b2i_t hk | exact b2i_f hk) (by first | (rw [if_pos hk]; rfl) | rw [if_neg hk]) (by rfl)
      · refine j_iload C dX3_takeDigit_106 rfl ?_
        refine j_getsT C nl_47 C.mop dX3_takeDigit_108 (fun t108 ht108 => ?_)
        refine j_aload_n C dX3_takeDigit_111 rfl rfl ?_
        refine jg_LeaseReader_part C (by first | assumption | exact kd_sums (by assumption) | exact kd_st1 (by assumption) | exact kd_st2 (by assumption) | exact kd_ls (by first | assumption | exact kdL (by omega) | exact kdQ (by omega) | rfl) (by assumption) | exact kd_sb (by first | assumption | exact kdL (by omega) | exact kdQ (by omega) | rfl) (by assumption) | exact kd_sv (by assumption) | exact kdL (by omega) | exact kdQ (by omega) | rfl) qf_X3_15 dX3_takeDigit_112 ?_
        refine j_tope (y := nI pt) (by exact hp) ?_
        refine j_ialdT C ht108 rfl (by omega) dX3_takeDigit_115 ?_
        refine j_icmp_le (tgt := 121) C dX3_takeDigit_116 (by decide) (fun h116 => ?_) (fun h116 => ?_)
        · have hk : tdOk V pt d := ⟨hl, h103, Int32.not_lt.mpr h116⟩
          refine j_aload_n C dX3_takeDigit_121 rfl rfl ?_
          refine jg_LeaseReader_numbers C (by first | assumption | exact kd_sums (by assumption) | exact kd_st1 (by assumption) | exact kd_st2 (by assumption) | exact kd_ls (by first | assumption | exact kdL (by omega) | exact kdQ (by omega) | rfl) (by assumption) | exact kd_sb (by first | assumption | exact kdL (by omega) | exact kdQ (by omega) | rfl) (by assumption) | exact kd_sv (by assumption) | exact kdL (by omega) | exact kdQ (by omega) | rfl) qf_X3_9 dX3_takeDigit_122 ?_
          refine j_aload_n C dX3_takeDigit_125 rfl rfl ?_
          refine jg_LeaseReader_part C (by first | assumption | exact kd_sums (by assumption) | exact kd_st1 (by assumption) | exact kd_st2 (by assumption) | exact kd_ls (by first | assumption | exact kdL (by omega) | exact kdQ (by omega) | rfl) (by assumption) | exact kd_sb (by first | assumption | exact kdL (by omega) | exact kdQ (by omega) | rfl) (by assumption) | exact kd_sv (by assumption) | exact kdL (by omega) | exact kdQ (by omega) | rfl) qf_X3_15 dX3_takeDigit_126 ?_
          refine j_tope (y := nI pt) (by exact hp) ?_
          refine j_iload C dX3_takeDigit_129 rfl ?_
          refine j_iastN C (by first | assumption | exact kd_sums (by assumption) | exact kd_st1 (by assumption) | exact kd_st2 (by assumption) | exact kd_ls (by first | assumption | exact kdL (by omega) | exact kdQ (by omega) | rfl) (by assumption) | exact kd_sb (by first | assumption | exact kdL (by omega) | exact kdQ (by omega) | rfl) (by assumption) | exact kd_sv (by assumption) | exact kdL (by omega) | exact kdQ (by omega) | rfl) rfl rfl (by omega) dX3_takeDigit_131 ?_
          refine j_aload_n C dX3_takeDigit_132 rfl rfl ?_
          refine j_dup C dX3_takeDigit_133 rfl ?_
          refine jg_LeaseReader_digits C (by first | assumption | exact kd_sums (by assumption) | exact kd_st1 (by assumption) | exact kd_st2 (by assumption) | exact kd_ls (by first | assumption | exact kdL (by omega) | exact kdQ (by omega) | rfl) (by assumption) | exact kd_sb (by first | assumption | exact kdL (by omega) | exact kdQ (by omega) | rfl) (by assumption) | exact kd_sv (by assumption) | exact kdL (by omega) | exact kdQ (by omega) | rfl) qf_X3_19 dX3_takeDigit_134 ?_
          refine j_iconst (v := (nI 1)) C dX3_takeDigit_137 (by decide) ?_
          refine j_iadd C dX3_takeDigit_138 ?_
          refine jp_LeaseReader_digits C (by first | assumption | exact kd_sums (by assumption) | exact kd_st1 (by assumption) | exact kd_st2 (by assumption) | exact kd_ls (by first | assumption | exact kdL (by omega) | exact kdQ (by omega) | rfl) (by assumption) | exact kd_sb (by first | assumption | exact kdL (by omega) | exact kdQ (by omega) | rfl) (by assumption) | exact kd_sv (by assumption) | exact kdL (by omega) | exact kdQ (by omega) | rfl) qf_X3_19 dX3_takeDigit_139 ?_
          refine j_iconst (v := (nI 1)) C dX3_takeDigit_142 (by decide) ?_
          exact j_zret C dX3_takeDigit_143 (by first | rfl | exact nar_b2i) (by first | exact b2i_t hk | exact b2i_f hk) (by first | (rw [if_pos hk]; rfl) | rw [if_neg hk]) (by rfl)
        · have hk : ¬ tdOk V pt d := fun q => q.2.2 (Int32.not_le.mp h116)
          refine j_iconst (v := (nI 0)) C dX3_takeDigit_119 (by decide) ?_
          exact j_zret C dX3_takeDigit_120 (by first | rfl | exact nar_b2i) (by first | exact b2i_t hk | exact b2i_f hk) (by first | (rw [if_pos hk]; rfl) | rw [if_neg hk]) (by rfl)
    · refine j_iload_n C dX3_takeDigit_71 rfl rfl ?_
      refine j_if_ne (tgt := 79) C dX3_takeDigit_72 (by decide) (fun h72 => ?_) (fun h72 => ?_)
      · have hl : ¬ (0 < V 221 2 ∧ tdA V pt = 0) := fun q => absurd q.2 h72
        refine j_iconst (v := (nI 0)) C dX3_takeDigit_79 (by decide) ?_
        refine j_ist3 C dX3_takeDigit_80 rfl (Nat.le_of_ble_eq_true rfl) rfl ?_
        refine j_bipush (v := (nI 10)) C dX3_takeDigit_81 (by decide) ?_
        refine j_iload_n C dX3_takeDigit_83 rfl rfl ?_
        refine j_imul C dX3_takeDigit_84 ?_
        refine j_iload_n C dX3_takeDigit_85 rfl rfl ?_
        refine j_iadd C dX3_takeDigit_86 ?_
        refine j_ist4 C dX3_takeDigit_87 (Nat.le_of_ble_eq_true rfl) rfl ?_
        refine j_iload_n C dX3_takeDigit_89 rfl rfl ?_
        refine j_if_ne (tgt := 119) C dX3_takeDigit_90 (by decide) (fun h90 => (by exact absurd h90 (by decide))) (fun h90 => ?_)
        refine j_iload C dX3_takeDigit_93 rfl ?_
        refine j_getsT C nl_44 C.lop dX3_takeDigit_95 (fun t95 ht95 => ?_)
        refine j_aload_n C dX3_takeDigit_98 rfl rfl ?_
        refine jg_LeaseReader_part C (by first | assumption | exact kd_sums (by assumption) | exact kd_st1 (by assumption) | exact kd_st2 (by assumption) | exact kd_ls (by first | assumption | exact kdL (by omega) | exact kdQ (by omega) | rfl) (by assumption) | exact kd_sb (by first | assumption | exact kdL (by omega) | exact kdQ (by omega) | rfl) (by assumption) | exact kd_sv (by assumption) | exact kdL (by omega) | exact kdQ (by omega) | rfl) qf_X3_15 dX3_takeDigit_99 ?_
        refine j_tope (y := nI pt) (by exact hp) ?_
        refine j_ialdT C ht95 rfl (by omega) dX3_takeDigit_102 ?_
        refine j_icmp_lt (tgt := 119) C dX3_takeDigit_103 (by decide) (fun h103 => ?_) (fun h103 => ?_)
        · have hk : ¬ tdOk V pt d := fun q => q.2.1 h103
          refine j_iconst (v := (nI 0)) C dX3_takeDigit_119 (by decide) ?_
          exact j_zret C dX3_takeDigit_120 (by first | rfl | exact nar_b2i) (by first | exact b2i_t hk | exact b2i_f hk) (by first | (rw [if_pos hk]; rfl) | rw [if_neg hk]) (by rfl)
        · refine j_iload C dX3_takeDigit_106 rfl ?_
          refine j_getsT C nl_47 C.mop dX3_takeDigit_108 (fun t108 ht108 => ?_)
          refine j_aload_n C dX3_takeDigit_111 rfl rfl ?_
          refine jg_LeaseReader_part C (by first | assumption | exact kd_sums (by assumption) | exact kd_st1 (by assumption) | exact kd_st2 (by assumption) | exact kd_ls (by first | assumption | exact kdL (by omega) | exact kdQ (by omega) | rfl) (by assumption) | exact kd_sb (by first | assumption | exact kdL (by omega) | exact kdQ (by omega) | rfl) (by assumption) | exact kd_sv (by assumption) | exact kdL (by omega) | exact kdQ (by omega) | rfl) qf_X3_15 dX3_takeDigit_112 ?_
          refine j_tope (y := nI pt) (by exact hp) ?_
          refine j_ialdT C ht108 rfl (by omega) dX3_takeDigit_115 ?_
          refine j_icmp_le (tgt := 121) C dX3_takeDigit_116 (by decide) (fun h116 => ?_) (fun h116 => ?_)
          · have hk : tdOk V pt d := ⟨hl, h103, Int32.not_lt.mpr h116⟩
            refine j_aload_n C dX3_takeDigit_121 rfl rfl ?_
            refine jg_LeaseReader_numbers C (by first | assumption | exact kd_sums (by assumption) | exact kd_st1 (by assumption) | exact kd_st2 (by assumption) | exact kd_ls (by first | assumption | exact kdL (by omega) | exact kdQ (by omega) | rfl) (by assumption) | exact kd_sb (by first | assumption | exact kdL (by omega) | exact kdQ (by omega) | rfl) (by assumption) | exact kd_sv (by assumption) | exact kdL (by omega) | exact kdQ (by omega) | rfl) qf_X3_9 dX3_takeDigit_122 ?_
            refine j_aload_n C dX3_takeDigit_125 rfl rfl ?_
            refine jg_LeaseReader_part C (by first | assumption | exact kd_sums (by assumption) | exact kd_st1 (by assumption) | exact kd_st2 (by assumption) | exact kd_ls (by first | assumption | exact kdL (by omega) | exact kdQ (by omega) | rfl) (by assumption) | exact kd_sb (by first | assumption | exact kdL (by omega) | exact kdQ (by omega) | rfl) (by assumption) | exact kd_sv (by assumption) | exact kdL (by omega) | exact kdQ (by omega) | rfl) qf_X3_15 dX3_takeDigit_126 ?_
            refine j_tope (y := nI pt) (by exact hp) ?_
            refine j_iload C dX3_takeDigit_129 rfl ?_
            refine j_iastN C (by first | assumption | exact kd_sums (by assumption) | exact kd_st1 (by assumption) | exact kd_st2 (by assumption) | exact kd_ls (by first | assumption | exact kdL (by omega) | exact kdQ (by omega) | rfl) (by assumption) | exact kd_sb (by first | assumption | exact kdL (by omega) | exact kdQ (by omega) | rfl) (by assumption) | exact kd_sv (by assumption) | exact kdL (by omega) | exact kdQ (by omega) | rfl) rfl rfl (by omega) dX3_takeDigit_131 ?_
            refine j_aload_n C dX3_takeDigit_132 rfl rfl ?_
            refine j_dup C dX3_takeDigit_133 rfl ?_
            refine jg_LeaseReader_digits C (by first | assumption | exact kd_sums (by assumption) | exact kd_st1 (by assumption) | exact kd_st2 (by assumption) | exact kd_ls (by first | assumption | exact kdL (by omega) | exact kdQ (by omega) | rfl) (by assumption) | exact kd_sb (by first | assumption | exact kdL (by omega) | exact kdQ (by omega) | rfl) (by assumption) | exact kd_sv (by assumption) | exact kdL (by omega) | exact kdQ (by omega) | rfl) qf_X3_19 dX3_takeDigit_134 ?_
            refine j_iconst (v := (nI 1)) C dX3_takeDigit_137 (by decide) ?_
            refine j_iadd C dX3_takeDigit_138 ?_
            refine jp_LeaseReader_digits C (by first | assumption | exact kd_sums (by assumption) | exact kd_st1 (by assumption) | exact kd_st2 (by assumption) | exact kd_ls (by first | assumption | exact kdL (by omega) | exact kdQ (by omega) | rfl) (by assumption) | exact kd_sb (by first | assumption | exact kdL (by omega) | exact kdQ (by omega) | rfl) (by assumption) | exact kd_sv (by assumption) | exact kdL (by omega) | exact kdQ (by omega) | rfl) qf_X3_19 dX3_takeDigit_139 ?_
            refine j_iconst (v := (nI 1)) C dX3_takeDigit_142 (by decide) ?_
            exact j_zret C dX3_takeDigit_143 (by first | rfl | exact nar_b2i) (by first | exact b2i_t hk | exact b2i_f hk) (by first | (rw [if_pos hk]; rfl) | rw [if_neg hk]) (by rfl)
          · have hk : ¬ tdOk V pt d := fun q => q.2.2 (Int32.not_le.mp h116)
            refine j_iconst (v := (nI 0)) C dX3_takeDigit_119 (by decide) ?_
            exact j_zret C dX3_takeDigit_120 (by first | rfl | exact nar_b2i) (by first | exact b2i_t hk | exact b2i_f hk) (by first | (rw [if_pos hk]; rfl) | rw [if_neg hk]) (by rfl)
      · have hk : ¬ tdOk V pt d := fun q => q.1 ⟨Int32.not_le.mp h68, h72⟩
        refine j_iconst (v := (nI 1)) C dX3_takeDigit_75 (by decide) ?_
        refine j_goto (tgt := 80) C dX3_takeDigit_76 (by decide) ?_
        refine j_ist3 C dX3_takeDigit_80 rfl (Nat.le_of_ble_eq_true rfl) rfl ?_
        refine j_bipush (v := (nI 10)) C dX3_takeDigit_81 (by decide) ?_
        refine j_iload_n C dX3_takeDigit_83 rfl rfl ?_
        refine j_imul C dX3_takeDigit_84 ?_
        refine j_iload_n C dX3_takeDigit_85 rfl rfl ?_
        refine j_iadd C dX3_takeDigit_86 ?_
        refine j_ist4 C dX3_takeDigit_87 (Nat.le_of_ble_eq_true rfl) rfl ?_
        refine j_iload_n C dX3_takeDigit_89 rfl rfl ?_
        refine j_if_ne (tgt := 119) C dX3_takeDigit_90 (by decide) (fun h90 => ?_) (fun h90 => (by exact absurd h90 (by decide)))
        refine j_iconst (v := (nI 0)) C dX3_takeDigit_119 (by decide) ?_
        exact j_zret C dX3_takeDigit_120 (by first | rfl | exact nar_b2i) (by first | exact b2i_t hk | exact b2i_f hk) (by first | (rw [if_pos hk]; rfl) | rw [if_neg hk]) (by rfl)
theorem lk_def {x : Int32} (h1 : ¬ x = nI 42) (h2 : ¬ x = nI 43) (h3 : ¬ x = nI 59) (h4 : ¬ x = nI 64) : Op.lookupswitch.offset (#[((42 : Int), (43 : Int)), (43, 70), (59, 84), (64, 56)] : Array (Int × Int)).toList 98 x.toInt = 98 := by
  have g1 : ¬ (42 : Int) = x.toInt := fun q => h1 (Int32.toInt_inj.mp q.symm)
  have g2 : ¬ (43 : Int) = x.toInt := fun q => h2 (Int32.toInt_inj.mp q.symm)
  have g3 : ¬ (59 : Int) = x.toInt := fun q => h3 (Int32.toInt_inj.mp q.symm)
  have g4 : ¬ (64 : Int) = x.toInt := fun q => h4 (Int32.toInt_inj.mp q.symm)
  simp [Op.lookupswitch.offset, g1, g2, g3, g4]
set_option maxHeartbeats 4000000 in
theorem c_X3_partBehind {l : Launch} {g : GC} {V : Mem} {L : LMem} {x : Int32} : MC l yX3_partBehind cX3_partBehind 2 (some .int) 0 g V L [.ref (ad g 221), .int x] (some (.int (pB V x))) V L := by
  refine MC.of [some (.ref (ad g 221)), some (.int x)] (by decide +kernel) rfl (Nat.le_of_ble_eq_true rfl) (fun p e s m args below meth c C => ?_)
  refine j_iload_n C dX3_partBehind_0 rfl rfl ?_
  by_cases hx42 : x = nI 42
  · refine j_lookup (off := 43) (tgt := 44) C dX3_partBehind_1 (by decide) (by rw [hx42]; decide) (by decide) ?_
    refine j_aload_n C dX3_partBehind_44 rfl rfl ?_
    refine jg_LeaseReader_part C (by first | assumption | exact kd_sums (by assumption) | exact kd_st1 (by assumption) | exact kd_st2 (by assumption) | exact kd_ls (by first | assumption | exact kdL (by omega) | exact kdQ (by omega) | rfl) (by assumption) | exact kd_sb (by first | assumption | exact kdL (by omega) | exact kdQ (by omega) | rfl) (by assumption) | exact kd_sv (by assumption) | exact kdL (by omega) | exact kdQ (by omega) | rfl) qf_X3_15 dX3_partBehind_45 ?_
    refine j_if_ne (tgt := 55) C dX3_partBehind_48 (by decide) (fun h48 => ?_) (fun h48 => ?_)
    · refine j_iconst (v := (-1)) C dX3_partBehind_55 (by decide) ?_
      exact j_iret C dX3_partBehind_56 (by unfold pB; rw [if_pos hx42]; first | (rw [if_pos (by assumption)]; done) | (rw [if_neg (by assumption)]; done) | (rw [if_pos (Int32.not_lt.mp (by assumption))]; done) | (rw [if_neg (Int32.not_le.mpr (by assumption))]; done)) (by rfl) (by rfl)
    · refine j_iconst (v := (nI 1)) C dX3_partBehind_51 (by decide) ?_
      refine j_goto (tgt := 56) C dX3_partBehind_52 (by decide) ?_
      exact j_iret C dX3_partBehind_56 (by unfold pB; rw [if_pos hx42]; first | (rw [if_pos (by assumption)]; done) | (rw [if_neg (by assumption)]; done) | (rw [if_pos (Int32.not_lt.mp (by assumption))]; done) | (rw [if_neg (Int32.not_le.mpr (by assumption))]; done)) (by rfl) (by rfl)
  by_cases hx43 : x = nI 43
  · refine j_lookup (off := 70) (tgt := 71) C dX3_partBehind_1 (by decide) (by rw [hx43]; decide) (by decide) ?_
    refine j_aload_n C dX3_partBehind_71 rfl rfl ?_
    refine jg_LeaseReader_part C (by first | assumption | exact kd_sums (by assumption) | exact kd_st1 (by assumption) | exact kd_st2 (by assumption) | exact kd_ls (by first | assumption | exact kdL (by omega) | exact kdQ (by omega) | rfl) (by assumption) | exact kd_sb (by first | assumption | exact kdL (by omega) | exact kdQ (by omega) | rfl) (by assumption) | exact kd_sv (by assumption) | exact kdL (by omega) | exact kdQ (by omega) | rfl) qf_X3_15 dX3_partBehind_72 ?_
    refine j_iconst (v := (nI 2)) C dX3_partBehind_75 (by decide) ?_
    refine j_icmp_ne (tgt := 83) C dX3_partBehind_76 (by decide) (fun h76 => ?_) (fun h76 => ?_)
    · refine j_iconst (v := (-1)) C dX3_partBehind_83 (by decide) ?_
      exact j_iret C dX3_partBehind_84 (by unfold pB; rw [if_neg hx42]; rw [if_pos hx43]; first | (rw [if_pos (by assumption)]; done) | (rw [if_neg (by assumption)]; done) | (rw [if_pos (Int32.not_lt.mp (by assumption))]; done) | (rw [if_neg (Int32.not_le.mpr (by assumption))]; done)) (by rfl) (by rfl)
    · refine j_iconst (v := (nI 3)) C dX3_partBehind_79 (by decide) ?_
      refine j_goto (tgt := 84) C dX3_partBehind_80 (by decide) ?_
      exact j_iret C dX3_partBehind_84 (by unfold pB; rw [if_neg hx42]; rw [if_pos hx43]; first | (rw [if_pos (by assumption)]; done) | (rw [if_neg (by assumption)]; done) | (rw [if_pos (Int32.not_lt.mp (by assumption))]; done) | (rw [if_neg (Int32.not_le.mpr (by assumption))]; done)) (by rfl) (by rfl)
  by_cases hx59 : x = nI 59
  · refine j_lookup (off := 84) (tgt := 85) C dX3_partBehind_1 (by decide) (by rw [hx59]; decide) (by decide) ?_
    refine j_aload_n C dX3_partBehind_85 rfl rfl ?_
    refine jg_LeaseReader_part C (by first | assumption | exact kd_sums (by assumption) | exact kd_st1 (by assumption) | exact kd_st2 (by assumption) | exact kd_ls (by first | assumption | exact kdL (by omega) | exact kdQ (by omega) | rfl) (by assumption) | exact kd_sb (by first | assumption | exact kdL (by omega) | exact kdQ (by omega) | rfl) (by assumption) | exact kd_sv (by assumption) | exact kdL (by omega) | exact kdQ (by omega) | rfl) qf_X3_15 dX3_partBehind_86 ?_
    refine j_iconst (v := (nI 2)) C dX3_partBehind_89 (by decide) ?_
    refine j_icmp_lt (tgt := 97) C dX3_partBehind_90 (by decide) (fun h90 => ?_) (fun h90 => ?_)
    · refine j_iconst (v := (-1)) C dX3_partBehind_97 (by decide) ?_
      exact j_iret C dX3_partBehind_98 (by unfold pB; rw [if_neg hx42]; rw [if_neg hx43]; rw [if_pos hx59]; first | (rw [if_pos (by assumption)]; done) | (rw [if_neg (by assumption)]; done) | (rw [if_pos (Int32.not_lt.mp (by assumption))]; done) | (rw [if_neg (Int32.not_le.mpr (by assumption))]; done)) (by rfl) (by rfl)
    · refine j_iconst (v := (nI 0)) C dX3_partBehind_93 (by decide) ?_
      refine j_goto (tgt := 98) C dX3_partBehind_94 (by decide) ?_
      exact j_iret C dX3_partBehind_98 (by unfold pB; rw [if_neg hx42]; rw [if_neg hx43]; rw [if_pos hx59]; first | (rw [if_pos (by assumption)]; done) | (rw [if_neg (by assumption)]; done) | (rw [if_pos (Int32.not_lt.mp (by assumption))]; done) | (rw [if_neg (Int32.not_le.mpr (by assumption))]; done)) (by rfl) (by rfl)
  by_cases hx64 : x = nI 64
  · refine j_lookup (off := 56) (tgt := 57) C dX3_partBehind_1 (by decide) (by rw [hx64]; decide) (by decide) ?_
    refine j_aload_n C dX3_partBehind_57 rfl rfl ?_
    refine jg_LeaseReader_part C (by first | assumption | exact kd_sums (by assumption) | exact kd_st1 (by assumption) | exact kd_st2 (by assumption) | exact kd_ls (by first | assumption | exact kdL (by omega) | exact kdQ (by omega) | rfl) (by assumption) | exact kd_sb (by first | assumption | exact kdL (by omega) | exact kdQ (by omega) | rfl) (by assumption) | exact kd_sv (by assumption) | exact kdL (by omega) | exact kdQ (by omega) | rfl) qf_X3_15 dX3_partBehind_58 ?_
    refine j_iconst (v := (nI 1)) C dX3_partBehind_61 (by decide) ?_
    refine j_icmp_ne (tgt := 69) C dX3_partBehind_62 (by decide) (fun h62 => ?_) (fun h62 => ?_)
    · refine j_iconst (v := (-1)) C dX3_partBehind_69 (by decide) ?_
      exact j_iret C dX3_partBehind_70 (by unfold pB; rw [if_neg hx42]; rw [if_neg hx43]; rw [if_neg hx59]; rw [if_pos hx64]; first | (rw [if_pos (by assumption)]; done) | (rw [if_neg (by assumption)]; done) | (rw [if_pos (Int32.not_lt.mp (by assumption))]; done) | (rw [if_neg (Int32.not_le.mpr (by assumption))]; done)) (by rfl) (by rfl)
    · refine j_iconst (v := (nI 2)) C dX3_partBehind_65 (by decide) ?_
      refine j_goto (tgt := 70) C dX3_partBehind_66 (by decide) ?_
      exact j_iret C dX3_partBehind_70 (by unfold pB; rw [if_neg hx42]; rw [if_neg hx43]; rw [if_neg hx59]; rw [if_pos hx64]; first | (rw [if_pos (by assumption)]; done) | (rw [if_neg (by assumption)]; done) | (rw [if_pos (Int32.not_lt.mp (by assumption))]; done) | (rw [if_neg (Int32.not_le.mpr (by assumption))]; done)) (by rfl) (by rfl)
  refine j_lookup (off := 98) (tgt := 99) C dX3_partBehind_1 (by decide) (lk_def (fun z => hx42 z) (fun z => hx43 z) (fun z => hx59 z) (fun z => hx64 z)) (by decide) ?_
  refine j_iconst (v := (-1)) C dX3_partBehind_99 (by decide) ?_
  exact j_iret C dX3_partBehind_100 (by unfold pB; rw [if_neg hx42]; rw [if_neg hx43]; rw [if_neg hx59]; rw [if_neg hx64]) (by rfl) (by rfl)
set_option maxHeartbeats 4000000 in
theorem c_X3_takeSign {l : Launch} {g : GC} {V : Mem} {L : LMem} {x : Int32} : MC l yX3_takeSign cX3_takeSign 3 (some .boolean) 1 g V L [.ref (ad g 221), .int x] (some (.int (b2i (tsOk V x)))) (if tsOk V x then tsM V x else V) L := by
  refine MC.of [some (.ref (ad g 221)), some (.int x), none] (by decide +kernel) rfl (Nat.le_of_ble_eq_true rfl) (fun p e s m args below meth c C => ?_)
  refine j_aload_n C dX3_takeSign_0 rfl rfl ?_
  refine j_iload_n C dX3_takeSign_1 rfl rfl ?_
  refine j_callV1r C (oa_X3 (by first | assumption | exact kd_sums (by assumption) | exact kd_st1 (by assumption) | exact kd_st2 (by assumption) | exact kd_ls (by first | assumption | exact kdL (by omega) | exact kdQ (by omega) | rfl) (by assumption) | exact kd_sb (by first | assumption | exact kdL (by omega) | exact kdQ (by omega) | rfl) (by assumption) | exact kd_sv (by assumption) | exact kdL (by omega) | exact kdQ (by omega) | rfl)) rfl rfl (c_X3_partBehind) qm_X3_50 qi_X3_partBehind qs_X3_partBehind qn_X3 qc_X3_partBehind fit_X3_partBehind ⟨Nat.le_of_ble_eq_true rfl, Nat.le_of_ble_eq_true rfl, Nat.le_of_ble_eq_true rfl, Nat.le_of_ble_eq_true rfl⟩ (Nat.le_of_ble_eq_true rfl) dX3_takeSign_2 ?_
  refine j_ist2 C dX3_takeSign_5 rfl (Nat.le_of_ble_eq_true rfl) rfl ?_
  refine j_aload_n C dX3_takeSign_6 rfl rfl ?_
  refine jg_LeaseReader_digits C (by first | assumption | exact kd_sums (by assumption) | exact kd_st1 (by assumption) | exact kd_st2 (by assumption) | exact kd_ls (by first | assumption | exact kdL (by omega) | exact kdQ (by omega) | rfl) (by assumption) | exact kd_sb (by first | assumption | exact kdL (by omega) | exact kdQ (by omega) | rfl) (by assumption) | exact kd_sv (by assumption) | exact kdL (by omega) | exact kdQ (by omega) | rfl) qf_X3_19 dX3_takeSign_7 ?_
  refine j_if_eq (tgt := 18) C dX3_takeSign_10 (by decide) (fun h10 => ?_) (fun h10 => ?_)
  · have hk : ¬ tsOk V x := fun q => q.1 h10
    refine j_iconst (v := (nI 0)) C dX3_takeSign_18 (by decide) ?_
    exact j_zret C dX3_takeSign_19 (by first | rfl | exact nar_b2i) (by first | exact b2i_t hk | exact b2i_f hk) (by first | (rw [if_pos hk]; rfl) | rw [if_neg hk]) (by rfl)
  · refine j_iload_n C dX3_takeSign_13 rfl rfl ?_
    refine j_iconst (v := (-1)) C dX3_takeSign_14 (by decide) ?_
    refine j_icmp_ne (tgt := 20) C dX3_takeSign_15 (by decide) (fun h15 => ?_) (fun h15 => ?_)
    · have hk : tsOk V x := ⟨h10, h15⟩
      refine j_aload_n C dX3_takeSign_20 rfl rfl ?_
      refine j_iload_n C dX3_takeSign_21 rfl rfl ?_
      refine jp_LeaseReader_part C (by first | assumption | exact kd_sums (by assumption) | exact kd_st1 (by assumption) | exact kd_st2 (by assumption) | exact kd_ls (by first | assumption | exact kdL (by omega) | exact kdQ (by omega) | rfl) (by assumption) | exact kd_sb (by first | assumption | exact kdL (by omega) | exact kdQ (by omega) | rfl) (by assumption) | exact kd_sv (by assumption) | exact kdL (by omega) | exact kdQ (by omega) | rfl) qf_X3_15 dX3_takeSign_22 ?_
      refine j_aload_n C dX3_takeSign_25 rfl rfl ?_
      refine j_iconst (v := (nI 0)) C dX3_takeSign_26 (by decide) ?_
      refine jp_LeaseReader_digits C (by first | assumption | exact kd_sums (by assumption) | exact kd_st1 (by assumption) | exact kd_st2 (by assumption) | exact kd_ls (by first | assumption | exact kdL (by omega) | exact kdQ (by omega) | rfl) (by assumption) | exact kd_sb (by first | assumption | exact kdL (by omega) | exact kdQ (by omega) | rfl) (by assumption) | exact kd_sv (by assumption) | exact kdL (by omega) | exact kdQ (by omega) | rfl) qf_X3_19 dX3_takeSign_27 ?_
      refine j_iconst (v := (nI 1)) C dX3_takeSign_30 (by decide) ?_
      exact j_zret C dX3_takeSign_31 (by first | rfl | exact nar_b2i) (by first | exact b2i_t hk | exact b2i_f hk) (by first | (rw [if_pos hk]; rfl) | rw [if_neg hk]) (by rfl)
    · have hk : ¬ tsOk V x := fun q => q.2 h15
      refine j_iconst (v := (nI 0)) C dX3_takeSign_18 (by decide) ?_
      exact j_zret C dX3_takeSign_19 (by first | rfl | exact nar_b2i) (by first | exact b2i_t hk | exact b2i_f hk) (by first | (rw [if_pos hk]; rfl) | rw [if_neg hk]) (by rfl)
theorem tk_d {V : Mem} {x : Int32} {pt : Nat} (hp : V 221 1 = nI pt) (hp4 : pt < 4) (h : isD x) : (tkOk V x ↔ tdOk V pt (x - nI 48)) ∧ tkM V x = if tdOk V pt (x - nI 48) then tdM V pt (x - nI 48) else V := by
  have e1 : (V 221 1).toNatClampNeg = pt := by rw [hp]; exact nI_clN (by omega)
  have e2 : tkOk V x ↔ tdOk V pt (x - nI 48) := by unfold tkOk; rw [if_pos h, e1]
  refine ⟨e2, ?_⟩
  unfold tkM
  by_cases q : tdOk V pt (x - nI 48)
  · rw [if_pos (e2.mpr q), if_pos h, if_pos q, e1]
  · rw [if_neg (fun z => q (e2.mp z)), if_neg q]
theorem tk_s {V : Mem} {x : Int32} (h : ¬ isD x) : (tkOk V x ↔ tsOk V x) ∧ tkM V x = if tsOk V x then tsM V x else V := by
  have e2 : tkOk V x ↔ tsOk V x := by unfold tkOk; rw [if_neg h]
  refine ⟨e2, ?_⟩
  unfold tkM
  by_cases q : tsOk V x
  · rw [if_pos (e2.mpr q), if_neg h, if_pos q]
  · rw [if_neg (fun z => q (e2.mp z)), if_neg q]
theorem b2i_iff {P P' : Prop} [Decidable P] [Decidable P'] (h : P ↔ P') : b2i P = b2i P' := by
  unfold b2i
  by_cases q : P
  · rw [if_pos q, if_pos (h.mp q)]
  · rw [if_neg q, if_neg (fun z => q (h.mpr z))]
theorem opt_int {a b : Int32} (h : a = b) : some (Value.int a) = some (Value.int b) := by rw [h]
set_option maxHeartbeats 4000000 in
theorem c_X3_take {l : Launch} {g : GC} {V : Mem} {L : LMem} {pt : Nat} (hp : V 221 1 = nI pt) (hp4 : pt < 4) {x : Int32} : MC l yX3_take cX3_take 2 (some .boolean) 2 g V L [.ref (ad g 221), .int x] (some (.int (b2i (tkOk V x)))) (tkM V x) L := by
  refine MC.of [some (.ref (ad g 221)), some (.int x)] (by decide +kernel) rfl (Nat.le_of_ble_eq_true rfl) (fun p e s m args below meth c C => ?_)
  refine j_iload_n C dX3_take_0 rfl rfl ?_
  refine j_bipush (v := (nI 48)) C dX3_take_1 (by decide) ?_
  refine j_icmp_lt (tgt := 23) C dX3_take_3 (by decide) (fun h3 => ?_) (fun h3 => ?_)
  · have hk := tk_s (V := V) (x := x) (fun q => absurd q.1 (Int32.not_le.mpr h3))
    refine j_aload_n C dX3_take_23 rfl rfl ?_
    refine j_iload_n C dX3_take_24 rfl rfl ?_
    refine j_callV1r C (oa_X3 (by first | assumption | exact kd_sums (by assumption) | exact kd_st1 (by assumption) | exact kd_st2 (by assumption) | exact kd_ls (by first | assumption | exact kdL (by omega) | exact kdQ (by omega) | rfl) (by assumption) | exact kd_sb (by first | assumption | exact kdL (by omega) | exact kdQ (by omega) | rfl) (by assumption) | exact kd_sv (by assumption) | exact kdL (by omega) | exact kdQ (by omega) | rfl)) rfl rfl (c_X3_takeSign) qm_X3_41 qi_X3_takeSign qs_X3_takeSign qn_X3 qc_X3_takeSign fit_X3_takeSign ⟨Nat.le_of_ble_eq_true rfl, Nat.le_of_ble_eq_true rfl, Nat.le_of_ble_eq_true rfl, Nat.le_of_ble_eq_true rfl⟩ (Nat.le_of_ble_eq_true rfl) dX3_take_25 ?_
    exact j_zret C dX3_take_28 (by first | rfl | exact nar_b2i) (by exact opt_int (b2i_iff hk.1)) (by exact hk.2.symm) (by rfl)
  · refine j_iload_n C dX3_take_6 rfl rfl ?_
    refine j_bipush (v := (nI 57)) C dX3_take_7 (by decide) ?_
    refine j_icmp_gt (tgt := 23) C dX3_take_9 (by decide) (fun h9 => ?_) (fun h9 => ?_)
    · have hk := tk_s (V := V) (x := x) (fun q => absurd q.2 (Int32.not_le.mpr h9))
      refine j_aload_n C dX3_take_23 rfl rfl ?_
      refine j_iload_n C dX3_take_24 rfl rfl ?_
      refine j_callV1r C (oa_X3 (by first | assumption | exact kd_sums (by assumption) | exact kd_st1 (by assumption) | exact kd_st2 (by assumption) | exact kd_ls (by first | assumption | exact kdL (by omega) | exact kdQ (by omega) | rfl) (by assumption) | exact kd_sb (by first | assumption | exact kdL (by omega) | exact kdQ (by omega) | rfl) (by assumption) | exact kd_sv (by assumption) | exact kdL (by omega) | exact kdQ (by omega) | rfl)) rfl rfl (c_X3_takeSign) qm_X3_41 qi_X3_takeSign qs_X3_takeSign qn_X3 qc_X3_takeSign fit_X3_takeSign ⟨Nat.le_of_ble_eq_true rfl, Nat.le_of_ble_eq_true rfl, Nat.le_of_ble_eq_true rfl, Nat.le_of_ble_eq_true rfl⟩ (Nat.le_of_ble_eq_true rfl) dX3_take_25 ?_
      exact j_zret C dX3_take_28 (by first | rfl | exact nar_b2i) (by exact opt_int (b2i_iff hk.1)) (by exact hk.2.symm) (by rfl)
    · have hk := tk_d (V := V) (x := x) hp hp4 ⟨Int32.not_lt.mp h3, Int32.not_lt.mp h9⟩
      refine j_aload_n C dX3_take_12 rfl rfl ?_
      refine j_iload_n C dX3_take_13 rfl rfl ?_
      refine j_bipush (v := (nI 48)) C dX3_take_14 (by decide) ?_
      refine j_isub C dX3_take_16 ?_
      refine j_callV1r C (oa_X3 (by first | assumption | exact kd_sums (by assumption) | exact kd_st1 (by assumption) | exact kd_st2 (by assumption) | exact kd_ls (by first | assumption | exact kdL (by omega) | exact kdQ (by omega) | rfl) (by assumption) | exact kd_sb (by first | assumption | exact kdL (by omega) | exact kdQ (by omega) | rfl) (by assumption) | exact kd_sv (by assumption) | exact kdL (by omega) | exact kdQ (by omega) | rfl)) rfl rfl (c_X3_takeDigit hp hp4) qm_X3_38 qi_X3_takeDigit qs_X3_takeDigit qn_X3 qc_X3_takeDigit fit_X3_takeDigit ⟨Nat.le_of_ble_eq_true rfl, Nat.le_of_ble_eq_true rfl, Nat.le_of_ble_eq_true rfl, Nat.le_of_ble_eq_true rfl⟩ (Nat.le_of_ble_eq_true rfl) dX3_take_17 ?_
      refine j_goto (tgt := 28) C dX3_take_20 (by decide) ?_
      exact j_zret C dX3_take_28 (by first | rfl | exact nar_b2i) (by exact opt_int (b2i_iff hk.1)) (by exact hk.2.symm) (by rfl)
