/-! BIRTH: the history, the register, the model -/
def HT (g : GC) (F : Nat → Nat) : Nat → va_W
  | 0 => []
  | i + 1 => HT g F i ++ BX4 g (F (31 + 31 * i)) (fun r => F (31 + 31 * i + r))
theorem HT.cg {g : GC} {F F' : Nat → Nat} : ∀ i, (∀ r, r < 31 + 31 * i → F' r = F r) → HT g F' i = HT g F i
  | 0, _ => rfl
  | i + 1, h => by
    rw [HT, HT, HT.cg i (fun r hr => h r (by omega)), h (31 + 31 * i) (by omega), BX4.cg (F := fun r => F (31 + 31 * i + r)) (fun r h1 h2 => h _ (by omega))]
abbrev H0w (g : GC) (h i : Nat) (F : Nat → Nat) : va_W := [(h, .inr (0, [.ref (F 218), .int 0, .int 0])), (F 218, qA (ca g 4) 6 (AR F 31 31 i))]
abbrev H1w (g : GC) (h i : Nat) (F : Nat → Nat) : va_W := H0w g h i F ++ HT g F i
def BX0 (g : GC) (h : Nat) (F : Nat → Nat) : va_W := H1w g h 6 F
/-- F, but from b on 31 addresses of another one -/
def upT (F : Nat → Nat) (b q : Nat) (G : Nat → Nat) : Nat → Nat := fun r => if r = b then q else if b < r ∧ r < b + 31 then G (r - b) else F r
theorem upT_b {F G : Nat → Nat} {b q : Nat} : upT F b q G b = q := if_pos rfl
theorem upT_o {F G : Nat → Nat} {b q r : Nat} (h : r < b ∨ b + 31 ≤ r) : upT F b q G r = F r := (if_neg (by omega)).trans (if_neg (by omega))
theorem upT_i {F G : Nat → Nat} {b q r : Nat} (h : 1 ≤ r) (h2 : r < 31) : upT F b q G (b + r) = G r := (if_neg (by omega)).trans ((if_pos ⟨by omega, by omega⟩).trans (by rw [show b + r - b = r by omega]))
section BHIST
variable {p : Program} {l : Launch} {e : Env} {s : State} {m : MethodId} {args : Array Value} {below : List Frame} {meth : Method} {c : Code} {g : GC} {A : Nat → Prop} {Q : State → Prop}
set_option maxHeartbeats 4000000 in
theorem lb_X0 (C : Cn p s args m meth c cX0_init 2 yX0_init.cls g) (hA : ∀ q, s.heap.size ≤ q → A q) {h0 : Nat} (kx : ∀ F : Nat → Nat, JN p l e (RB 3 187 1692) s m args below meth c 2 g A 187 1692 Q (H1w g h0 6 F) 43 [some (.ref h0), some (.int (nI 6))] []) : ∀ (k i : Nat) (F : Nat → Nat), i + k = 6 → JN p l e (RB 3 187 1692) s m args below meth c 2 g A (1 + 31 * i) (6 + 281 * i) Q (H1w g h0 i F) 15 [some (.ref h0), some (.int (nI i))] [] := by
  intro k
  induction k with
  | zero =>
    intro i F hi
    have : i = 6 := by omega
    subst this
    refine n_iload_n C dX0_init_15 rfl rfl ?_
    refine n_aload_n C dX0_init_16 rfl rfl ?_
    refine n_get C lay_X0 0 rfl rfl 0 (by decide) qf_X0_11 rfl dX0_init_17 ?_
    refine n_alen C 1 4 rfl rfl (v := nI 6) rfl dX0_init_20 ?_
    refine n_icmp_ge (tgt := 43) C dX0_init_21 (by decide) (fun _ => kx F) (fun h => absurd (Int32.le_refl _) h)
  | succ k ih =>
    intro i F hi
    refine n_iload_n C dX0_init_15 rfl rfl ?_
    refine n_aload_n C dX0_init_16 rfl rfl ?_
    refine n_get C lay_X0 0 rfl rfl 0 (by decide) qf_X0_11 rfl dX0_init_17 ?_
    refine n_alen C 1 4 rfl rfl (v := nI 6) rfl dX0_init_20 ?_
    refine n_icmp_ge (tgt := 43) C dX0_init_21 (by decide) (fun h => absurd ((nI_leI (a := 6) (b := i) (by omega) (by omega)).mp h) (by omega)) (fun _ => ?_)
    refine n_aload_n C dX0_init_24 rfl rfl ?_
    refine n_get C lay_X0 0 rfl rfl 0 (by decide) qf_X0_11 rfl dX0_init_25 ?_
    refine n_iload_n C dX0_init_28 rfl rfl ?_
    refine n_new (ci := 4) (fs := [.null, .null, .int 0, .int 0, .int 0]) C hA lay_X4 tyX4 tyX4_ok ql_X0_9 qz_X4 qn_X4 rfl (fun j hj => by rcases (show j = 0 ∨ j = 1 ∨ j = 2 ∨ j = 3 ∨ j = 4 by omega) with rfl | rfl | rfl | rfl | rfl <;> rfl) (by show 1 + 31 * i + 1 ≤ 187; omega) (by show 6 + 281 * i + 5 ≤ 1692; omega) dX0_init_29 (fun q => ?_)
    refine n_dup C dX0_init_32 rfl ?_
    refine n_callI C hA b_X4 qm_X0_17 qn_X4 qi_X4_init qc_X4_init rfl (by decide +kernel) ⟨Nat.le_of_ble_eq_true rfl, Nat.le_of_ble_eq_true rfl, by show 1 + 31 * i + 1 + 30 ≤ 187; omega, by show 6 + 281 * i + 5 + 276 ≤ 1692; omega⟩ (Nat.le_of_ble_eq_true rfl) dX0_init_33 (fun F2 => ?_)
    refine n_aast (r := (RX4, TX4, 5)) C 1 4 _ 4 rfl rfl (last_at (ws := H1w g h0 i F)) rfl (by omega) (by omega) dX0_init_36 ?_
    refine n_inc1 (v := nI (i + 1)) C dX0_init_37 (nI_1 i) (by decide) rfl ?_
    refine n_goto (tgt := 15) C dX0_init_40 (by decide) ?_
    refine JN.widen (k' := 1 + 31 * (i + 1)) (n' := 6 + 281 * (i + 1)) (by omega) (by omega) ?_
    refine JN.eq ?_ (ih (i + 1) (upT F (31 + 31 * i) q F2) (by omega))
    have a1 : upT F (31 + 31 * i) q F2 218 = F 218 := upT_o (by omega)
    have a3 : upT F (31 + 31 * i) q F2 (31 + 31 * i) = q := upT_b
    unfold H1w H0w
    rw [HT, a1, a3, HT.cg (F := F) i (fun r hr => upT_o (by omega)), ← AR.up (F := F) (q := q) (fun j hj => upT_o (by omega)) a3, BX4.cg (F := F2) (fun r h1 h2 => upT_i h2 h1)]
    simp only [List.cons_append, List.nil_append, List.append_assoc, List.set_cons_succ, List.set_cons_zero]
end BHIST
set_option maxHeartbeats 4000000 in
theorem b_X0 {l : Launch} {g : GC} : BC l yX0_init cX0_init 2 3 187 1692 g eX0 (BX0 g) := by
  refine BC.of [none] (by decide +kernel) (fun _ => rfl) (by decide) (fun p e s m args below meth c h0 A C hmn hr hA => ?_) rfl
  refine n_aload_n C dX0_init_0 rfl rfl ?_
  refine n_obj C qm_X0_3 dX0_init_1 (Nat.le_of_ble_eq_true rfl) (Nat.le_of_ble_eq_true rfl) ?_
  refine n_aload_n C dX0_init_4 rfl rfl ?_
  refine n_bipush (v := nI 6) C dX0_init_5 (by decide) ?_
  refine n_newq C hA (i := 4) (N := 6) ql_X0_9 (by simp [AOs]) rfl (by decide) (by decide) (Nat.le_of_ble_eq_true rfl) (Nat.le_of_ble_eq_true rfl) (Nat.le_of_ble_eq_true rfl) dX0_init_7 (fun q1 => ?_)
  refine n_putF (ty := .array (.object "LeaseBook$State")) C hmn lay_X0 tyX0 tyX0_ok nmX0 0 rfl rfl 0 (by decide) qf_X0_11 rfl rfl (by decide +kernel) rfl rfl (Nat.le_of_ble_eq_true rfl) dX0_init_10 ?_
  refine n_iconst (v := nI 0) C dX0_init_13 (by decide) ?_
  refine n_istore_n C dX0_init_14 rfl (by decide) rfl rfl ?_
  refine JN.eq (ws' := H1w g h0 0 (fun _ => q1)) ?_ (lb_X0 C hA (fun F => ?_) 6 0 _ (by omega))
  · have e1 : (fun _ : Nat => (Option.none : Option Nat)) = AR (fun _ => q1) 31 31 0 := by funext j; exact (if_neg (by omega)).symm
    unfold H1w H0w
    rw [← e1]
    rfl
  · exact n_vret C hr F rfl dX0_init_43
/-- the register's cells, by role -/
def BX6 (g : GC) (h : Nat) (F : Nat → Nat) : va_W := ((([(h, .inr (6, [.ref (F 0), .ref (F 217), .ref (F 219), .ref (F 221)]))] ++ BX4 g (F 0) F) ++ BX0 g (F 217) F) ++ BX1 g (F 219) (fun _ => F 220)) ++ BX3 g (F 221) (fun _ => F 222)
def F6 (q0 q1 q2 q3 : Nat) (F0 F1 F2 F3 : Nat → Nat) (r : Nat) : Nat := if r = 0 then q0 else if r < 31 then F0 r else if r < 217 then F1 r else if r = 217 then q1 else if r = 218 then F1 218 else if r = 219 then q2 else if r = 220 then F2 0 else if r = 221 then q3 else F3 0
theorem F6_0 {q0 q1 q2 q3 r : Nat} {F0 F1 F2 F3 : Nat → Nat} (h : 1 ≤ r) (h2 : r < 31) : F6 q0 q1 q2 q3 F0 F1 F2 F3 r = F0 r := by
  unfold F6
  rw [if_neg (by omega), if_pos h2]
theorem F6_1 {q0 q1 q2 q3 r : Nat} {F0 F1 F2 F3 : Nat → Nat} (h : 31 ≤ r) (h2 : r < 217 ∨ r = 218) : F6 q0 q1 q2 q3 F0 F1 F2 F3 r = F1 r := by
  unfold F6
  by_cases h3 : r < 217
  · rw [if_neg (by omega), if_neg (by omega), if_pos h3]
  · have : r = 218 := by omega
    subst this
    rfl
theorem BX0.cg {g : GC} {h : Nat} {F F' : Nat → Nat} (e : ∀ r, 31 ≤ r → r < 217 ∨ r = 218 → F' r = F r) : BX0 g h F' = BX0 g h F := by
  have hh : ∀ i, i ≤ 6 → HT g F' i = HT g F i := by
    intro i
    induction i with
    | zero => intro _; rfl
    | succ i ih =>
      intro hi
      rw [HT, HT, ih (by omega), e (31 + 31 * i) (by omega) (by omega), BX4.cg (F := fun r => F (31 + 31 * i + r)) (fun r h1 h2 => e _ (by omega) (by omega))]
  unfold BX0 H1w H0w
  rw [hh 6 (by omega), e 218 (by omega) (by omega), AR.cg (F := F) (fun j hj => e _ (by omega) (by omega))]
set_option maxHeartbeats 4000000 in
theorem b_X6 {l : Launch} {g : GC} : BC l yX6_init cX6_init 1 4 223 2045 g eX6 (BX6 g) := by
  refine BC.of [] (by decide +kernel) (fun _ => rfl) (by decide) (fun p e s m args below meth c h0 A C hmn hr hA => ?_) rfl
  refine n_aload_n C dX6_init_0 rfl rfl ?_
  refine n_obj C qm_X6_3 dX6_init_1 (Nat.le_of_ble_eq_true rfl) (Nat.le_of_ble_eq_true rfl) ?_
  refine n_aload_n C dX6_init_4 rfl rfl ?_
  refine n_new (ci := 4) (fs := [.null, .null, .int 0, .int 0, .int 0]) C hA lay_X4 tyX4 tyX4_ok ql_X6_9 qz_X4 qn_X4 rfl (fun j hj => by rcases (show j = 0 ∨ j = 1 ∨ j = 2 ∨ j = 3 ∨ j = 4 by omega) with rfl | rfl | rfl | rfl | rfl <;> rfl) (Nat.le_of_ble_eq_true rfl) (Nat.le_of_ble_eq_true rfl) dX6_init_5 (fun q0 => ?_)
  refine n_dup C dX6_init_8 rfl ?_
  refine n_callI C hA b_X4 qm_X6_11 qn_X4 qi_X4_init qc_X4_init rfl (by decide +kernel) ⟨Nat.le_of_ble_eq_true rfl, Nat.le_of_ble_eq_true rfl, Nat.le_of_ble_eq_true rfl, Nat.le_of_ble_eq_true rfl⟩ (Nat.le_of_ble_eq_true rfl) dX6_init_9 (fun F0 => ?_)
  refine n_putF (ty := .object "LeaseBook$State") C hmn lay_X6 tyX6 tyX6_ok nmX6 0 rfl rfl 0 (by decide) qf_X6_12 rfl rfl (by decide +kernel) rfl rfl (Nat.le_of_ble_eq_true rfl) dX6_init_12 ?_
  refine JN.eq (ws' := [(h0, .inr (6, [.ref q0, .null, .null, .null]))] ++ BX4 g q0 F0) rfl ?_
  refine n_aload_n C dX6_init_15 rfl rfl ?_
  refine n_new (ci := 0) (fs := [.null, .int 0, .int 0]) C hA lay_X0 tyX0 tyX0_ok ql_X6_16 qz_X0 qn_X0 rfl (fun j hj => by rcases (show j = 0 ∨ j = 1 ∨ j = 2 by omega) with rfl | rfl | rfl <;> rfl) (Nat.le_of_ble_eq_true rfl) (Nat.le_of_ble_eq_true rfl) dX6_init_16 (fun q1 => ?_)
  refine n_dup C dX6_init_19 rfl ?_
  refine n_callI C hA b_X0 qm_X6_18 qn_X0 qi_X0_init qc_X0_init rfl (by decide +kernel) ⟨Nat.le_of_ble_eq_true rfl, Nat.le_of_ble_eq_true rfl, Nat.le_of_ble_eq_true rfl, Nat.le_of_ble_eq_true rfl⟩ (Nat.le_of_ble_eq_true rfl) dX6_init_20 (fun F1 => ?_)
  refine n_putF (ty := .object "LeaseBook$History") C hmn lay_X6 tyX6 tyX6_ok nmX6 0 rfl rfl 1 (by decide) qf_X6_19 rfl rfl (by decide +kernel) rfl rfl (Nat.le_of_ble_eq_true rfl) dX6_init_23 ?_
  refine JN.eq (ws' := ([(h0, .inr (6, [.ref q0, .ref q1, .null, .null]))] ++ BX4 g q0 F0) ++ BX0 g q1 F1) rfl ?_
  refine n_aload_n C dX6_init_26 rfl rfl ?_
  refine n_new (ci := 1) (fs := [.null, .int 0]) C hA lay_X1 tyX1 tyX1_ok ql_X6_23 qz_X1 qn_X1 rfl (fun j hj => by rcases (show j = 0 ∨ j = 1 by omega) with rfl | rfl <;> rfl) (Nat.le_of_ble_eq_true rfl) (Nat.le_of_ble_eq_true rfl) dX6_init_27 (fun q2 => ?_)
  refine n_dup C dX6_init_30 rfl ?_
  refine n_callN C hA b_X1 nb_25 qn_X1 qi_X1_init qc_X1_init rfl (by decide +kernel) ⟨Nat.le_of_ble_eq_true rfl, Nat.le_of_ble_eq_true rfl, Nat.le_of_ble_eq_true rfl, Nat.le_of_ble_eq_true rfl⟩ (Nat.le_of_ble_eq_true rfl) dX6_init_31 (fun F2 => ?_)
  refine n_putF (ty := .object "LeaseBook$InputText") C hmn lay_X6 tyX6 tyX6_ok nmX6 0 rfl rfl 2 (by decide) qf_X6_26 rfl rfl (by decide +kernel) rfl rfl (Nat.le_of_ble_eq_true rfl) dX6_init_34 ?_
  refine JN.eq (ws' := (([(h0, .inr (6, [.ref q0, .ref q1, .ref q2, .null]))] ++ BX4 g q0 F0) ++ BX0 g q1 F1) ++ BX1 g q2 F2) rfl ?_
  refine n_aload_n C dX6_init_37 rfl rfl ?_
  refine n_new (ci := 3) (fs := [.null, .int 0, .int 0]) C hA lay_X3 tyX3 tyX3_ok ql_X6_30 qz_X3 qn_X3 rfl (fun j hj => by rcases (show j = 0 ∨ j = 1 ∨ j = 2 by omega) with rfl | rfl | rfl <;> rfl) (Nat.le_of_ble_eq_true rfl) (Nat.le_of_ble_eq_true rfl) dX6_init_38 (fun q3 => ?_)
  refine n_dup C dX6_init_41 rfl ?_
  refine n_callN C hA b_X3 nb_32 qn_X3 qi_X3_init qc_X3_init rfl (by decide +kernel) ⟨Nat.le_of_ble_eq_true rfl, Nat.le_of_ble_eq_true rfl, Nat.le_of_ble_eq_true rfl, Nat.le_of_ble_eq_true rfl⟩ (Nat.le_of_ble_eq_true rfl) dX6_init_42 (fun F3 => ?_)
  refine n_putF (ty := .object "LeaseBook$LeaseReader") C hmn lay_X6 tyX6 tyX6_ok nmX6 0 rfl rfl 3 (by decide) qf_X6_33 rfl rfl (by decide +kernel) rfl rfl (Nat.le_of_ble_eq_true rfl) dX6_init_45 ?_
  refine n_vret C hr (F6 q0 q1 q2 q3 F0 F1 F2 F3) ?_ dX6_init_48
  show ((([(h0, .inr (6, [.ref q0, .ref q1, .ref q2, .ref q3]))] ++ BX4 g q0 F0) ++ BX0 g q1 F1) ++ BX1 g q2 F2) ++ BX3 g q3 F3 = _
  have e0 : F6 q0 q1 q2 q3 F0 F1 F2 F3 0 = q0 := rfl
  have e1 : F6 q0 q1 q2 q3 F0 F1 F2 F3 217 = q1 := rfl
  have e2 : F6 q0 q1 q2 q3 F0 F1 F2 F3 219 = q2 := rfl
  have e3 : F6 q0 q1 q2 q3 F0 F1 F2 F3 221 = q3 := rfl
  have e4 : F6 q0 q1 q2 q3 F0 F1 F2 F3 220 = F2 0 := rfl
  have e5 : F6 q0 q1 q2 q3 F0 F1 F2 F3 222 = F3 0 := rfl
  unfold BX6
  rw [BX4.cg (F := F0) (F' := F6 q0 q1 q2 q3 F0 F1 F2 F3) (fun r h1 h2 => F6_0 h2 h1), BX0.cg (F := F1) (F' := F6 q0 q1 q2 q3 F0 F1 F2 F3) (fun r h1 h2 => F6_1 h1 h2), e0, e1, e2, e3, e4, e5]
