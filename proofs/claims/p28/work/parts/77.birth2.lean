/-! BIRTH: the class's constructors -/
theorem nb_23 : Cond.methodLinkNest RX4 23 yX2_init RX6 ∈ NWs := by simp [NWs]
theorem nb_24 : Cond.methodLinkNest RX4 24 yX5_init RX6 ∈ NWs := by simp [NWs]
theorem nb_25 : Cond.methodLinkNest RX6 25 yX1_init RX6 ∈ NWs := by simp [NWs]
theorem nb_32 : Cond.methodLinkNest RX6 32 yX3_init RX6 ∈ NWs := by simp [NWs]
abbrev eX2 : va_E := .inr (2, [.int 0, .int 0, .int 0, .int 0, .int 0, .null])
abbrev eX5 : va_E := .inr (5, [.int 0, .int 0, .int 0, .int 0, .int 0, .int 0])
abbrev eX4 : va_E := .inr (4, [.null, .null, .int 0, .int 0, .int 0])
abbrev eX0 : va_E := .inr (0, [.null, .int 0, .int 0])
abbrev eX1 : va_E := .inr (1, [.null, .int 0])
abbrev eX3 : va_E := .inr (3, [.null, .int 0, .int 0])
abbrev eX6 : va_E := .inr (6, [.null, .null, .null, .null])
abbrev zI (g : GC) (n : Nat) : va_E := .inl (ca g 0, n, .inl (fun _ => 0))
abbrev lE (t : Nat) : va_E := .inr (2, [.int 0, .int 0, .int 0, .int 0, .int 0, .ref t])
abbrev BX2 (g : GC) (h : Nat) (F : Nat → Nat) : va_W := [(h, lE (F 0)), (F 0, zI g 17)]
abbrev BX5 (h : Nat) (_ : Nat → Nat) : va_W := [(h, eX5)]
abbrev BX1 (g : GC) (h : Nat) (F : Nat → Nat) : va_W := [(h, .inr (1, [.ref (F 0), .int 0])), (F 0, .inl (ca g 1, 60, .inl (fun _ => 0)))]
abbrev BX3 (g : GC) (h : Nat) (F : Nat → Nat) : va_W := [(h, .inr (3, [.ref (F 0), .int 0, .int 0])), (F 0, zI g 4)]
theorem b_X2 {l : Launch} {g : GC} : BC l yX2_init cX2_init 1 1 1 17 g eX2 (BX2 g) := by
  refine BC.of [] (by decide +kernel) (fun _ => rfl) (Nat.le_refl _) (fun p e s m args below meth c h0 A C hmn hr hA => ?_) rfl
  refine n_aload_n C dX2_init_0 rfl rfl ?_
  refine n_obj C qm_X2_3 dX2_init_1 (Nat.le_of_ble_eq_true rfl) (Nat.le_of_ble_eq_true rfl) ?_
  refine n_aload_n C dX2_init_4 rfl rfl ?_
  refine n_bipush (v := nI 17) C dX2_init_5 (by decide) ?_
  refine n_newa C hA (i := 0) (N := 17) (ty := .int) (atype := .int) (a0 := (17, .inl (fun _ => 0))) qa_int rfl rfl (fun c1 h1 h2 => Option.some.inj (h1.symm.trans h2)) (fun _ => rfl) (by decide) (by decide) (Nat.le_of_ble_eq_true rfl) (Nat.le_of_ble_eq_true rfl) (Nat.le_of_ble_eq_true rfl) dX2_init_7 (fun q => ?_)
  refine n_putF (ty := .array .int) C hmn lay_X2 tyX2 tyX2_ok nmX2 0 rfl rfl 5 (by decide) qf_X2_9 rfl rfl (by decide +kernel) rfl rfl (Nat.le_of_ble_eq_true rfl) dX2_init_9 ?_
  exact n_vret C hr (fun _ => q) rfl dX2_init_12
theorem b_X5 {l : Launch} {g : GC} : BC l yX5_init cX5_init 1 1 0 0 g eX5 BX5 := by
  refine BC.of [] (by decide +kernel) (fun _ => rfl) (Nat.le_refl _) (fun p e s m args below meth c h0 A C hmn hr hA => ?_) rfl
  refine n_aload_n C dX5_init_0 rfl rfl ?_
  refine n_obj C qm_X5_3 dX5_init_1 (Nat.le_of_ble_eq_true rfl) (Nat.le_of_ble_eq_true rfl) ?_
  exact n_vret C hr (fun _ => 0) rfl dX5_init_4
theorem b_X1 {l : Launch} {g : GC} : BC l yX1_init cX1_init 1 1 1 60 g eX1 (BX1 g) := by
  refine BC.of [] (by decide +kernel) (fun _ => rfl) (Nat.le_refl _) (fun p e s m args below meth c h0 A C hmn hr hA => ?_) rfl
  refine n_aload_n C dX1_init_0 rfl rfl ?_
  refine n_obj C qm_X1_3 dX1_init_1 (Nat.le_of_ble_eq_true rfl) (Nat.le_of_ble_eq_true rfl) ?_
  refine n_aload_n C dX1_init_4 rfl rfl ?_
  refine n_bipush (v := nI 60) C dX1_init_5 (by decide) ?_
  refine n_newa C hA (i := 1) (N := 60) (ty := .char) (atype := .char) (a0 := (60, .inl (fun _ => 0))) qa_char rfl rfl (fun c1 h1 h2 => Option.some.inj (h1.symm.trans h2)) (fun _ => rfl) (by decide) (by decide) (Nat.le_of_ble_eq_true rfl) (Nat.le_of_ble_eq_true rfl) (Nat.le_of_ble_eq_true rfl) dX1_init_7 (fun q => ?_)
  refine n_putF (ty := .array .char) C hmn lay_X1 tyX1 tyX1_ok nmX1 0 rfl rfl 0 (by decide) qf_X1_9 rfl rfl (by decide +kernel) rfl rfl (Nat.le_of_ble_eq_true rfl) dX1_init_9 ?_
  exact n_vret C hr (fun _ => q) rfl dX1_init_12
theorem b_X3 {l : Launch} {g : GC} : BC l yX3_init cX3_init 1 1 1 4 g eX3 (BX3 g) := by
  refine BC.of [] (by decide +kernel) (fun _ => rfl) (Nat.le_refl _) (fun p e s m args below meth c h0 A C hmn hr hA => ?_) rfl
  refine n_aload_n C dX3_init_0 rfl rfl ?_
  refine n_obj C qm_X3_3 dX3_init_1 (Nat.le_of_ble_eq_true rfl) (Nat.le_of_ble_eq_true rfl) ?_
  refine n_aload_n C dX3_init_4 rfl rfl ?_
  refine n_iconst (v := nI 4) C dX3_init_5 (by decide) ?_
  refine n_newa C hA (i := 0) (N := 4) (ty := .int) (atype := .int) (a0 := (4, .inl (fun _ => 0))) qa_int rfl rfl (fun c1 h1 h2 => Option.some.inj (h1.symm.trans h2)) (fun _ => rfl) (by decide) (by decide) (Nat.le_of_ble_eq_true rfl) (Nat.le_of_ble_eq_true rfl) (Nat.le_of_ble_eq_true rfl) dX3_init_6 (fun q => ?_)
  refine n_putF (ty := .array .int) C hmn lay_X3 tyX3 tyX3_ok nmX3 0 rfl rfl 0 (by decide) qf_X3_9 rfl rfl (by decide +kernel) rfl rfl (Nat.le_of_ble_eq_true rfl) dX3_init_8 ?_
  exact n_vret C hr (fun _ => q) rfl dX3_init_11
/-! a State -/
def AR (F : Nat → Nat) (o d i : Nat) : Nat → Option Nat := fun j => if j < i then some (F (o + d * j)) else none
theorem AR.up {F F' : Nat → Nat} {o d i q : Nat} (h : ∀ j, j < i → F' (o + d * j) = F (o + d * j)) (hq : F' (o + d * i) = q) : va_up (AR F o d i) i (some q) = AR F' o d (i + 1) := by
  funext j
  unfold va_up AR
  by_cases e : j = i
  · subst e; rw [if_pos rfl, if_pos (by omega), hq]
  · rw [if_neg e]
    by_cases h2 : j < i
    · rw [if_pos h2, if_pos (by omega), h j h2]
    · rw [if_neg h2, if_neg (by omega)]
theorem AR.cg {F F' : Nat → Nat} {o d i : Nat} (h : ∀ j, j < i → F' (o + d * j) = F (o + d * j)) : AR F' o d i = AR F o d i := by
  funext j
  unfold AR
  by_cases h2 : j < i
  · rw [if_pos h2, if_pos h2, h j h2]
  · rw [if_neg h2, if_neg h2]
def LTb (g : GC) (F : Nat → Nat) : Nat → va_W
  | 0 => []
  | i + 1 => LTb g F i ++ [(F (3 + 1 * i), lE (F (11 + i))), (F (11 + i), zI g 17)]
def LSb (F : Nat → Nat) : Nat → va_W
  | 0 => []
  | i + 1 => LSb F i ++ [(F (19 + 1 * i), eX5)]
theorem LTb.cg {g : GC} {F F' : Nat → Nat} : ∀ i, (∀ j, j < i → F' (3 + 1 * j) = F (3 + 1 * j) ∧ F' (11 + j) = F (11 + j)) → LTb g F' i = LTb g F i
  | 0, _ => rfl
  | i + 1, h => by rw [LTb, LTb, LTb.cg i (fun j hj => h j (by omega)), (h i (by omega)).1, (h i (by omega)).2]
theorem LSb.cg {F F' : Nat → Nat} : ∀ i, (∀ j, j < i → F' (19 + 1 * j) = F (19 + 1 * j)) → LSb F' i = LSb F i
  | 0, _ => rfl
  | i + 1, h => by rw [LSb, LSb, LSb.cg i (fun j hj => h j (by omega)), h i (by omega)]
abbrev sO (F : Nat → Nat) : va_E := .inr (4, [.ref (F 1), .ref (F 2), .int 0, .int 0, .int 0])
abbrev qA (cA : ClassId) (n : Nat) (f : Nat → Option Nat) : va_E := .inl (cA, n, .inr (.inr (.inr (.inr f))))
abbrev S0 (g : GC) (h i j : Nat) (F : Nat → Nat) : va_W := [(h, sO F), (F 1, qA (ca g 2) 8 (AR F 3 1 i)), (F 2, qA (ca g 3) 12 (AR F 19 1 j))]
abbrev S1 (g : GC) (h i : Nat) (F : Nat → Nat) : va_W := S0 g h i 0 F ++ LTb g F i
abbrev S2 (g : GC) (h j : Nat) (F : Nat → Nat) : va_W := (S0 g h 8 j F ++ LTb g F 8) ++ LSb F j
def BX4 (g : GC) (h : Nat) (F : Nat → Nat) : va_W := S2 g h 12 F
theorem BX4.cg {g : GC} {h : Nat} {F F' : Nat → Nat} (e : ∀ r, r < 31 → 1 ≤ r → F' r = F r) : BX4 g h F' = BX4 g h F := by
  unfold BX4 S2 S0 sO
  rw [LTb.cg 8 (fun j hj => ⟨e _ (by omega) (by omega), e _ (by omega) (by omega)⟩), LSb.cg 12 (fun j hj => e _ (by omega) (by omega)), AR.cg (F := F) (fun j hj => e _ (by omega) (by omega)), AR.cg (F := F) (fun j hj => e _ (by omega) (by omega)), e 1 (by omega) (by omega), e 2 (by omega) (by omega)]
def up2 (F : Nat → Nat) (a x b y : Nat) : Nat → Nat := fun r => if r = a then x else if r = b then y else F r
theorem up2_a {F : Nat → Nat} {a x b y : Nat} : up2 F a x b y a = x := if_pos rfl
theorem up2_b {F : Nat → Nat} {a x b y : Nat} (h : b ≠ a) : up2 F a x b y b = y := (if_neg h).trans (if_pos rfl)
theorem up2_o {F : Nat → Nat} {a x b y r : Nat} (h : r ≠ a) (h2 : r ≠ b) : up2 F a x b y r = F r := (if_neg h).trans (if_neg h2)
section BSTATE
variable {p : Program} {l : Launch} {e : Env} {s : State} {m : MethodId} {args : Array Value} {below : List Frame} {meth : Method} {c : Code} {g : GC} {A : Nat → Prop} {Q : State → Prop}
set_option maxHeartbeats 4000000 in
theorem lb_X4_1 (C : Cn p s args m meth c cX4_init 2 yX4_init.cls g) (hA : ∀ q, s.heap.size ≤ q → A q) {h0 : Nat} (kx : ∀ F : Nat → Nat, JN p l e (RB 2 30 276) s m args below meth c 2 g A 18 204 Q (S1 g h0 8 F) 52 [some (.ref h0), some (.int (nI 8))] []) : ∀ (k i : Nat) (F : Nat → Nat), i + k = 8 → JN p l e (RB 2 30 276) s m args below meth c 2 g A (2 + 2 * i) (20 + 23 * i) Q (S1 g h0 i F) 24 [some (.ref h0), some (.int (nI i))] [] := by
  intro k
  induction k with
  | zero =>
    intro i F hi
    have : i = 8 := by omega
    subst this
    refine n_iload_n C dX4_init_24 rfl rfl ?_
    refine n_aload_n C dX4_init_25 rfl rfl ?_
    refine n_get C lay_X4 0 rfl rfl 0 (by decide) qf_X4_11 rfl dX4_init_26 ?_
    refine n_alen C 1 2 rfl rfl (v := nI 8) rfl dX4_init_29 ?_
    refine n_icmp_ge (tgt := 52) C dX4_init_30 (by decide) (fun _ => kx F) (fun h => absurd (Int32.le_refl _) h)
  | succ k ih =>
    intro i F hi
    refine n_iload_n C dX4_init_24 rfl rfl ?_
    refine n_aload_n C dX4_init_25 rfl rfl ?_
    refine n_get C lay_X4 0 rfl rfl 0 (by decide) qf_X4_11 rfl dX4_init_26 ?_
    refine n_alen C 1 2 rfl rfl (v := nI 8) rfl dX4_init_29 ?_
    refine n_icmp_ge (tgt := 52) C dX4_init_30 (by decide) (fun h => absurd ((nI_leI (a := 8) (b := i) (by omega) (by omega)).mp h) (by omega)) (fun _ => ?_)
    refine n_aload_n C dX4_init_33 rfl rfl ?_
    refine n_get C lay_X4 0 rfl rfl 0 (by decide) qf_X4_11 rfl dX4_init_34 ?_
    refine n_iload_n C dX4_init_37 rfl rfl ?_
    refine n_new (ci := 2) (fs := [.int 0, .int 0, .int 0, .int 0, .int 0, .null]) C hA lay_X2 tyX2 tyX2_ok ql_X4_9 qz_X2 qn_X2 rfl (fun j hj => by rcases (show j = 0 ∨ j = 1 ∨ j = 2 ∨ j = 3 ∨ j = 4 ∨ j = 5 by omega) with rfl | rfl | rfl | rfl | rfl | rfl <;> rfl) (by show 2 + 2 * i + 1 ≤ 30; omega) (by show 20 + 23 * i + 6 ≤ 276; omega) dX4_init_38 (fun q => ?_)
    refine n_dup C dX4_init_41 rfl ?_
    refine n_callN C hA b_X2 nb_23 qn_X2 qi_X2_init qc_X2_init rfl (by decide +kernel) ⟨Nat.le_of_ble_eq_true rfl, Nat.le_of_ble_eq_true rfl, by show 2 + 2 * i + 1 + 1 ≤ 30; omega, by show 20 + 23 * i + 6 + 17 ≤ 276; omega⟩ (Nat.le_of_ble_eq_true rfl) dX4_init_42 (fun F2 => ?_)
    refine n_aast (r := (RX2, TX2, 6)) C 1 2 _ 2 rfl rfl (last_at (ws := S1 g h0 i F)) rfl (by omega) (by omega) dX4_init_45 ?_
    refine n_inc1 (v := nI (i + 1)) C dX4_init_46 (nI_1 i) (by decide) rfl ?_
    refine n_goto (tgt := 24) C dX4_init_49 (by decide) ?_
    refine JN.widen (k' := 2 + 2 * (i + 1)) (n' := 20 + 23 * (i + 1)) (by omega) (by omega) ?_
    refine JN.eq ?_ (ih (i + 1) (up2 F (3 + 1 * i) q (11 + i) (F2 0)) (by omega))
    have a1 : up2 F (3 + 1 * i) q (11 + i) (F2 0) 1 = F 1 := up2_o (by omega) (by omega)
    have a2 : up2 F (3 + 1 * i) q (11 + i) (F2 0) 2 = F 2 := up2_o (by omega) (by omega)
    have a3 : up2 F (3 + 1 * i) q (11 + i) (F2 0) (3 + 1 * i) = q := up2_a
    have a4 : up2 F (3 + 1 * i) q (11 + i) (F2 0) (11 + i) = F2 0 := up2_b (by omega)
    unfold S1 S0 sO
    rw [LTb, a1, a2, a3, a4, LTb.cg (F := F) i (fun j hj => ⟨up2_o (by omega) (by omega), up2_o (by omega) (by omega)⟩), ← AR.up (F := F) (q := q) (fun j hj => up2_o (by omega) (by omega)) a3, AR.cg (F := F) (F' := up2 F (3 + 1 * i) q (11 + i) (F2 0)) (o := 19) (i := 0) (fun j hj => absurd hj (by omega))]
    simp only [List.cons_append, List.nil_append, List.append_assoc, List.set_cons_succ, List.set_cons_zero]
set_option maxHeartbeats 4000000 in
theorem lb_X4_2 (C : Cn p s args m meth c cX4_init 2 yX4_init.cls g) (hA : ∀ q, s.heap.size ≤ q → A q) {h0 : Nat} (kx : ∀ F : Nat → Nat, JN p l e (RB 2 30 276) s m args below meth c 2 g A 30 276 Q (S2 g h0 12 F) 82 [some (.ref h0), some (.int (nI 12))] []) : ∀ (k i : Nat) (F : Nat → Nat), i + k = 12 → JN p l e (RB 2 30 276) s m args below meth c 2 g A (18 + i) (204 + 6 * i) Q (S2 g h0 i F) 54 [some (.ref h0), some (.int (nI i))] [] := by
  intro k
  induction k with
  | zero =>
    intro i F hi
    have : i = 12 := by omega
    subst this
    refine n_iload_n C dX4_init_54 rfl rfl ?_
    refine n_aload_n C dX4_init_55 rfl rfl ?_
    refine n_get C lay_X4 0 rfl rfl 1 (by decide) qf_X4_19 rfl dX4_init_56 ?_
    refine n_alen C 2 3 rfl rfl (v := nI 12) rfl dX4_init_59 ?_
    refine n_icmp_ge (tgt := 82) C dX4_init_60 (by decide) (fun _ => kx F) (fun h => absurd (Int32.le_refl _) h)
  | succ k ih =>
    intro i F hi
    refine n_iload_n C dX4_init_54 rfl rfl ?_
    refine n_aload_n C dX4_init_55 rfl rfl ?_
    refine n_get C lay_X4 0 rfl rfl 1 (by decide) qf_X4_19 rfl dX4_init_56 ?_
    refine n_alen C 2 3 rfl rfl (v := nI 12) rfl dX4_init_59 ?_
    refine n_icmp_ge (tgt := 82) C dX4_init_60 (by decide) (fun h => absurd ((nI_leI (a := 12) (b := i) (by omega) (by omega)).mp h) (by omega)) (fun _ => ?_)
    refine n_aload_n C dX4_init_63 rfl rfl ?_
    refine n_get C lay_X4 0 rfl rfl 1 (by decide) qf_X4_19 rfl dX4_init_64 ?_
    refine n_iload_n C dX4_init_67 rfl rfl ?_
    refine n_new (ci := 5) (fs := [.int 0, .int 0, .int 0, .int 0, .int 0, .int 0]) C hA lay_X5 tyX5 tyX5_ok ql_X4_17 qz_X5 qn_X5 rfl (fun j hj => by rcases (show j = 0 ∨ j = 1 ∨ j = 2 ∨ j = 3 ∨ j = 4 ∨ j = 5 by omega) with rfl | rfl | rfl | rfl | rfl | rfl <;> rfl) (by show 18 + i + 1 ≤ 30; omega) (by show 204 + 6 * i + 6 ≤ 276; omega) dX4_init_68 (fun q => ?_)
    refine n_dup C dX4_init_71 rfl ?_
    refine n_callN C hA b_X5 nb_24 qn_X5 qi_X5_init qc_X5_init rfl (by decide +kernel) ⟨Nat.le_of_ble_eq_true rfl, Nat.le_of_ble_eq_true rfl, by show 18 + i + 1 + 0 ≤ 30; omega, by show 204 + 6 * i + 6 + 0 ≤ 276; omega⟩ (Nat.le_of_ble_eq_true rfl) dX4_init_72 (fun F2 => ?_)
    refine n_aast (r := (RX5, TX5, 6)) C 2 3 _ 5 rfl rfl (last_at (ws := S2 g h0 i F)) rfl (by omega) (by omega) dX4_init_75 ?_
    refine n_inc1 (v := nI (i + 1)) C dX4_init_76 (nI_1 i) (by decide) rfl ?_
    refine n_goto (tgt := 54) C dX4_init_79 (by decide) ?_
    refine JN.widen (k' := 18 + (i + 1)) (n' := 204 + 6 * (i + 1)) (by omega) (by omega) ?_
    refine JN.eq ?_ (ih (i + 1) (up2 F (19 + 1 * i) q 31 0) (by omega))
    have a1 : up2 F (19 + 1 * i) q 31 0 1 = F 1 := up2_o (by omega) (by omega)
    have a2 : up2 F (19 + 1 * i) q 31 0 2 = F 2 := up2_o (by omega) (by omega)
    have a3 : up2 F (19 + 1 * i) q 31 0 (19 + 1 * i) = q := up2_a
    unfold S2 S0 sO
    rw [LSb, a1, a2, a3, LTb.cg (F := F) 8 (fun j hj => ⟨up2_o (by omega) (by omega), up2_o (by omega) (by omega)⟩), LSb.cg (F := F) i (fun j hj => up2_o (by omega) (by omega)), ← AR.up (F := F) (q := q) (fun j hj => up2_o (by omega) (by omega)) a3, AR.cg (F := F) (F' := up2 F (19 + 1 * i) q 31 0) (o := 3) (i := 8) (fun j hj => up2_o (by omega) (by omega))]
    simp only [List.cons_append, List.nil_append, List.append_assoc, List.set_cons_succ, List.set_cons_zero]
end BSTATE
set_option maxHeartbeats 4000000 in
theorem b_X4 {l : Launch} {g : GC} : BC l yX4_init cX4_init 2 2 30 276 g eX4 (BX4 g) := by
  refine BC.of [none] (by decide +kernel) (fun _ => rfl) (by decide) (fun p e s m args below meth c h0 A C hmn hr hA => ?_) rfl
  refine n_aload_n C dX4_init_0 rfl rfl ?_
  refine n_obj C qm_X4_3 dX4_init_1 (Nat.le_of_ble_eq_true rfl) (Nat.le_of_ble_eq_true rfl) ?_
  refine n_aload_n C dX4_init_4 rfl rfl ?_
  refine n_bipush (v := nI 8) C dX4_init_5 (by decide) ?_
  refine n_newq C hA (i := 2) (N := 8) ql_X4_9 (by simp [AOs]) rfl (by decide) (by decide) (Nat.le_of_ble_eq_true rfl) (Nat.le_of_ble_eq_true rfl) (Nat.le_of_ble_eq_true rfl) dX4_init_7 (fun q1 => ?_)
  refine n_putF (ty := .array (.object "LeaseBook$Lease")) C hmn lay_X4 tyX4 tyX4_ok nmX4 0 rfl rfl 0 (by decide) qf_X4_11 rfl rfl (by decide +kernel) rfl rfl (Nat.le_of_ble_eq_true rfl) dX4_init_10 ?_
  refine n_aload_n C dX4_init_13 rfl rfl ?_
  refine n_bipush (v := nI 12) C dX4_init_14 (by decide) ?_
  refine n_newq C hA (i := 3) (N := 12) ql_X4_17 (by simp [AOs]) rfl (by decide) (by decide) (Nat.le_of_ble_eq_true rfl) (Nat.le_of_ble_eq_true rfl) (Nat.le_of_ble_eq_true rfl) dX4_init_16 (fun q2 => ?_)
  refine n_putF (ty := .array (.object "LeaseBook$Sublease")) C hmn lay_X4 tyX4 tyX4_ok nmX4 0 rfl rfl 1 (by decide) qf_X4_19 rfl rfl (by decide +kernel) rfl rfl (Nat.le_of_ble_eq_true rfl) dX4_init_19 ?_
  refine n_iconst (v := nI 0) C dX4_init_22 (by decide) ?_
  refine n_istore_n C dX4_init_23 rfl (by decide) rfl rfl ?_
  refine JN.eq (ws' := S1 g h0 0 (fun r => if r = 1 then q1 else q2)) ?_ (lb_X4_1 C hA (fun F => ?_) 8 0 _ (by omega))
  · have e1 : (fun _ : Nat => (Option.none : Option Nat)) = AR (fun r => if r = 1 then q1 else q2) 3 1 0 := by funext j; exact (if_neg (by omega)).symm
    have e2 : (fun _ : Nat => (Option.none : Option Nat)) = AR (fun r => if r = 1 then q1 else q2) 19 1 0 := by funext j; exact (if_neg (by omega)).symm
    unfold S1 S0
    rw [← e1, ← e2]
    rfl
  · refine n_iconst (v := nI 0) C dX4_init_52 (by decide) ?_
    refine n_istore_n C dX4_init_53 rfl (by decide) rfl rfl ?_
    refine JN.eq (ws' := S2 g h0 0 F) (List.append_nil _).symm (lb_X4_2 C hA (fun F => ?_) 12 0 F (by omega))
    exact n_vret C hr F rfl dX4_init_82
