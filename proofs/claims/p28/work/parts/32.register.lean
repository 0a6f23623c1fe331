/-! THE LAW'S REGISTER: rows 224 (c), 225 (l), 226 (u), 227 (v) (laid by wip/p28/p32.py) -/
def lAdd (k : Nat) (p n r c : Int32) (V : Mem) : Mem :=
  let V3 := mset (mset (mset V 225 (3 * k) p) 225 (3 * k + 1) n) 225 (3 * k + 2) r
  let V4 := mset V3 224 (3 + k) (wor p n r)
  let V5 := mset V4 224 (11 + k) (V4 224 (3 + k) + c)
  let V7 := mset (mset V5 224 (19 + k) (-c)) 224 (27 + k) (nI 0)
  mset V7 224 0 (V7 224 0 + nI 1)
def lPS (k q : Nat) (V : Mem) : Mem :=
  if V 226 (4 * q) = nI k ∧ ¬ V 226 (4 * q + 3) = 0 then
    let V1 := mset V 226 (4 * q + 3) (V 226 (4 * q + 3) - nI 1)
    let th := wor (V1 226 (4 * q + 2)) (V1 226 (4 * q + 3)) (V1 227 q)
    let V2 := mset V1 224 (27 + k) (V1 224 (27 + k) + (th - V1 227 (12 + q) + V1 226 (4 * q + 2)))
    let V3 := mset V2 224 (19 + k) (V2 224 (19 + k) + V2 226 (4 * q + 2))
    mset V3 227 (12 + q) th
  else V
def lPSub (k : Nat) (V : Mem) : Nat → Mem
  | 0 => V
  | q + 1 => lPS k q (lPSub k V q)
def lP0 (k : Nat) (V : Mem) : Mem :=
  let wr := V 224 (11 + k) / V 225 (3 * k + 1)
  let V1 := mset V 225 (3 * k + 1) (V 225 (3 * k + 1) - nI 1)
  let now := wor (V1 225 (3 * k)) (V1 225 (3 * k + 1)) (V1 225 (3 * k + 2))
  let V2 := mset V1 224 (27 + k) (V1 224 (27 + k) - (now - V1 224 (3 + k) + V1 225 (3 * k) + wr))
  let V3 := mset V2 224 (19 + k) (V2 224 (19 + k) - V2 225 (3 * k))
  let V4 := mset V3 224 (3 + k) now
  mset V4 224 (11 + k) (V4 224 (11 + k) - wr)
def lPL (k ns : Nat) (V : Mem) : Mem := if V 225 (3 * k + 1) = 0 then V else lPSub k (lP0 k V) ns
def lPAll (ns : Nat) (V : Mem) : Nat → Mem
  | 0 => V
  | k + 1 => lPL k ns (lPAll ns V k)
def lPass (nl ns : Nat) (V : Mem) : Nat → Mem
  | 0 => V
  | j + 1 => lPAll ns (lPass nl ns V j) nl
def lCS (k : Nat) (n : Int32) (q : Nat) (V : Mem) : Mem :=
  if V 226 (4 * q) = nI k ∧ n < V 226 (4 * q + 3) then
    let th := wor (V 226 (4 * q + 2)) n (V 227 q)
    let V1 := mset V 224 (27 + k) (V 224 (27 + k) - (V 227 (12 + q) - th))
    mset (mset V1 226 (4 * q + 3) n) 227 (12 + q) th
  else V
def lCut (k : Nat) (n : Int32) (V : Mem) : Nat → Mem
  | 0 => V
  | q + 1 => lCS k n q (lCut k n V q)
/-- the asset when the liability becomes th -/
def lAs (k : Nat) (th : Int32) (V : Mem) : Int32 := if V 224 (11 + k) + th - V 224 (3 + k) < 0 then nI 0 else V 224 (11 + k) + th - V 224 (3 + k)
theorem lAs_lt {k : Nat} {th : Int32} {V : Mem} (h : V 224 (11 + k) + th - V 224 (3 + k) < 0) : nI 0 = lAs k th V := by unfold lAs; rw [if_pos h]
theorem lAs_ge {k : Nat} {th : Int32} {V : Mem} (h : ¬ V 224 (11 + k) + th - V 224 (3 + k) < 0) : V 224 (11 + k) + th - V 224 (3 + k) = lAs k th V := by unfold lAs; rw [if_neg h]
def lMeas0 (k : Nat) (p n r : Int32) (V : Mem) : Mem :=
  let th := wor p n r
  let as' := lAs k th V
  let V1 := mset V 224 (27 + k) (V 224 (27 + k) + (as' - V 224 (11 + k) - th + V 224 (3 + k)))
  mset (mset (mset (mset (mset V1 224 (3 + k) th) 224 (11 + k) as') 225 (3 * k) p) 225 (3 * k + 1) n) 225 (3 * k + 2) r
def lMeas (k : Nat) (p n r : Int32) (ns : Nat) (V : Mem) : Mem := lCut k n (lMeas0 k p n r V) ns
/-- what the law's worths are asked with -/
def Sok (ns : Nat) (V : Mem) : Prop := ∀ q, q < ns → money (V 226 (4 * q + 2)) ∧ perR (V 226 (4 * q + 3)) ∧ rateR (V 227 q)
def Lok (nl : Nat) (V : Mem) : Prop := ∀ k, k < nl → money (V 225 (3 * k)) ∧ perR (V 225 (3 * k + 1)) ∧ rateR (V 225 (3 * k + 2))
theorem per_pred {x : Int32} (h : perR x) (h0 : ¬ x = 0) : perR (x - nI 1) := by
  obtain ⟨j, hj, rfl⟩ := per_of h
  have : j ≠ 0 := fun e => h0 (by rw [e]; rfl)
  rw [pk_sub (by omega)]
  exact ⟨nI_le (by omega) (by omega), nI_le (by omega) (by omega)⟩
/-- steps of subleases leave counts, heads, receipts, rates -/
theorem lPS_u {k q a b : Nat} {V : Mem} (h : ¬ (a = 226 ∧ b = 4 * q + 3) ∧ ¬ (a = 224 ∧ (b = 27 + k ∨ b = 19 + k)) ∧ ¬ (a = 227 ∧ b = 12 + q)) : lPS k q V a b = V a b := by
  unfold lPS
  split
  · simp (disch := omega) only [mset_ne]
  · rfl
theorem lPSub_u {k a b : Nat} {V : Mem} : ∀ i, (¬ (a = 226 ∧ b % 4 = 3 ∧ b < 4 * i) ∧ ¬ (a = 224 ∧ (b = 27 + k ∨ b = 19 + k)) ∧ ¬ (a = 227 ∧ 12 ≤ b ∧ b < 12 + i)) → lPSub k V i a b = V a b
  | 0, _ => rfl
  | i + 1, h => by
    show lPS k i (lPSub k V i) a b = _
    rw [lPS_u (by omega), lPSub_u i (by omega)]
theorem lCS_u {k q a b : Nat} {n : Int32} {V : Mem} (h : ¬ (a = 226 ∧ b = 4 * q + 3) ∧ ¬ (a = 224 ∧ b = 27 + k) ∧ ¬ (a = 227 ∧ b = 12 + q)) : lCS k n q V a b = V a b := by
  unfold lCS
  split
  · simp (disch := omega) only [mset_ne]
  · rfl
theorem lCut_u {k a b : Nat} {n : Int32} {V : Mem} : ∀ i, (¬ (a = 226 ∧ b % 4 = 3 ∧ b < 4 * i) ∧ ¬ (a = 224 ∧ b = 27 + k) ∧ ¬ (a = 227 ∧ 12 ≤ b ∧ b < 12 + i)) → lCut k n V i a b = V a b
  | 0, _ => rfl
  | i + 1, h => by
    show lCS k n i (lCut k n V i) a b = _
    rw [lCS_u (by omega), lCut_u i (by omega)]
set_option maxHeartbeats 4000000 in
theorem c_L_add {l : Launch} {g : GC} {V : Mem} {L : LMem} {k : Nat} {p1 n r c0 : Int32} (hk8 : k < 8) (hc : V 224 0 = nI k) (hp : money p1) (hn : perR n) (hr : rateR r) : MC l yL_add cL_add 7 (Option.none : Option Jvm.ClassFile.FieldType) 1 g V L [.int p1, .int n, .int r, .int c0, .ref (ad g 224), .ref (ad g 225)] none (lAdd k p1 n r c0 V) L := by
  refine MC.of [some (.int p1), some (.int n), some (.int r), some (.int c0), some (.ref (ad g 224)), some (.ref (ad g 225)), none] (by decide +kernel) rfl (Nat.le_of_ble_eq_true rfl) (fun p e s m args below meth c C => ?_)
  refine j_aload C dL_add_0 rfl ?_
  refine j_iconst (v := (nI 0)) C dL_add_2 (by decide) ?_
  refine j_ialdN C (by first | assumption | rfl) rfl rfl (by omega) dL_add_3 ?_
  refine j_tope (y := nI k) (by exact hc) ?_
  refine j_ist6 C dL_add_4 (Nat.le_of_ble_eq_true rfl) rfl ?_
  refine j_aload C dL_add_6 rfl ?_
  refine j_iconst (v := (nI 3)) C dL_add_8 (by decide) ?_
  refine j_iload C dL_add_9 rfl ?_
  refine j_imulN C dL_add_11 ?_
  refine j_iload_n C dL_add_12 rfl rfl ?_
  refine j_iastN C (by first | assumption | rfl) rfl rfl (by omega) dL_add_13 ?_
  refine j_aload C dL_add_14 rfl ?_
  refine j_iconst (v := (nI 3)) C dL_add_16 (by decide) ?_
  refine j_iload C dL_add_17 rfl ?_
  refine j_imulN C dL_add_19 ?_
  refine j_iconst (v := (nI 1)) C dL_add_20 (by decide) ?_
  refine j_iaddN C dL_add_21 ?_
  refine j_iload_n C dL_add_22 rfl rfl ?_
  refine j_iastN C (by first | assumption | rfl) rfl rfl (by omega) dL_add_23 ?_
  refine j_aload C dL_add_24 rfl ?_
  refine j_iconst (v := (nI 3)) C dL_add_26 (by decide) ?_
  refine j_iload C dL_add_27 rfl ?_
  refine j_imulN C dL_add_29 ?_
  refine j_iconst (v := (nI 2)) C dL_add_30 (by decide) ?_
  refine j_iaddN C dL_add_31 ?_
  refine j_iload_n C dL_add_32 rfl rfl ?_
  refine j_iastN C (by first | assumption | rfl) rfl rfl (by omega) dL_add_33 ?_
  refine j_aload C dL_add_34 rfl ?_
  refine j_iconst (v := (nI 3)) C dL_add_36 (by decide) ?_
  refine j_iload C dL_add_37 rfl ?_
  refine j_iaddN C dL_add_39 ?_
  refine j_iload_n C dL_add_40 rfl rfl ?_
  refine j_iload_n C dL_add_41 rfl rfl ?_
  refine j_iload_n C dL_add_42 rfl rfl ?_
  refine j_callS3r C (c_L_worth hp hn hr) qm_L_40 qt_L_worth qn_L qc_L_worth fit_L_worth ⟨Nat.le_of_ble_eq_true rfl, Nat.le_of_ble_eq_true rfl, Nat.le_of_ble_eq_true rfl, Nat.le_of_ble_eq_true rfl⟩ (Nat.le_of_ble_eq_true rfl) dL_add_43 ?_
  refine j_iastN C (by first | assumption | rfl) rfl rfl (by omega) dL_add_46 ?_
  refine j_aload C dL_add_47 rfl ?_
  refine j_bipush (v := (nI 11)) C dL_add_49 (by decide) ?_
  refine j_iload C dL_add_51 rfl ?_
  refine j_iaddN C dL_add_53 ?_
  refine j_aload C dL_add_54 rfl ?_
  refine j_iconst (v := (nI 3)) C dL_add_56 (by decide) ?_
  refine j_iload C dL_add_57 rfl ?_
  refine j_iaddN C dL_add_59 ?_
  refine j_ialdN C (by first | assumption | rfl) rfl rfl (by omega) dL_add_60 ?_
  refine j_iload_n C dL_add_61 rfl rfl ?_
  refine j_iadd C dL_add_62 ?_
  refine j_iastN C (by first | assumption | rfl) rfl rfl (by omega) dL_add_63 ?_
  refine j_aload C dL_add_64 rfl ?_
  refine j_bipush (v := (nI 19)) C dL_add_66 (by decide) ?_
  refine j_iload C dL_add_68 rfl ?_
  refine j_iaddN C dL_add_70 ?_
  refine j_iload_n C dL_add_71 rfl rfl ?_
  refine j_ineg C dL_add_72 ?_
  refine j_iastN C (by first | assumption | rfl) rfl rfl (by omega) dL_add_73 ?_
  refine j_aload C dL_add_74 rfl ?_
  refine j_bipush (v := (nI 27)) C dL_add_76 (by decide) ?_
  refine j_iload C dL_add_78 rfl ?_
  refine j_iaddN C dL_add_80 ?_
  refine j_iconst (v := (nI 0)) C dL_add_81 (by decide) ?_
  refine j_iastN C (by first | assumption | rfl) rfl rfl (by omega) dL_add_82 ?_
  refine j_aload C dL_add_83 rfl ?_
  refine j_iconst (v := (nI 0)) C dL_add_85 (by decide) ?_
  refine j_dup2 C dL_add_86 rfl rfl ?_
  refine j_ialdN C (by first | assumption | rfl) rfl rfl (by omega) dL_add_87 ?_
  refine j_iconst (v := (nI 1)) C dL_add_88 (by decide) ?_
  refine j_iadd C dL_add_89 ?_
  refine j_iastN C (by first | assumption | rfl) rfl rfl (by omega) dL_add_90 ?_
  exact j_vret C dL_add_91 rfl (by rfl) (by rfl)
set_option maxHeartbeats 4000000 in
theorem lp_L_pass {p : Program} {l : Launch} {e : Env} {s : State} {m : MethodId} {args : Array Value} {below : List Frame} {meth : Method} {c : Code} {g : GC} {Q : State → Prop} {V : Mem} {L : LMem} {k ns : Nat} {wr now : Int32} (C : Cx p s args m meth c cL_pass 9 yL_pass.cls (Option.none : Option Jvm.ClassFile.FieldType) g) (hk8 : k < 8) (h1 : V 224 1 = nI ns) (h12 : ns ≤ 12) (hS : Sok ns V) (kx : J p l e (RM 1) s m args below meth c 9 g 0 0 Q (lPSub k V (ns)) L 255 [some (.int (nI k)), some (.ref (ad g 224)), some (.ref (ad g 225)), some (.ref (ad g 226)), some (.ref (ad g 227)), some (.int wr), some (.int now), some (.int (nI (ns))), none] []) : ∀ j i : Nat, i + j = ns → J p l e (RM 1) s m args below meth c 9 g 0 0 Q (lPSub k V i) L 123 [some (.int (nI k)), some (.ref (ad g 224)), some (.ref (ad g 225)), some (.ref (ad g 226)), some (.ref (ad g 227)), some (.int wr), some (.int now), some (.int (nI i)), none] [] := by
  intro j
  induction j with
  | zero =>
    intro i hi
    have hi : ns = i := by omega
    subst hi
    refine j_iload C dL_pass_123 rfl ?_
    refine j_aload_n C dL_pass_125 rfl rfl ?_
    refine j_iconst (v := (nI 1)) C dL_pass_126 (by decide) ?_
    refine j_ialdN C (by first | assumption | rfl) rfl rfl (by omega) dL_pass_127 ?_
    refine j_tope (y := nI ns) (by first | exact e1 | (rw [lPSub_u _ (by omega)]; exact h1)) ?_
    refine j_icmp_ge (tgt := 255) C dL_pass_128 (by decide) (fun h128 => ?_) (fun h128 => absurd (nI_le (by omega) (by omega)) h128)
    exact kx
  | succ j ih =>
    intro i hi
    have e1 : lPSub k V i 224 1 = nI ns := by rw [lPSub_u i (by omega)]; exact h1
    have e3 : lPSub k V i 226 (4 * i + 3) = V 226 (4 * i + 3) := lPSub_u i (by omega)
    have e2 : lPSub k V i 226 (4 * i + 2) = V 226 (4 * i + 2) := lPSub_u i (by omega)
    have e4 : lPSub k V i 227 i = V 227 i := lPSub_u i (by omega)
    have hq := hS i (by omega)
    refine j_iload C dL_pass_123 rfl ?_
    refine j_aload_n C dL_pass_125 rfl rfl ?_
    refine j_iconst (v := (nI 1)) C dL_pass_126 (by decide) ?_
    refine j_ialdN C (by first | assumption | rfl) rfl rfl (by omega) dL_pass_127 ?_
    refine j_tope (y := nI ns) (by first | exact e1 | (rw [lPSub_u _ (by omega)]; exact h1)) ?_
    refine j_icmp_ge (tgt := 255) C dL_pass_128 (by decide) (fun h128 => absurd h128 (nI_ge (by omega) (by omega))) (fun h128 => ?_)
    refine j_aload_n C dL_pass_131 rfl rfl ?_
    refine j_iconst (v := (nI 4)) C dL_pass_132 (by decide) ?_
    refine j_iload C dL_pass_133 rfl ?_
    refine j_imulN C dL_pass_135 ?_
    refine j_ialdN C (by first | assumption | rfl) rfl rfl (by omega) dL_pass_136 ?_
    refine j_iload_n C dL_pass_137 rfl rfl ?_
    refine j_icmp_ne (tgt := 249) C dL_pass_138 (by decide) (fun h138 => ?_) (fun h138 => ?_)
    · refine j_incN7 (q := 1) C dL_pass_249 (by decide) (Nat.le_of_ble_eq_true rfl) rfl ?_
      refine j_goto (tgt := 123) C dL_pass_252 (by decide) ?_
      refine j_mem (V' := (lPSub k V (i + 1))) (L' := L) (by show lPS k i (lPSub k V i) = _; unfold lPS; first | (rw [if_pos ⟨h138, h149⟩]; done) | (rw [if_neg (fun z => h138 z.1)]; done) | (rw [if_neg (fun z => z.2 h149)]; done)) rfl ?_
      exact j_dr (lv' := [some (.int (nI k)), some (.ref (ad g 224)), some (.ref (ad g 225)), some (.ref (ad g 226)), some (.ref (ad g 227)), some (.int wr), some (.int now), some (.int (nI (i + 1))), none]) (And.intro rfl (And.intro rfl (And.intro rfl (And.intro rfl (And.intro rfl (And.intro rfl (And.intro rfl (And.intro rfl True.intro)))))))) (ih (i + 1) (by omega))
    · refine j_aload_n C dL_pass_141 rfl rfl ?_
      refine j_iconst (v := (nI 4)) C dL_pass_142 (by decide) ?_
      refine j_iload C dL_pass_143 rfl ?_
      refine j_imulN C dL_pass_145 ?_
      refine j_iconst (v := (nI 3)) C dL_pass_146 (by decide) ?_
      refine j_iaddN C dL_pass_147 ?_
      refine j_ialdN C (by first | assumption | rfl) rfl rfl (by omega) dL_pass_148 ?_
      refine j_if_ne (tgt := 155) C dL_pass_149 (by decide) (fun h149 => ?_) (fun h149 => ?_)
      · refine j_aload_n C dL_pass_155 rfl rfl ?_
        refine j_iconst (v := (nI 4)) C dL_pass_156 (by decide) ?_
        refine j_iload C dL_pass_157 rfl ?_
        refine j_imulN C dL_pass_159 ?_
        refine j_iconst (v := (nI 3)) C dL_pass_160 (by decide) ?_
        refine j_iaddN C dL_pass_161 ?_
        refine j_dup2 C dL_pass_162 rfl rfl ?_
        refine j_ialdN C (by first | assumption | rfl) rfl rfl (by omega) dL_pass_163 ?_
        refine j_iconst (v := (nI 1)) C dL_pass_164 (by decide) ?_
        refine j_isub C dL_pass_165 ?_
        refine j_iastN C (by first | assumption | rfl) rfl rfl (by omega) dL_pass_166 ?_
        refine j_aload_n C dL_pass_167 rfl rfl ?_
        refine j_iconst (v := (nI 4)) C dL_pass_168 (by decide) ?_
        refine j_iload C dL_pass_169 rfl ?_
        refine j_imulN C dL_pass_171 ?_
        refine j_iconst (v := (nI 2)) C dL_pass_172 (by decide) ?_
        refine j_iaddN C dL_pass_173 ?_
        refine j_ialdN C (by first | assumption | rfl) rfl rfl (by omega) dL_pass_174 ?_
        refine j_aload_n C dL_pass_175 rfl rfl ?_
        refine j_iconst (v := (nI 4)) C dL_pass_176 (by decide) ?_
        refine j_iload C dL_pass_177 rfl ?_
        refine j_imulN C dL_pass_179 ?_
        refine j_iconst (v := (nI 3)) C dL_pass_180 (by decide) ?_
        refine j_iaddN C dL_pass_181 ?_
        refine j_ialdN C (by first | assumption | rfl) rfl rfl (by omega) dL_pass_182 ?_
        refine j_aload C dL_pass_183 rfl ?_
        refine j_iload C dL_pass_185 rfl ?_
        refine j_ialdN C (by first | assumption | rfl) rfl rfl (by omega) dL_pass_187 ?_
        refine j_callS3r C (c_L_worth (by rw [mset_ne (by omega), e2]; exact hq.1) (by rw [mset_at, e3]; exact per_pred hq.2.1 (by rw [e3] at h149; exact h149)) (by rw [mset_ne (by omega), e4]; exact hq.2.2)) qm_L_40 qt_L_worth qn_L qc_L_worth fit_L_worth ⟨Nat.le_of_ble_eq_true rfl, Nat.le_of_ble_eq_true rfl, Nat.le_of_ble_eq_true rfl, Nat.le_of_ble_eq_true rfl⟩ (Nat.le_of_ble_eq_true rfl) dL_pass_188 ?_
        refine j_ist8 C dL_pass_191 (Nat.le_of_ble_eq_true rfl) rfl ?_
        refine j_aload_n C dL_pass_193 rfl rfl ?_
        refine j_bipush (v := (nI 27)) C dL_pass_194 (by decide) ?_
        refine j_iload_n C dL_pass_196 rfl rfl ?_
        refine j_iaddN C dL_pass_197 ?_
        refine j_dup2 C dL_pass_198 rfl rfl ?_
        refine j_ialdN C (by first | assumption | rfl) rfl rfl (by omega) dL_pass_199 ?_
        refine j_iload C dL_pass_200 rfl ?_
        refine j_aload C dL_pass_202 rfl ?_
        refine j_bipush (v := (nI 12)) C dL_pass_204 (by decide) ?_
        refine j_iload C dL_pass_206 rfl ?_
        refine j_iaddN C dL_pass_208 ?_
        refine j_ialdN C (by first | assumption | rfl) rfl rfl (by omega) dL_pass_209 ?_
        refine j_isub C dL_pass_210 ?_
        refine j_aload_n C dL_pass_211 rfl rfl ?_
        refine j_iconst (v := (nI 4)) C dL_pass_212 (by decide) ?_
        refine j_iload C dL_pass_213 rfl ?_
        refine j_imulN C dL_pass_215 ?_
        refine j_iconst (v := (nI 2)) C dL_pass_216 (by decide) ?_
        refine j_iaddN C dL_pass_217 ?_
        refine j_ialdN C (by first | assumption | rfl) rfl rfl (by omega) dL_pass_218 ?_
        refine j_iadd C dL_pass_219 ?_
        refine j_iadd C dL_pass_220 ?_
        refine j_iastN C (by first | assumption | rfl) rfl rfl (by omega) dL_pass_221 ?_
        refine j_aload_n C dL_pass_222 rfl rfl ?_
        refine j_bipush (v := (nI 19)) C dL_pass_223 (by decide) ?_
        refine j_iload_n C dL_pass_225 rfl rfl ?_
        refine j_iaddN C dL_pass_226 ?_
        refine j_dup2 C dL_pass_227 rfl rfl ?_
        refine j_ialdN C (by first | assumption | rfl) rfl rfl (by omega) dL_pass_228 ?_
        refine j_aload_n C dL_pass_229 rfl rfl ?_
        refine j_iconst (v := (nI 4)) C dL_pass_230 (by decide) ?_
        refine j_iload C dL_pass_231 rfl ?_
        refine j_imulN C dL_pass_233 ?_
        refine j_iconst (v := (nI 2)) C dL_pass_234 (by decide) ?_
        refine j_iaddN C dL_pass_235 ?_
        refine j_ialdN C (by first | assumption | rfl) rfl rfl (by omega) dL_pass_236 ?_
        refine j_iadd C dL_pass_237 ?_
        refine j_iastN C (by first | assumption | rfl) rfl rfl (by omega) dL_pass_238 ?_
        refine j_aload C dL_pass_239 rfl ?_
        refine j_bipush (v := (nI 12)) C dL_pass_241 (by decide) ?_
        refine j_iload C dL_pass_243 rfl ?_
        refine j_iaddN C dL_pass_245 ?_
        refine j_iload C dL_pass_246 rfl ?_
        refine j_iastN C (by first | assumption | rfl) rfl rfl (by omega) dL_pass_248 ?_
        refine j_incN7 (q := 1) C dL_pass_249 (by decide) (Nat.le_of_ble_eq_true rfl) rfl ?_
        refine j_goto (tgt := 123) C dL_pass_252 (by decide) ?_
        refine j_mem (V' := (lPSub k V (i + 1))) (L' := L) (by show lPS k i (lPSub k V i) = _; unfold lPS; first | (rw [if_pos ⟨h138, h149⟩]; done) | (rw [if_neg (fun z => h138 z.1)]; done) | (rw [if_neg (fun z => z.2 h149)]; done)) rfl ?_
        exact j_dr (lv' := [some (.int (nI k)), some (.ref (ad g 224)), some (.ref (ad g 225)), some (.ref (ad g 226)), some (.ref (ad g 227)), some (.int wr), some (.int now), some (.int (nI (i + 1))), none]) (And.intro rfl (And.intro rfl (And.intro rfl (And.intro rfl (And.intro rfl (And.intro rfl (And.intro rfl (And.intro rfl True.intro)))))))) (ih (i + 1) (by omega))
      · refine j_goto (tgt := 249) C dL_pass_152 (by decide) ?_
        refine j_incN7 (q := 1) C dL_pass_249 (by decide) (Nat.le_of_ble_eq_true rfl) rfl ?_
        refine j_goto (tgt := 123) C dL_pass_252 (by decide) ?_
        refine j_mem (V' := (lPSub k V (i + 1))) (L' := L) (by show lPS k i (lPSub k V i) = _; unfold lPS; first | (rw [if_pos ⟨h138, h149⟩]; done) | (rw [if_neg (fun z => h138 z.1)]; done) | (rw [if_neg (fun z => z.2 h149)]; done)) rfl ?_
        exact j_dr (lv' := [some (.int (nI k)), some (.ref (ad g 224)), some (.ref (ad g 225)), some (.ref (ad g 226)), some (.ref (ad g 227)), some (.int wr), some (.int now), some (.int (nI (i + 1))), none]) (And.intro rfl (And.intro rfl (And.intro rfl (And.intro rfl (And.intro rfl (And.intro rfl (And.intro rfl (And.intro rfl True.intro)))))))) (ih (i + 1) (by omega))
theorem lP0_u {k a b : Nat} {V : Mem} (h : ¬ (a = 225 ∧ b = 3 * k + 1) ∧ ¬ (a = 224 ∧ (b = 27 + k ∨ b = 19 + k ∨ b = 3 + k ∨ b = 11 + k))) : lP0 k V a b = V a b := by
  unfold lP0
  simp (disch := omega) only [mset_ne]
set_option maxHeartbeats 4000000 in
theorem c_L_pass0 {l : Launch} {g : GC} {V : Mem} {L : LMem} {k ns : Nat} (hk8 : k < 8) (h1 : V 224 1 = nI ns) (h12 : ns ≤ 12) (hS : Sok ns V) (h0 : V 225 (3 * k + 1) = 0) : MC l yL_pass cL_pass 9 (Option.none : Option Jvm.ClassFile.FieldType) 1 g V L [.int (nI k), .ref (ad g 224), .ref (ad g 225), .ref (ad g 226), .ref (ad g 227)] none V L := by
  refine MC.of [some (.int (nI k)), some (.ref (ad g 224)), some (.ref (ad g 225)), some (.ref (ad g 226)), some (.ref (ad g 227)), none, none, none, none] (by decide +kernel) rfl (Nat.le_of_ble_eq_true rfl) (fun p e s m args below meth c C => ?_)
  refine j_aload_n C dL_pass_0 rfl rfl ?_
  refine j_iconst (v := (nI 3)) C dL_pass_1 (by decide) ?_
  refine j_iload_n C dL_pass_2 rfl rfl ?_
  refine j_imulN C dL_pass_3 ?_
  refine j_iconst (v := (nI 1)) C dL_pass_4 (by decide) ?_
  refine j_iaddN C dL_pass_5 ?_
  refine j_ialdN C (by first | assumption | rfl) rfl rfl (by omega) dL_pass_6 ?_
  refine j_if_ne (tgt := 11) C dL_pass_7 (by decide) (fun h7 => (by exact absurd h0 h7)) (fun h7 => ?_)
  exact j_vret C dL_pass_10 rfl (by rfl) (by rfl)
set_option maxHeartbeats 4000000 in
theorem c_L_pass1 {l : Launch} {g : GC} {V : Mem} {L : LMem} {k ns : Nat} (hk8 : k < 8) (h1 : V 224 1 = nI ns) (h12 : ns ≤ 12) (hS : Sok ns V) (hL : money (V 225 (3 * k)) ∧ perR (V 225 (3 * k + 1)) ∧ rateR (V 225 (3 * k + 2))) (h0 : ¬ V 225 (3 * k + 1) = 0) : MC l yL_pass cL_pass 9 (Option.none : Option Jvm.ClassFile.FieldType) 1 g V L [.int (nI k), .ref (ad g 224), .ref (ad g 225), .ref (ad g 226), .ref (ad g 227)] none (lPSub k (lP0 k V) ns) L := by
  refine MC.of [some (.int (nI k)), some (.ref (ad g 224)), some (.ref (ad g 225)), some (.ref (ad g 226)), some (.ref (ad g 227)), none, none, none, none] (by decide +kernel) rfl (Nat.le_of_ble_eq_true rfl) (fun p e s m args below meth c C => ?_)
  refine j_aload_n C dL_pass_0 rfl rfl ?_
  refine j_iconst (v := (nI 3)) C dL_pass_1 (by decide) ?_
  refine j_iload_n C dL_pass_2 rfl rfl ?_
  refine j_imulN C dL_pass_3 ?_
  refine j_iconst (v := (nI 1)) C dL_pass_4 (by decide) ?_
  refine j_iaddN C dL_pass_5 ?_
  refine j_ialdN C (by first | assumption | rfl) rfl rfl (by omega) dL_pass_6 ?_
  refine j_if_ne (tgt := 11) C dL_pass_7 (by decide) (fun h7 => ?_) (fun h7 => (by exact absurd h7 h0))
  refine j_aload_n C dL_pass_11 rfl rfl ?_
  refine j_bipush (v := (nI 11)) C dL_pass_12 (by decide) ?_
  refine j_iload_n C dL_pass_14 rfl rfl ?_
  refine j_iaddN C dL_pass_15 ?_
  refine j_ialdN C (by first | assumption | rfl) rfl rfl (by omega) dL_pass_16 ?_
  refine j_aload_n C dL_pass_17 rfl rfl ?_
  refine j_iconst (v := (nI 3)) C dL_pass_18 (by decide) ?_
  refine j_iload_n C dL_pass_19 rfl rfl ?_
  refine j_imulN C dL_pass_20 ?_
  refine j_iconst (v := (nI 1)) C dL_pass_21 (by decide) ?_
  refine j_iaddN C dL_pass_22 ?_
  refine j_ialdN C (by first | assumption | rfl) rfl rfl (by omega) dL_pass_23 ?_
  refine j_idiv C dL_pass_24 (by exact h0) ?_
  refine j_ist5 C dL_pass_25 (Nat.le_of_ble_eq_true rfl) rfl ?_
  refine j_aload_n C dL_pass_27 rfl rfl ?_
  refine j_iconst (v := (nI 3)) C dL_pass_28 (by decide) ?_
  refine j_iload_n C dL_pass_29 rfl rfl ?_
  refine j_imulN C dL_pass_30 ?_
  refine j_iconst (v := (nI 1)) C dL_pass_31 (by decide) ?_
  refine j_iaddN C dL_pass_32 ?_
  refine j_dup2 C dL_pass_33 rfl rfl ?_
  refine j_ialdN C (by first | assumption | rfl) rfl rfl (by omega) dL_pass_34 ?_
  refine j_iconst (v := (nI 1)) C dL_pass_35 (by decide) ?_
  refine j_isub C dL_pass_36 ?_
  refine j_iastN C (by first | assumption | rfl) rfl rfl (by omega) dL_pass_37 ?_
  refine j_aload_n C dL_pass_38 rfl rfl ?_
  refine j_iconst (v := (nI 3)) C dL_pass_39 (by decide) ?_
  refine j_iload_n C dL_pass_40 rfl rfl ?_
  refine j_imulN C dL_pass_41 ?_
  refine j_ialdN C (by first | assumption | rfl) rfl rfl (by omega) dL_pass_42 ?_
  refine j_aload_n C dL_pass_43 rfl rfl ?_
  refine j_iconst (v := (nI 3)) C dL_pass_44 (by decide) ?_
  refine j_iload_n C dL_pass_45 rfl rfl ?_
  refine j_imulN C dL_pass_46 ?_
  refine j_iconst (v := (nI 1)) C dL_pass_47 (by decide) ?_
  refine j_iaddN C dL_pass_48 ?_
  refine j_ialdN C (by first | assumption | rfl) rfl rfl (by omega) dL_pass_49 ?_
  refine j_aload_n C dL_pass_50 rfl rfl ?_
  refine j_iconst (v := (nI 3)) C dL_pass_51 (by decide) ?_
  refine j_iload_n C dL_pass_52 rfl rfl ?_
  refine j_imulN C dL_pass_53 ?_
  refine j_iconst (v := (nI 2)) C dL_pass_54 (by decide) ?_
  refine j_iaddN C dL_pass_55 ?_
  refine j_ialdN C (by first | assumption | rfl) rfl rfl (by omega) dL_pass_56 ?_
  refine j_callS3r C (c_L_worth (by rw [mset_ne (by omega)]; exact hL.1) (by rw [mset_at]; exact per_pred hL.2.1 h0) (by rw [mset_ne (by omega)]; exact hL.2.2)) qm_L_40 qt_L_worth qn_L qc_L_worth fit_L_worth ⟨Nat.le_of_ble_eq_true rfl, Nat.le_of_ble_eq_true rfl, Nat.le_of_ble_eq_true rfl, Nat.le_of_ble_eq_true rfl⟩ (Nat.le_of_ble_eq_true rfl) dL_pass_57 ?_
  refine j_ist6 C dL_pass_60 (Nat.le_of_ble_eq_true rfl) rfl ?_
  refine j_aload_n C dL_pass_62 rfl rfl ?_
  refine j_bipush (v := (nI 27)) C dL_pass_63 (by decide) ?_
  refine j_iload_n C dL_pass_65 rfl rfl ?_
  refine j_iaddN C dL_pass_66 ?_
  refine j_dup2 C dL_pass_67 rfl rfl ?_
  refine j_ialdN C (by first | assumption | rfl) rfl rfl (by omega) dL_pass_68 ?_
  refine j_iload C dL_pass_69 rfl ?_
  refine j_aload_n C dL_pass_71 rfl rfl ?_
  refine j_iconst (v := (nI 3)) C dL_pass_72 (by decide) ?_
  refine j_iload_n C dL_pass_73 rfl rfl ?_
  refine j_iaddN C dL_pass_74 ?_
  refine j_ialdN C (by first | assumption | rfl) rfl rfl (by omega) dL_pass_75 ?_
  refine j_isub C dL_pass_76 ?_
  refine j_aload_n C dL_pass_77 rfl rfl ?_
  refine j_iconst (v := (nI 3)) C dL_pass_78 (by decide) ?_
  refine j_iload_n C dL_pass_79 rfl rfl ?_
  refine j_imulN C dL_pass_80 ?_
  refine j_ialdN C (by first | assumption | rfl) rfl rfl (by omega) dL_pass_81 ?_
  refine j_iadd C dL_pass_82 ?_
  refine j_iload C dL_pass_83 rfl ?_
  refine j_iadd C dL_pass_85 ?_
  refine j_isub C dL_pass_86 ?_
  refine j_iastN C (by first | assumption | rfl) rfl rfl (by omega) dL_pass_87 ?_
  refine j_aload_n C dL_pass_88 rfl rfl ?_
  refine j_bipush (v := (nI 19)) C dL_pass_89 (by decide) ?_
  refine j_iload_n C dL_pass_91 rfl rfl ?_
  refine j_iaddN C dL_pass_92 ?_
  refine j_dup2 C dL_pass_93 rfl rfl ?_
  refine j_ialdN C (by first | assumption | rfl) rfl rfl (by omega) dL_pass_94 ?_
  refine j_aload_n C dL_pass_95 rfl rfl ?_
  refine j_iconst (v := (nI 3)) C dL_pass_96 (by decide) ?_
  refine j_iload_n C dL_pass_97 rfl rfl ?_
  refine j_imulN C dL_pass_98 ?_
  refine j_ialdN C (by first | assumption | rfl) rfl rfl (by omega) dL_pass_99 ?_
  refine j_isub C dL_pass_100 ?_
  refine j_iastN C (by first | assumption | rfl) rfl rfl (by omega) dL_pass_101 ?_
  refine j_aload_n C dL_pass_102 rfl rfl ?_
  refine j_iconst (v := (nI 3)) C dL_pass_103 (by decide) ?_
  refine j_iload_n C dL_pass_104 rfl rfl ?_
  refine j_iaddN C dL_pass_105 ?_
  refine j_iload C dL_pass_106 rfl ?_
  refine j_iastN C (by first | assumption | rfl) rfl rfl (by omega) dL_pass_108 ?_
  refine j_aload_n C dL_pass_109 rfl rfl ?_
  refine j_bipush (v := (nI 11)) C dL_pass_110 (by decide) ?_
  refine j_iload_n C dL_pass_112 rfl rfl ?_
  refine j_iaddN C dL_pass_113 ?_
  refine j_dup2 C dL_pass_114 rfl rfl ?_
  refine j_ialdN C (by first | assumption | rfl) rfl rfl (by omega) dL_pass_115 ?_
  refine j_iload C dL_pass_116 rfl ?_
  refine j_isub C dL_pass_118 ?_
  refine j_iastN C (by first | assumption | rfl) rfl rfl (by omega) dL_pass_119 ?_
  refine j_iconst (v := (nI 0)) C dL_pass_120 (by decide) ?_
  refine j_ist7 C dL_pass_121 (Nat.le_of_ble_eq_true rfl) rfl ?_
  refine lp_L_pass (V := lP0 k V) C hk8 (by rw [lP0_u (by omega)]; exact h1) h12 (fun q hq => by rw [lP0_u (by omega), lP0_u (by omega), lP0_u (by omega)]; exact hS q hq) ?_ ns 0 (by omega)
  exact j_vret C dL_pass_255 rfl (by rfl) (by rfl)
theorem c_L_pass {l : Launch} {g : GC} {V : Mem} {L : LMem} {k ns : Nat} (hk8 : k < 8) (h1 : V 224 1 = nI ns) (h12 : ns ≤ 12) (hS : Sok ns V) (hL : money (V 225 (3 * k)) ∧ perR (V 225 (3 * k + 1)) ∧ rateR (V 225 (3 * k + 2))) : MC l yL_pass cL_pass 9 (Option.none : Option Jvm.ClassFile.FieldType) 1 g V L [.int (nI k), .ref (ad g 224), .ref (ad g 225), .ref (ad g 226), .ref (ad g 227)] none (lPL k ns V) L := by
  unfold lPL
  split
  · rename_i h0; exact c_L_pass0 hk8 h1 h12 hS h0
  · rename_i h0; exact c_L_pass1 hk8 h1 h12 hS hL h0
set_option maxHeartbeats 4000000 in
theorem lp_L_measure {p : Program} {l : Launch} {e : Env} {s : State} {m : MethodId} {args : Array Value} {below : List Frame} {meth : Method} {c : Code} {g : GC} {Q : State → Prop} {V : Mem} {L : LMem} {k ns : Nat} {p1 n r th as' : Int32} (C : Cx p s args m meth c cL_measure 12 yL_measure.cls (some .int) g) (hk8 : k < 8) (hn : perR n) (h1 : V 224 1 = nI ns) (h12 : ns ≤ 12) (hS : Sok ns V) (kx : J p l e (RM 1) s m args below meth c 12 g 0 0 Q (lCut k n V (ns)) L 218 [some (.int (nI k)), some (.int p1), some (.int n), some (.int r), some (.ref (ad g 224)), some (.ref (ad g 225)), some (.ref (ad g 226)), some (.ref (ad g 227)), some (.int th), some (.int as'), some (.int (nI (ns))), none] []) : ∀ j i : Nat, i + j = ns → J p l e (RM 1) s m args below meth c 12 g 0 0 Q (lCut k n V i) L 115 [some (.int (nI k)), some (.int p1), some (.int n), some (.int r), some (.ref (ad g 224)), some (.ref (ad g 225)), some (.ref (ad g 226)), some (.ref (ad g 227)), some (.int th), some (.int as'), some (.int (nI i)), none] [] := by
  intro j
  induction j with
  | zero =>
    intro i hi
    have hi : ns = i := by omega
    subst hi
    refine j_iload C dL_measure_115 rfl ?_
    refine j_aload C dL_measure_117 rfl ?_
    refine j_iconst (v := (nI 1)) C dL_measure_119 (by decide) ?_
    refine j_ialdN C (by first | assumption | rfl) rfl rfl (by omega) dL_measure_120 ?_
    refine j_tope (y := nI ns) (by first | exact e1 | (rw [lCut_u _ (by omega)]; exact h1)) ?_
    refine j_icmp_ge (tgt := 218) C dL_measure_121 (by decide) (fun h121 => ?_) (fun h121 => absurd (nI_le (by omega) (by omega)) h121)
    exact kx
  | succ j ih =>
    intro i hi
    have e1 : lCut k n V i 224 1 = nI ns := by rw [lCut_u i (by omega)]; exact h1
    have e3 : lCut k n V i 226 (4 * i + 3) = V 226 (4 * i + 3) := lCut_u i (by omega)
    have e2 : lCut k n V i 226 (4 * i + 2) = V 226 (4 * i + 2) := lCut_u i (by omega)
    have e4 : lCut k n V i 227 i = V 227 i := lCut_u i (by omega)
    have hq := hS i (by omega)
    refine j_iload C dL_measure_115 rfl ?_
    refine j_aload C dL_measure_117 rfl ?_
    refine j_iconst (v := (nI 1)) C dL_measure_119 (by decide) ?_
    refine j_ialdN C (by first | assumption | rfl) rfl rfl (by omega) dL_measure_120 ?_
    refine j_tope (y := nI ns) (by first | exact e1 | (rw [lCut_u _ (by omega)]; exact h1)) ?_
    refine j_icmp_ge (tgt := 218) C dL_measure_121 (by decide) (fun h121 => absurd h121 (nI_ge (by omega) (by omega))) (fun h121 => ?_)
    refine j_aload C dL_measure_124 rfl ?_
    refine j_iconst (v := (nI 4)) C dL_measure_126 (by decide) ?_
    refine j_iload C dL_measure_127 rfl ?_
    refine j_imulN C dL_measure_129 ?_
    refine j_ialdN C (by first | assumption | rfl) rfl rfl (by omega) dL_measure_130 ?_
    refine j_iload_n C dL_measure_131 rfl rfl ?_
    refine j_icmp_ne (tgt := 212) C dL_measure_132 (by decide) (fun h132 => ?_) (fun h132 => ?_)
    · refine j_incN10 (q := 1) C dL_measure_212 (by decide) (Nat.le_of_ble_eq_true rfl) rfl ?_
      refine j_goto (tgt := 115) C dL_measure_215 (by decide) ?_
      refine j_mem (V' := (lCut k n V (i + 1))) (L' := L) (by show lCS k n i (lCut k n V i) = _; unfold lCS; first | (rw [if_pos ⟨h132, h145⟩]; done) | (rw [if_neg (fun z => h132 z.1)]; done) | (rw [if_neg (fun z => h145 z.2)]; done) | (rw [if_pos ⟨h132, Int32.not_le.mp h145⟩]; done) | (rw [if_neg (fun z => absurd z.2 (Int32.not_lt.mpr h145))]; done)) rfl ?_
      exact j_dr (lv' := [some (.int (nI k)), some (.int p1), some (.int n), some (.int r), some (.ref (ad g 224)), some (.ref (ad g 225)), some (.ref (ad g 226)), some (.ref (ad g 227)), some (.int th), some (.int as'), some (.int (nI (i + 1))), none]) (And.intro rfl (And.intro rfl (And.intro rfl (And.intro rfl (And.intro rfl (And.intro rfl (And.intro rfl (And.intro rfl (And.intro rfl (And.intro rfl (And.intro rfl True.intro))))))))))) (ih (i + 1) (by omega))
    · refine j_aload C dL_measure_135 rfl ?_
      refine j_iconst (v := (nI 4)) C dL_measure_137 (by decide) ?_
      refine j_iload C dL_measure_138 rfl ?_
      refine j_imulN C dL_measure_140 ?_
      refine j_iconst (v := (nI 3)) C dL_measure_141 (by decide) ?_
      refine j_iaddN C dL_measure_142 ?_
      refine j_ialdN C (by first | assumption | rfl) rfl rfl (by omega) dL_measure_143 ?_
      refine j_iload_n C dL_measure_144 rfl rfl ?_
      refine j_icmp_gt (tgt := 151) C dL_measure_145 (by decide) (fun h145 => ?_) (fun h145 => ?_)
      · refine j_aload C dL_measure_151 rfl ?_
        refine j_iconst (v := (nI 4)) C dL_measure_153 (by decide) ?_
        refine j_iload C dL_measure_154 rfl ?_
        refine j_imulN C dL_measure_156 ?_
        refine j_iconst (v := (nI 2)) C dL_measure_157 (by decide) ?_
        refine j_iaddN C dL_measure_158 ?_
        refine j_ialdN C (by first | assumption | rfl) rfl rfl (by omega) dL_measure_159 ?_
        refine j_iload_n C dL_measure_160 rfl rfl ?_
        refine j_aload C dL_measure_161 rfl ?_
        refine j_iload C dL_measure_163 rfl ?_
        refine j_ialdN C (by first | assumption | rfl) rfl rfl (by omega) dL_measure_165 ?_
        refine j_callS3r C (c_L_worth (by rw [e2]; exact hq.1) hn (by rw [e4]; exact hq.2.2)) qm_L_40 qt_L_worth qn_L qc_L_worth fit_L_worth ⟨Nat.le_of_ble_eq_true rfl, Nat.le_of_ble_eq_true rfl, Nat.le_of_ble_eq_true rfl, Nat.le_of_ble_eq_true rfl⟩ (Nat.le_of_ble_eq_true rfl) dL_measure_166 ?_
        refine j_ist11 C dL_measure_169 (Nat.le_of_ble_eq_true rfl) rfl ?_
        refine j_aload C dL_measure_171 rfl ?_
        refine j_bipush (v := (nI 27)) C dL_measure_173 (by decide) ?_
        refine j_iload_n C dL_measure_175 rfl rfl ?_
        refine j_iaddN C dL_measure_176 ?_
        refine j_dup2 C dL_measure_177 rfl rfl ?_
        refine j_ialdN C (by first | assumption | rfl) rfl rfl (by omega) dL_measure_178 ?_
        refine j_aload C dL_measure_179 rfl ?_
        refine j_bipush (v := (nI 12)) C dL_measure_181 (by decide) ?_
        refine j_iload C dL_measure_183 rfl ?_
        refine j_iaddN C dL_measure_185 ?_
        refine j_ialdN C (by first | assumption | rfl) rfl rfl (by omega) dL_measure_186 ?_
        refine j_iload C dL_measure_187 rfl ?_
        refine j_isub C dL_measure_189 ?_
        refine j_isub C dL_measure_190 ?_
        refine j_iastN C (by first | assumption | rfl) rfl rfl (by omega) dL_measure_191 ?_
        refine j_aload C dL_measure_192 rfl ?_
        refine j_iconst (v := (nI 4)) C dL_measure_194 (by decide) ?_
        refine j_iload C dL_measure_195 rfl ?_
        refine j_imulN C dL_measure_197 ?_
        refine j_iconst (v := (nI 3)) C dL_measure_198 (by decide) ?_
        refine j_iaddN C dL_measure_199 ?_
        refine j_iload_n C dL_measure_200 rfl rfl ?_
        refine j_iastN C (by first | assumption | rfl) rfl rfl (by omega) dL_measure_201 ?_
        refine j_aload C dL_measure_202 rfl ?_
        refine j_bipush (v := (nI 12)) C dL_measure_204 (by decide) ?_
        refine j_iload C dL_measure_206 rfl ?_
        refine j_iaddN C dL_measure_208 ?_
        refine j_iload C dL_measure_209 rfl ?_
        refine j_iastN C (by first | assumption | rfl) rfl rfl (by omega) dL_measure_211 ?_
        refine j_incN10 (q := 1) C dL_measure_212 (by decide) (Nat.le_of_ble_eq_true rfl) rfl ?_
        refine j_goto (tgt := 115) C dL_measure_215 (by decide) ?_
        refine j_mem (V' := (lCut k n V (i + 1))) (L' := L) (by show lCS k n i (lCut k n V i) = _; unfold lCS; first | (rw [if_pos ⟨h132, h145⟩]; done) | (rw [if_neg (fun z => h132 z.1)]; done) | (rw [if_neg (fun z => h145 z.2)]; done) | (rw [if_pos ⟨h132, Int32.not_le.mp h145⟩]; done) | (rw [if_neg (fun z => absurd z.2 (Int32.not_lt.mpr h145))]; done)) rfl ?_
        exact j_dr (lv' := [some (.int (nI k)), some (.int p1), some (.int n), some (.int r), some (.ref (ad g 224)), some (.ref (ad g 225)), some (.ref (ad g 226)), some (.ref (ad g 227)), some (.int th), some (.int as'), some (.int (nI (i + 1))), none]) (And.intro rfl (And.intro rfl (And.intro rfl (And.intro rfl (And.intro rfl (And.intro rfl (And.intro rfl (And.intro rfl (And.intro rfl (And.intro rfl (And.intro rfl True.intro))))))))))) (ih (i + 1) (by omega))
      · refine j_goto (tgt := 212) C dL_measure_148 (by decide) ?_
        refine j_incN10 (q := 1) C dL_measure_212 (by decide) (Nat.le_of_ble_eq_true rfl) rfl ?_
        refine j_goto (tgt := 115) C dL_measure_215 (by decide) ?_
        refine j_mem (V' := (lCut k n V (i + 1))) (L' := L) (by show lCS k n i (lCut k n V i) = _; unfold lCS; first | (rw [if_pos ⟨h132, h145⟩]; done) | (rw [if_neg (fun z => h132 z.1)]; done) | (rw [if_neg (fun z => h145 z.2)]; done) | (rw [if_pos ⟨h132, Int32.not_le.mp h145⟩]; done) | (rw [if_neg (fun z => absurd z.2 (Int32.not_lt.mpr h145))]; done)) rfl ?_
        exact j_dr (lv' := [some (.int (nI k)), some (.int p1), some (.int n), some (.int r), some (.ref (ad g 224)), some (.ref (ad g 225)), some (.ref (ad g 226)), some (.ref (ad g 227)), some (.int th), some (.int as'), some (.int (nI (i + 1))), none]) (And.intro rfl (And.intro rfl (And.intro rfl (And.intro rfl (And.intro rfl (And.intro rfl (And.intro rfl (And.intro rfl (And.intro rfl (And.intro rfl (And.intro rfl True.intro))))))))))) (ih (i + 1) (by omega))
theorem lMeas0_u {k a b : Nat} {p n r : Int32} {V : Mem} (h : ¬ (a = 225 ∧ 3 * k ≤ b ∧ b < 3 * k + 3) ∧ ¬ (a = 224 ∧ (b = 27 + k ∨ b = 3 + k ∨ b = 11 + k))) : lMeas0 k p n r V a b = V a b := by
  unfold lMeas0
  simp (disch := omega) only [mset_ne]
set_option maxHeartbeats 4000000 in
theorem c_L_measure {l : Launch} {g : GC} {V : Mem} {L : LMem} {k ns : Nat} {p1 n r : Int32} (hk8 : k < 8) (hp : money p1) (hn : perR n) (hr : rateR r) (h1 : V 224 1 = nI ns) (h12 : ns ≤ 12) (hS : Sok ns V) : MC l yL_measure cL_measure 12 (some .int) 1 g V L [.int (nI k), .int p1, .int n, .int r, .ref (ad g 224), .ref (ad g 225), .ref (ad g 226), .ref (ad g 227)] (some (.int (wor p1 n r))) (lMeas k p1 n r ns V) L := by
  refine MC.of [some (.int (nI k)), some (.int p1), some (.int n), some (.int r), some (.ref (ad g 224)), some (.ref (ad g 225)), some (.ref (ad g 226)), some (.ref (ad g 227)), none, none, none, none] (by decide +kernel) rfl (Nat.le_of_ble_eq_true rfl) (fun p e s m args below meth c C => ?_)
  refine j_iload_n C dL_measure_0 rfl rfl ?_
  refine j_iload_n C dL_measure_1 rfl rfl ?_
  refine j_iload_n C dL_measure_2 rfl rfl ?_
  refine j_callS3r C (c_L_worth hp hn hr) qm_L_40 qt_L_worth qn_L qc_L_worth fit_L_worth ⟨Nat.le_of_ble_eq_true rfl, Nat.le_of_ble_eq_true rfl, Nat.le_of_ble_eq_true rfl, Nat.le_of_ble_eq_true rfl⟩ (Nat.le_of_ble_eq_true rfl) dL_measure_3 ?_
  refine j_ist8 C dL_measure_6 (Nat.le_of_ble_eq_true rfl) rfl ?_
  refine j_aload C dL_measure_8 rfl ?_
  refine j_bipush (v := (nI 11)) C dL_measure_10 (by decide) ?_
  refine j_iload_n C dL_measure_12 rfl rfl ?_
  refine j_iaddN C dL_measure_13 ?_
  refine j_ialdN C (by first | assumption | rfl) rfl rfl (by omega) dL_measure_14 ?_
  refine j_iload C dL_measure_15 rfl ?_
  refine j_iadd C dL_measure_17 ?_
  refine j_aload C dL_measure_18 rfl ?_
  refine j_iconst (v := (nI 3)) C dL_measure_20 (by decide) ?_
  refine j_iload_n C dL_measure_21 rfl rfl ?_
  refine j_iaddN C dL_measure_22 ?_
  refine j_ialdN C (by first | assumption | rfl) rfl rfl (by omega) dL_measure_23 ?_
  refine j_isub C dL_measure_24 ?_
  refine j_ist9 C dL_measure_25 (Nat.le_of_ble_eq_true rfl) rfl ?_
  refine j_iload C dL_measure_27 rfl ?_
  refine j_if_ge (tgt := 36) C dL_measure_29 (by decide) (fun h29 => ?_) (fun h29 => ?_)
  · refine j_iload C dL_measure_36 rfl ?_
    refine j_tope (y := lAs k (wor p1 n r) V) (by exact lAs_ge (by first | exact h29 | exact Int32.not_lt.mpr h29)) ?_
    refine j_ist9 C dL_measure_38 (Nat.le_of_ble_eq_true rfl) rfl ?_
    refine j_aload C dL_measure_40 rfl ?_
    refine j_bipush (v := (nI 27)) C dL_measure_42 (by decide) ?_
    refine j_iload_n C dL_measure_44 rfl rfl ?_
    refine j_iaddN C dL_measure_45 ?_
    refine j_dup2 C dL_measure_46 rfl rfl ?_
    refine j_ialdN C (by first | assumption | rfl) rfl rfl (by omega) dL_measure_47 ?_
    refine j_iload C dL_measure_48 rfl ?_
    refine j_aload C dL_measure_50 rfl ?_
    refine j_bipush (v := (nI 11)) C dL_measure_52 (by decide) ?_
    refine j_iload_n C dL_measure_54 rfl rfl ?_
    refine j_iaddN C dL_measure_55 ?_
    refine j_ialdN C (by first | assumption | rfl) rfl rfl (by omega) dL_measure_56 ?_
    refine j_isub C dL_measure_57 ?_
    refine j_iload C dL_measure_58 rfl ?_
    refine j_isub C dL_measure_60 ?_
    refine j_aload C dL_measure_61 rfl ?_
    refine j_iconst (v := (nI 3)) C dL_measure_63 (by decide) ?_
    refine j_iload_n C dL_measure_64 rfl rfl ?_
    refine j_iaddN C dL_measure_65 ?_
    refine j_ialdN C (by first | assumption | rfl) rfl rfl (by omega) dL_measure_66 ?_
    refine j_iadd C dL_measure_67 ?_
    refine j_iadd C dL_measure_68 ?_
    refine j_iastN C (by first | assumption | rfl) rfl rfl (by omega) dL_measure_69 ?_
    refine j_aload C dL_measure_70 rfl ?_
    refine j_iconst (v := (nI 3)) C dL_measure_72 (by decide) ?_
    refine j_iload_n C dL_measure_73 rfl rfl ?_
    refine j_iaddN C dL_measure_74 ?_
    refine j_iload C dL_measure_75 rfl ?_
    refine j_iastN C (by first | assumption | rfl) rfl rfl (by omega) dL_measure_77 ?_
    refine j_aload C dL_measure_78 rfl ?_
    refine j_bipush (v := (nI 11)) C dL_measure_80 (by decide) ?_
    refine j_iload_n C dL_measure_82 rfl rfl ?_
    refine j_iaddN C dL_measure_83 ?_
    refine j_iload C dL_measure_84 rfl ?_
    refine j_iastN C (by first | assumption | rfl) rfl rfl (by omega) dL_measure_86 ?_
    refine j_aload C dL_measure_87 rfl ?_
    refine j_iconst (v := (nI 3)) C dL_measure_89 (by decide) ?_
    refine j_iload_n C dL_measure_90 rfl rfl ?_
    refine j_imulN C dL_measure_91 ?_
    refine j_iload_n C dL_measure_92 rfl rfl ?_
    refine j_iastN C (by first | assumption | rfl) rfl rfl (by omega) dL_measure_93 ?_
    refine j_aload C dL_measure_94 rfl ?_
    refine j_iconst (v := (nI 3)) C dL_measure_96 (by decide) ?_
    refine j_iload_n C dL_measure_97 rfl rfl ?_
    refine j_imulN C dL_measure_98 ?_
    refine j_iconst (v := (nI 1)) C dL_measure_99 (by decide) ?_
    refine j_iaddN C dL_measure_100 ?_
    refine j_iload_n C dL_measure_101 rfl rfl ?_
    refine j_iastN C (by first | assumption | rfl) rfl rfl (by omega) dL_measure_102 ?_
    refine j_aload C dL_measure_103 rfl ?_
    refine j_iconst (v := (nI 3)) C dL_measure_105 (by decide) ?_
    refine j_iload_n C dL_measure_106 rfl rfl ?_
    refine j_imulN C dL_measure_107 ?_
    refine j_iconst (v := (nI 2)) C dL_measure_108 (by decide) ?_
    refine j_iaddN C dL_measure_109 ?_
    refine j_iload_n C dL_measure_110 rfl rfl ?_
    refine j_iastN C (by first | assumption | rfl) rfl rfl (by omega) dL_measure_111 ?_
    refine j_iconst (v := (nI 0)) C dL_measure_112 (by decide) ?_
    refine j_ist10 C dL_measure_113 (Nat.le_of_ble_eq_true rfl) rfl ?_
    refine lp_L_measure (V := lMeas0 k p1 n r V) C hk8 hn (by rw [lMeas0_u (by omega)]; exact h1) h12 (fun q hq => by rw [lMeas0_u (by omega), lMeas0_u (by omega), lMeas0_u (by omega)]; exact hS q hq) ?_ ns 0 (by omega)
    refine j_iload C dL_measure_218 rfl ?_
    exact j_iret C dL_measure_220 (by rfl) (by rfl) (by rfl)
  · refine j_iconst (v := (nI 0)) C dL_measure_32 (by decide) ?_
    refine j_tope (y := lAs k (wor p1 n r) V) (by exact lAs_lt (by first | exact h29 | exact Int32.not_le.mp h29)) ?_
    refine j_goto (tgt := 38) C dL_measure_33 (by decide) ?_
    refine j_ist9 C dL_measure_38 (Nat.le_of_ble_eq_true rfl) rfl ?_
    refine j_aload C dL_measure_40 rfl ?_
    refine j_bipush (v := (nI 27)) C dL_measure_42 (by decide) ?_
    refine j_iload_n C dL_measure_44 rfl rfl ?_
    refine j_iaddN C dL_measure_45 ?_
    refine j_dup2 C dL_measure_46 rfl rfl ?_
    refine j_ialdN C (by first | assumption | rfl) rfl rfl (by omega) dL_measure_47 ?_
    refine j_iload C dL_measure_48 rfl ?_
    refine j_aload C dL_measure_50 rfl ?_
    refine j_bipush (v := (nI 11)) C dL_measure_52 (by decide) ?_
    refine j_iload_n C dL_measure_54 rfl rfl ?_
    refine j_iaddN C dL_measure_55 ?_
    refine j_ialdN C (by first | assumption | rfl) rfl rfl (by omega) dL_measure_56 ?_
    refine j_isub C dL_measure_57 ?_
    refine j_iload C dL_measure_58 rfl ?_
    refine j_isub C dL_measure_60 ?_
    refine j_aload C dL_measure_61 rfl ?_
    refine j_iconst (v := (nI 3)) C dL_measure_63 (by decide) ?_
    refine j_iload_n C dL_measure_64 rfl rfl ?_
    refine j_iaddN C dL_measure_65 ?_
    refine j_ialdN C (by first | assumption | rfl) rfl rfl (by omega) dL_measure_66 ?_
    refine j_iadd C dL_measure_67 ?_
    refine j_iadd C dL_measure_68 ?_
    refine j_iastN C (by first | assumption | rfl) rfl rfl (by omega) dL_measure_69 ?_
    refine j_aload C dL_measure_70 rfl ?_
    refine j_iconst (v := (nI 3)) C dL_measure_72 (by decide) ?_
    refine j_iload_n C dL_measure_73 rfl rfl ?_
    refine j_iaddN C dL_measure_74 ?_
    refine j_iload C dL_measure_75 rfl ?_
    refine j_iastN C (by first | assumption | rfl) rfl rfl (by omega) dL_measure_77 ?_
    refine j_aload C dL_measure_78 rfl ?_
    refine j_bipush (v := (nI 11)) C dL_measure_80 (by decide) ?_
    refine j_iload_n C dL_measure_82 rfl rfl ?_
    refine j_iaddN C dL_measure_83 ?_
    refine j_iload C dL_measure_84 rfl ?_
    refine j_iastN C (by first | assumption | rfl) rfl rfl (by omega) dL_measure_86 ?_
    refine j_aload C dL_measure_87 rfl ?_
    refine j_iconst (v := (nI 3)) C dL_measure_89 (by decide) ?_
    refine j_iload_n C dL_measure_90 rfl rfl ?_
    refine j_imulN C dL_measure_91 ?_
    refine j_iload_n C dL_measure_92 rfl rfl ?_
    refine j_iastN C (by first | assumption | rfl) rfl rfl (by omega) dL_measure_93 ?_
    refine j_aload C dL_measure_94 rfl ?_
    refine j_iconst (v := (nI 3)) C dL_measure_96 (by decide) ?_
    refine j_iload_n C dL_measure_97 rfl rfl ?_
    refine j_imulN C dL_measure_98 ?_
    refine j_iconst (v := (nI 1)) C dL_measure_99 (by decide) ?_
    refine j_iaddN C dL_measure_100 ?_
    refine j_iload_n C dL_measure_101 rfl rfl ?_
    refine j_iastN C (by first | assumption | rfl) rfl rfl (by omega) dL_measure_102 ?_
    refine j_aload C dL_measure_103 rfl ?_
    refine j_iconst (v := (nI 3)) C dL_measure_105 (by decide) ?_
    refine j_iload_n C dL_measure_106 rfl rfl ?_
    refine j_imulN C dL_measure_107 ?_
    refine j_iconst (v := (nI 2)) C dL_measure_108 (by decide) ?_
    refine j_iaddN C dL_measure_109 ?_
    refine j_iload_n C dL_measure_110 rfl rfl ?_
    refine j_iastN C (by first | assumption | rfl) rfl rfl (by omega) dL_measure_111 ?_
    refine j_iconst (v := (nI 0)) C dL_measure_112 (by decide) ?_
    refine j_ist10 C dL_measure_113 (Nat.le_of_ble_eq_true rfl) rfl ?_
    refine lp_L_measure (V := lMeas0 k p1 n r V) C hk8 hn (by rw [lMeas0_u (by omega)]; exact h1) h12 (fun q hq => by rw [lMeas0_u (by omega), lMeas0_u (by omega), lMeas0_u (by omega)]; exact hS q hq) ?_ ns 0 (by omega)
    refine j_iload C dL_measure_218 rfl ?_
    exact j_iret C dL_measure_220 (by rfl) (by rfl) (by rfl)
