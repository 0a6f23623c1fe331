/-! WORTHS as natural numbers; rows of the law's own -/
def wN (P z : Nat) : Nat → Nat
  | 0 => 0
  | i + 1 => ((wN P z i + P) * 20000 + (10000 + z)) / (2 * (10000 + z))
theorem wN_step {P z w : Nat} : ((w + P) * 20000 + (10000 + z)) / (2 * (10000 + z)) ≤ w + P := by
  rw [Nat.div_le_iff_le_mul_add_pred (by omega)]
  have : 2 * (10000 + z) * (w + P) = (w + P) * 20000 + 2 * z * (w + P) := by rw [Nat.mul_add 2, Nat.add_mul, Nat.mul_comm (2 * 10000)]
  omega
theorem wN_le {P z : Nat} : ∀ i, wN P z i ≤ P * i
  | 0 => Nat.le_refl _
  | i + 1 => by
    have h1 := wN_le (P := P) (z := z) i
    have h2 : P * (i + 1) = P * i + P := Nat.mul_succ P i
    rw [wN]
    exact Nat.le_trans wN_step (by omega)
theorem wl_N {P z : Nat} (hP : P ≤ 100000) (hz : z ≤ 2000) : ∀ i, i ≤ 60 → wl (nI P) (nI z) i = lN (wN P z i)
  | 0, _ => rfl
  | i + 1, hi => by
    have ih := wl_N hP hz i (by omega)
    have hw := wN_le (P := P) (z := z) i
    have hb : P * i ≤ 100000 * 60 := Nat.mul_le_mul hP (by omega)
    show ((wl (nI P) (nI z) i + (nI P).toInt64) * 20000 + (10000 + (nI z).toInt64)) / (2 * (10000 + (nI z).toInt64)) = _
    rw [ih, nI_l (by omega), nI_l (by omega)]
    have e1 : (10000 : Int64) + lN z = lN (10000 + z) := lN_add 10000 z
    have e2 : (2 : Int64) * lN (10000 + z) = lN (2 * (10000 + z)) := lN_mul 2 _
    have e3 : lN (wN P z i + P) * (20000 : Int64) = lN ((wN P z i + P) * 20000) := lN_mul _ 20000
    rw [e1, e2, lN_add, e3, lN_add, pk_lDiv (by omega) (by omega) (by omega)]
    rfl
theorem wN_b {P z n : Nat} (hP : P ≤ 100000) (hn : n ≤ 60) : wN P z n ≤ 6000000 := Nat.le_trans (wN_le n) (Nat.le_trans (Nat.mul_le_mul hP hn) (by omega))
theorem wor_N {P n z : Nat} (hP : P ≤ 100000) (hn : n ≤ 60) (hz : z ≤ 2000) : wor (nI P) (nI n) (nI z) = nI (wN P z n) := by
  unfold wor
  rw [nI_clamp (by omega), wl_N hP hz n hn, lN_i]
theorem rate_of {z : Int32} (h : rateR z) : ∃ j, j ≤ 2000 ∧ z = nI j := nI_of2 (n := 2000) (nI_toInt (by omega)) (fun q => absurd h.1 (Int32.not_le.mpr q)) h.2
theorem per_of {z : Int32} (h : perR z) : ∃ j, j ≤ 60 ∧ z = nI j := nI_of2 (n := 60) (nI_toInt (by omega)) (fun q => absurd h.1 (Int32.not_le.mpr q)) h.2
theorem mon_of {z : Int32} (h : money z) : ∃ j, j ≤ 100000 ∧ z = nI j := nI_of2 (n := 100000) (nI_toInt (by omega)) (fun q => absurd h.1 (Int32.not_le.mpr q)) h.2
theorem wor_of {p n z : Int32} (hp : money p) (hn : perR n) (hz : rateR z) : ∃ w, w ≤ 6000000 ∧ wor p n z = nI w := by
  obtain ⟨P, h1, rfl⟩ := mon_of hp
  obtain ⟨N, h2, rfl⟩ := per_of hn
  obtain ⟨R, h3, rfl⟩ := rate_of hz
  exact ⟨wN P R N, wN_b h1 h2, wor_N h1 h2 h3⟩
theorem wN_law {P Z i : Nat} : wN P Z (i + 1) = (wN P Z i + P) * 10000 / (10000 + Z) + (if 2 * ((wN P Z i + P) * 10000 % (10000 + Z)) < 10000 + Z then 0 else 1) := by
  rw [wN]
  have e1 : (wN P Z i + P) * 20000 = 2 * ((wN P Z i + P) * 10000) := by omega
  rw [e1]
  generalize (wN P Z i + P) * 10000 = U
  have hd : 0 < 10000 + Z := by omega
  generalize 10000 + Z = D at hd
  have h1 := Nat.div_add_mod U D
  have h2 := Nat.mod_lt U hd
  generalize U / D = q at h1 ⊢
  generalize U % D = r at h1 h2 ⊢
  subst h1
  have e2 : 2 * (D * q + r) + D = 2 * D * q + (2 * r + D) := by rw [Nat.mul_add, Nat.mul_assoc]; omega
  rw [e2, Nat.mul_add_div (by omega)]
  congr 1
  split
  · exact Nat.div_eq_of_lt (by omega)
  · rw [Nat.div_eq_of_lt_le] <;> omega
theorem ush1 {X : Nat} (h : X < 2 ^ 31) : ushr32 (nI X) (nI 1) = nI (X / 2) := pk_ushrN (by omega) (nI 1) 1 (by decide)
/-- the law's choice below n -/
abbrev atN (X n : Nat) : Nat := X / 2 % n
theorem cgI {a b : Int32} (h : a = b) : some (Value.int a) = some (Value.int b) := by rw [h]
theorem sF_t2 {c : Nat → Bool} {f : Nat → Int32} {q : Nat} {x : Int32} (h : c q = true) (e : f q = x) : sF c f q + x = sF c f (q + 1) := by rw [← e]; exact sF_t h
section
variable {p : Program} {l : Launch} {e : Env} {R : Room} {s : State} {m : MethodId} {args : Array Value} {below : List Frame} {meth : Method} {c : Code} {nL : Nat} {g : GC} {cells slots : Nat} {Q : State → Prop} {V : Mem} {L : LMem} {pc : Nat} {lv : List (Option Value)} {st : List Value} {cc : ByteArray} {own : String} {ret : Option FieldType}
theorem j_topel {x y : Int64} (h : x = y) (k : J p l e R s m args below meth c nL g cells slots Q V L pc lv (.long y :: st)) : J p l e R s m args below meth c nL g cells slots Q V L pc lv (.long x :: st) := by rw [h]; exact k
/-- a choice: a where x is 0, b elsewhere -/
theorem j_tern (C : Cx p s args m meth c cc nL own ret g) {x a b : Int32} {off : Int} {tgt join : Nat} (hd : decode cc pc = .ok (.ifCond .ne off, 3)) (ht : (pc : Int) + off = (tgt : Int))
    (ka : J p l e R s m args below meth c nL g cells slots Q V L join lv (.int a :: st) → J p l e R s m args below meth c nL g cells slots Q V L (pc + 3) lv st)
    (kb : J p l e R s m args below meth c nL g cells slots Q V L join lv (.int b :: st) → J p l e R s m args below meth c nL g cells slots Q V L tgt lv st)
    (k : J p l e R s m args below meth c nL g cells slots Q V L join lv (.int (if x = 0 then a else b) :: st)) : J p l e R s m args below meth c nL g cells slots Q V L pc lv (.int x :: st) := by
  refine j_if_ne C hd ht (fun h => kb ?_) (fun h => ka ?_)
  · rw [if_neg h] at k; exact k
  · rw [if_pos (by first | exact h | exact Decidable.not_not.mp h)] at k; exact k
end
