/-! THE START: the cells that were born are the world of roles -/
abbrev V0 : Mem := fun _ _ => 0
abbrev L0 : LMem := fun _ => 0
theorem n_istore {p : Program} {l : Launch} {e : Env} {R : Room} {s : State} {m : MethodId} {args : Array Value} {below : List Frame} {meth : Method} {c : Code} {nL : Nat} {g : GC} {A : Nat → Prop} {cells slots : Nat} {Q : State → Prop} {ws : va_W} {pc : Nat} {lv : List (Option Value)} {st : List Value} {cc : ByteArray} {own : String} (C : Cn p s args m meth c cc nL own g) {i : Nat} {x : Int32} {lv' : List (Option Value)} (hd : decode cc pc = .ok (.istore i, 2)) (hn : i < nL) (hc : cOk lv i = true) (hs : lv.set i (some (.int x)) = lv') (k : JN p l e R s m args below meth c nL g A cells slots Q ws (pc + 2) lv' st) : JN p l e R s m args below meth c nL g A cells slots Q ws pc lv (.int x :: st) := fun H locs ls hP hD hS hl => lv_istore C.1 C.2.1 hd hl hn rfl (fun ls' h' => k H locs ls' hP hD hS (by rw [← hs]; exact lvO.put1 hc h'))
theorem LTb.mem {g : GC} {F : Nat → Nat} : ∀ i j, j < i → (F (3 + 1 * j), lE (F (11 + j))) ∈ LTb g F i ∧ (F (11 + j), zI g 17) ∈ LTb g F i
  | 0, j, h => absurd h (by omega)
  | i + 1, j, h => by
    rw [LTb]
    by_cases e : j = i
    · subst e
      exact ⟨List.mem_append_right _ List.mem_cons_self, List.mem_append_right _ (List.mem_cons_of_mem _ List.mem_cons_self)⟩
    · have ih := LTb.mem (g := g) (F := F) i j (by omega)
      exact ⟨List.mem_append_left _ ih.1, List.mem_append_left _ ih.2⟩
theorem LSb.mem {F : Nat → Nat} : ∀ i j, j < i → (F (19 + 1 * j), eX5) ∈ LSb F i
  | 0, j, h => absurd h (by omega)
  | i + 1, j, h => by
    rw [LSb]
    by_cases e : j = i
    · subst e; exact List.mem_append_right _ List.mem_cons_self
    · exact List.mem_append_left _ (LSb.mem i j (by omega))
theorem HT.mem {g : GC} {F : Nat → Nat} {x : Nat × va_E} : ∀ i j, j < i → x ∈ BX4 g (F (31 + 31 * j)) (fun r => F (31 + 31 * j + r)) → x ∈ HT g F i
  | 0, j, h, _ => absurd h (by omega)
  | i + 1, j, h, hx => by
    rw [HT]
    by_cases e : j = i
    · subst e; exact List.mem_append_right _ hx
    · exact List.mem_append_left _ (HT.mem i j (by omega) hx)
theorem P_mem {D : va_G} {cl : List vw_C} {ws : va_W} {H : Heap} (h : va_P D cl ws H) {x : Nat × va_E} (hx : x ∈ ws) : va_at D cl x H := by
  obtain ⟨k, hk⟩ := List.getElem?_of_mem hx
  exact h k x hk
theorem at_q {D : va_G} {cl : List vw_C} {a n : Nat} {cA : ClassId} {f f' : Nat → Option Nat} {H : Heap} (h : va_at D cl (a, qA cA n f) H) (e : ∀ j, j < n → f j = f' j) : va_at D cl (a, qA cA n f') H := by
  have h1 : H[a]? = some (arrV cA n (fun j => va_rf (f j))) := h
  show H[a]? = some (arrV cA n (fun j => va_rf (f' j)))
  rw [h1]
  congr 1
  unfold arrV
  congr 1
  congr 1
  funext j
  show va_rf (f j.val) = va_rf (f' j.val)
  rw [e j.val j.isLt]
/-- a State's cells at the roles from b on -/
theorem st_world {g : GC} {D : va_G} {cl : List vw_C} {H : Heap} {b : Nat} (hb : kd b = 0) {F : Nat → Nat} (hF : ∀ r, r < 31 → F r = ad g (b + r)) (h : ∀ x ∈ BX4 g (ad g b) F, va_at D cl x H) : ∀ r, r < 31 → va_at D cl (ad g (b + r), cellOf g V0 L0 (b + r)) H := by
  intro r hr
  have m0 : ∀ x, x ∈ S0 g (ad g b) 8 12 F → va_at D cl x H := fun x hx => h x (List.mem_append_left _ (List.mem_append_left _ hx))
  have mL : ∀ x, x ∈ LTb g F 8 → va_at D cl x H := fun x hx => h x (List.mem_append_left _ (List.mem_append_right _ hx))
  have mS : ∀ x, x ∈ LSb F 12 → va_at D cl x H := fun x hx => h x (List.mem_append_right _ hx)
  unfold cellOf
  rcases (show r = 0 ∨ r = 1 ∨ r = 2 ∨ (3 ≤ r ∧ r < 11) ∨ (11 ≤ r ∧ r < 19) ∨ 19 ≤ r by omega) with rfl | rfl | rfl | hq | hq | hq
  · have k0 : kd (b + 0) = 0 := hb
    rw [k0]
    have := m0 _ List.mem_cons_self
    unfold sO at this
    rw [hF 1 (by omega), hF 2 (by omega)] at this
    exact this
  · rw [kd_st1 hb]
    have := m0 _ (List.mem_cons_of_mem _ List.mem_cons_self)
    rw [hF 1 (by omega)] at this
    refine at_q this (fun j hj => ?_)
    unfold AR
    rw [if_pos hj, hF _ (by omega)]
    congr 2
    omega
  · rw [kd_st2 hb]
    have := m0 _ (List.mem_cons_of_mem _ (List.mem_cons_of_mem _ List.mem_cons_self))
    rw [hF 2 (by omega)] at this
    refine at_q this (fun j hj => ?_)
    unfold AR
    rw [if_pos hj, hF _ (by omega)]
    congr 2
    omega
  · obtain ⟨i, rfl⟩ : ∃ i, r = 3 + i := ⟨r - 3, by omega⟩
    have k3 : kd (b + (3 + i)) = 3 := by rw [← Nat.add_assoc]; exact kd_ls hb (by omega)
    rw [k3]
    have := mL _ (LTb.mem 8 i (by omega)).1
    rw [Nat.one_mul, hF _ (by omega), hF _ (by omega)] at this
    have e : b + (11 + i) = b + (3 + i) + 8 := by omega
    rw [e] at this
    exact this
  · obtain ⟨i, rfl⟩ : ∃ i, r = 11 + i := ⟨r - 11, by omega⟩
    have k3 : kd (b + (11 + i)) = 4 := by
      rw [show b + (11 + i) = b + 3 + i + 8 by omega]
      exact kd_sums (kd_ls hb (by omega))
    rw [k3]
    have := mL _ (LTb.mem 8 i (by omega)).2
    rw [hF _ (by omega)] at this
    exact this
  · obtain ⟨i, rfl⟩ : ∃ i, r = 19 + i := ⟨r - 19, by omega⟩
    have k3 : kd (b + (19 + i)) = 5 := by rw [← Nat.add_assoc]; exact kd_sb hb (by omega)
    rw [k3]
    have := mS _ (LSb.mem 12 i (by omega))
    rw [Nat.one_mul, hF _ (by omega)] at this
    exact this
theorem n_astore {p : Program} {l : Launch} {e : Env} {R : Room} {s : State} {m : MethodId} {args : Array Value} {below : List Frame} {meth : Method} {c : Code} {nL : Nat} {g : GC} {A : Nat → Prop} {cells slots : Nat} {Q : State → Prop} {ws : va_W} {pc : Nat} {lv : List (Option Value)} {st : List Value} {cc : ByteArray} {own : String} (C : Cn p s args m meth c cc nL own g) {i : Nat} {x : Nat} {lv' : List (Option Value)} (hd : decode cc pc = .ok (.astore i, 2)) (hn : i < nL) (hc : cOk lv i = true) (hs : lv.set i (some (.ref x)) = lv') (k : JN p l e R s m args below meth c nL g A cells slots Q ws (pc + 2) lv' st) : JN p l e R s m args below meth c nL g A cells slots Q ws pc lv (.ref x :: st) := fun H locs ls hP hD hS hl => lv_astore C.1 C.2.1 hd hl hn rfl (fun ls' h' => k H locs ls' hP hD hS (by rw [← hs]; exact lvO.put1 hc h'))
/-- all cells of the law, in the order of their birth -/
abbrev WSl (g : GC) (q6 : Nat) (F : Nat → Nat) (qc ql qu qv : Nat) : va_W := ((((([] ++ BX6 g q6 F)) ++ [(qc, zI g 35)]) ++ [(ql, zI g 24)]) ++ [(qu, zI g 48)]) ++ [(qv, zI g 24)]
/-- the roles' addresses -/
def adl (q6 : Nat) (F : Nat → Nat) (qc ql qu qv : Nat) (r : Nat) : Nat := if r < 223 then F r else if r = 223 then q6 else if r = 224 then qc else if r = 225 then ql else if r = 226 then qu else qv
theorem adl_F {q6 qc ql qu qv r : Nat} {F : Nat → Nat} (h : r < 223) : adl q6 F qc ql qu qv r = F r := if_pos h
theorem world_P {dC : Nat → ClassId} {dI : Nat → Nat → Nat} {cA : Nat → ClassId} {H0 H : Heap} {scr : Nat × Nat × (Nat → Int32)} {q6 qc ql qu qv : Nat} {F : Nat → Nat} (h : va_P (dC, dI) vwCl (WSl (dC, dI, adl q6 F qc ql qu qv, cA, H0, scr) q6 F qc ql qu qv) H) : va_P (dC, dI) vwCl (TW (dC, dI, adl q6 F qc ql qu qv, cA, H0, scr) V0 L0) H := by
  obtain ⟨g, hg⟩ : ∃ g : GC, g = (dC, dI, adl q6 F qc ql qu qv, cA, H0, scr) := ⟨_, rfl⟩
  rw [← hg] at h ⊢
  have hF : ∀ r, r < 223 → F r = ad g r := fun r hr => by rw [hg]; exact (adl_F hr).symm
  have e6 : q6 = ad g 223 := by rw [hg]; rfl
  have ec : qc = ad g 224 := by rw [hg]; rfl
  have el : ql = ad g 225 := by rw [hg]; rfl
  have eu : qu = ad g 226 := by rw [hg]; rfl
  have ev : qv = ad g 227 := by rw [hg]; rfl
  have m6 : ∀ x, x ∈ BX6 g q6 F → va_at (dC, dI) vwCl x H := fun x hx => P_mem h (List.mem_append_left _ (List.mem_append_left _ (List.mem_append_left _ (List.mem_append_left _ (List.mem_append_right _ hx)))))
  have mc := P_mem h (List.mem_append_left _ (List.mem_append_left _ (List.mem_append_left _ (List.mem_append_right _ List.mem_cons_self))))
  have ml := P_mem h (List.mem_append_left _ (List.mem_append_left _ (List.mem_append_right _ List.mem_cons_self)))
  have mu := P_mem h (List.mem_append_left _ (List.mem_append_right _ List.mem_cons_self))
  have mv := P_mem h (List.mem_append_right _ List.mem_cons_self)
  -- parts of the register
  have n3 : ∀ x, x ∈ BX3 g (F 221) (fun _ => F 222) → va_at (dC, dI) vwCl x H := fun x hx => m6 x (List.mem_append_right _ hx)
  have n1 : ∀ x, x ∈ BX1 g (F 219) (fun _ => F 220) → va_at (dC, dI) vwCl x H := fun x hx => m6 x (List.mem_append_left _ (List.mem_append_right _ hx))
  have n0 : ∀ x, x ∈ BX0 g (F 217) F → va_at (dC, dI) vwCl x H := fun x hx => m6 x (List.mem_append_left _ (List.mem_append_left _ (List.mem_append_right _ hx)))
  have n4 : ∀ x, x ∈ BX4 g (F 0) F → va_at (dC, dI) vwCl x H := fun x hx => m6 x (List.mem_append_left _ (List.mem_append_left _ (List.mem_append_left _ (List.mem_append_right _ hx))))
  have n6 := m6 _ (List.mem_append_left _ (List.mem_append_left _ (List.mem_append_left _ (List.mem_append_left _ List.mem_cons_self))))
  have stt : ∀ j, j < 7 → ∀ r, r < 31 → va_at (dC, dI) vwCl (ad g (31 * j + r), cellOf g V0 L0 (31 * j + r)) H := by
    intro j hj
    refine st_world (kdS7 j (by omega)) (F := fun r => F (31 * j + r)) (fun r hr => hF _ (by omega)) (fun x hx => ?_)
    rcases Nat.eq_zero_or_pos j with e | e
    · subst e
      have e0 : (fun r => F (31 * 0 + r)) = F := by funext r; rw [Nat.mul_zero, Nat.zero_add]
      rw [e0] at hx
      exact n4 x (by rw [hF 0 (by omega)]; exact hx)
    · obtain ⟨i, rfl⟩ : ∃ i, j = i + 1 := ⟨j - 1, by omega⟩
      refine n0 x (List.mem_append_right _ (HT.mem 6 i (by omega) ?_))
      have e1 : 31 + 31 * i = 31 * (i + 1) := by omega
      rw [e1, hF (31 * (i + 1)) (by omega)]
      exact hx
  intro k q hk
  obtain ⟨hk1, rfl⟩ := TW_k hk
  rcases Nat.lt_or_ge k 217 with c | c
  · have := stt (k / 31) (by omega) (k % 31) (by omega)
    rw [show 31 * (k / 31) + k % 31 = k by omega] at this
    exact this
  · rcases (show k = 217 ∨ k = 218 ∨ k = 219 ∨ k = 220 ∨ k = 221 ∨ k = 222 ∨ k = 223 ∨ k = 224 ∨ k = 225 ∨ k = 226 ∨ k = 227 by omega) with rfl | rfl | rfl | rfl | rfl | rfl | rfl | rfl | rfl | rfl | rfl
    · have := n0 _ (List.mem_append_left _ List.mem_cons_self)
      rw [hF 217 (by omega), hF 218 (by omega)] at this
      exact this
    · have := n0 _ (List.mem_append_left _ (List.mem_cons_of_mem _ List.mem_cons_self))
      rw [hF 218 (by omega)] at this
      refine at_q this (fun j hj => ?_)
      unfold AR
      rw [if_pos hj, hF _ (by omega)]
      congr 2
      omega
    · have := n1 _ List.mem_cons_self
      rw [hF 219 (by omega), hF 220 (by omega)] at this
      exact this
    · have := n1 _ (List.mem_cons_of_mem _ List.mem_cons_self)
      rw [hF 220 (by omega)] at this
      exact this
    · have := n3 _ List.mem_cons_self
      rw [hF 221 (by omega), hF 222 (by omega)] at this
      exact this
    · have := n3 _ (List.mem_cons_of_mem _ List.mem_cons_self)
      rw [hF 222 (by omega)] at this
      exact this
    · rw [e6, hF 0 (by omega), hF 217 (by omega), hF 219 (by omega), hF 221 (by omega)] at n6
      exact n6
    · rw [ec] at mc
      exact mc
    · rw [el] at ml
      exact ml
    · rw [eu] at mu
      exact mu
    · rw [ev] at mv
      exact mv
