/-! HISTORY: a state anywhere, seen as if it stood at role 0 -/
def sh (b : Nat) (S : Mem) : Mem := fun r => S (b + r)
theorem sh_0 {S : Mem} : sh 0 S = S := by funext r; unfold sh; rw [Nat.zero_add]
theorem Rl.live {nl ns : Nat} {C C' Z : Mem} (h : Rl nl ns C Z) (el : ∀ k, k < nl → (∀ f, f < 5 → C' (3 + k) f = C (3 + k) f) ∧ ∀ m, m < 17 → C' (3 + k + 8) m = C (3 + k + 8) m) (es : ∀ q, q < ns → ∀ f, f < 6 → C' (19 + q) f = C (19 + q) f) : Rl nl ns C' Z :=
  ⟨fun k hk => ⟨fun f hf => by rw [(el k hk).1 f hf]; exact h.f hk hf, fun m hm => by rw [(el k hk).2 m hm]; exact h.m hk hm⟩, fun q hq f hf => by rw [es q hq f hf]; exact h.s hq hf⟩
theorem VI.live {nl ns : Nat} {C C' : Mem} (h : VI nl ns C) (e2 : C' 0 2 = C 0 2) (e3 : C' 0 3 = C 0 3) (el : ∀ k, k < nl → ∀ f, f < 5 → C' (3 + k) f = C (3 + k) f) (es : ∀ q, q < ns → ∀ f, f < 6 → C' (19 + q) f = C (19 + q) f) : VI nl ns C' := by
  obtain ⟨⟨a1, a2, a3, a4, a5, a6⟩, b, c, d⟩ := h
  refine ⟨⟨⟨by rw [e2]; exact a1.1, a1.2⟩, ⟨by rw [e3]; exact a2.1, a2.2⟩, fun j hj => by rw [el j hj 1 (by omega)]; exact a3 j hj, fun j hj => by rw [el j hj 2 (by omega)]; exact a4 j hj, fun q hq => by rw [es q hq 0 (by omega)]; exact a5 q hq, fun q hq => by rw [es q hq 4 (by omega)]; exact a6 q hq⟩, fun j hj => by rw [el j hj 0 (by omega), el j hj 1 (by omega), el j hj 2 (by omega), el j hj 3 (by omega)]; exact b j hj, fun q hq => by rw [es q hq 2 (by omega), es q hq 3 (by omega), es q hq 4 (by omega), es q hq 5 (by omega)]; exact c q hq, fun q hq j hj => by rw [es q hq 0 (by omega), es q hq 3 (by omega), el j hj 1 (by omega)]; exact d q hq j hj⟩
theorem cpy_sh {b b2 nl ns : Nat} {V : Mem} (hb : b % 31 = 0) (hb2 : b2 % 31 = 0) (hne : b ≠ b2) (h8 : nl ≤ 8) (h12 : ns ≤ 12) : (∀ f, 2 ≤ f → f < 5 → sh b (cpySt b b2 nl ns V) 0 f = sh b2 V 0 f) ∧ (∀ k, k < nl → (∀ f, f < 5 → sh b (cpySt b b2 nl ns V) (3 + k) f = sh b2 V (3 + k) f) ∧ ∀ m, m < 17 → sh b (cpySt b b2 nl ns V) (3 + k + 8) m = sh b2 V (3 + k + 8) m) ∧ ∀ q, q < ns → ∀ f, f < 6 → sh b (cpySt b b2 nl ns V) (19 + q) f = sh b2 V (19 + q) f := by
  have c := cpySt_f (V := V) hb hb2 hne h8 h12
  have a1 : ∀ x k, x + (3 + k) = x + 3 + k := fun x k => by omega
  have a2 : ∀ x k, x + (3 + k + 8) = x + 3 + k + 8 := fun x k => by omega
  have a3 : ∀ x k, x + (19 + k) = x + 19 + k := fun x k => by omega
  unfold sh
  exact ⟨fun f h1 h2 => c.1 f h1 h2, fun k hk => ⟨fun f hf => by rw [a1, a1]; exact (c.2.1 k hk).1 f hf, fun m hm => by rw [a2, a2]; exact (c.2.1 k hk).2 m hm⟩, fun q hq f hf => by rw [a3, a3]; exact c.2.2 q hq f hf⟩
/-- the state at role b is the row f -/
def RSv (nl ns : Nat) (S : Mem) (b : Nat) (f : Nat → Int32) : Prop := Rl nl ns (sh b S) (fun _ => f) ∧ VI nl ns (sh b S) ∧ f 0 = nI nl ∧ f 1 = nI ns ∧ f 2 = S b 4
theorem RSv.cpy {b b2 nl ns : Nat} {V : Mem} {f : Nat → Int32} (h : RSv nl ns V b2 f) (hb : b % 31 = 0) (hb2 : b2 % 31 = 0) (hne : b ≠ b2) : RSv nl ns (cpySt b b2 nl ns V) b f := by
  have h8 := h.2.1.1.1.2
  have h12 := h.2.1.1.2.1.2
  have c := cpy_sh (V := V) hb hb2 hne h8 h12
  refine ⟨h.1.live c.2.1 c.2.2, h.2.1.live (c.1 2 (by omega) (by omega)) (c.1 3 (by omega) (by omega)) (fun k hk => (c.2.1 k hk).1) c.2.2, h.2.2.1, h.2.2.2.1, ?_⟩
  rw [h.2.2.2.2]
  exact (c.1 4 (by omega) (by omega)).symm
theorem RSv.row {nl ns b : Nat} {S S' : Mem} {f f' : Nat → Int32} (h : RSv nl ns S b f) (e : ∀ r, b ≤ r → r < b + 31 → S' r = S r) (ef : ∀ i, i < 251 → f' i = f i) : RSv nl ns S' b f' := by
  have h8 := h.2.1.1.1.2
  have h12 := h.2.1.1.2.1.2
  have es : ∀ r, r < 31 → sh b S' r = sh b S r := fun r hr => e _ (by omega) (by omega)
  refine ⟨⟨fun k hk => ⟨fun j hj => ?_, fun j hj => ?_⟩, fun q hq j hj => ?_⟩, h.2.1.rows es, by rw [ef 0 (by omega)]; exact h.2.2.1, by rw [ef 1 (by omega)]; exact h.2.2.2.1, by rw [ef 2 (by omega), e b (by omega) (by omega)]; exact h.2.2.2.2⟩
  · show f' _ = _
    rw [ef _ (by omega), es _ (by omega)]; exact h.1.f hk hj
  · show f' _ = _
    rw [ef _ (by omega), es _ (by omega)]; exact h.1.m hk hj
  · show f' _ = _
    rw [ef _ (by omega), es _ (by omega)]; exact h.1.s hq hj
