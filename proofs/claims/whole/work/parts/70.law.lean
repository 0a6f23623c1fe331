/-! THE LAW'S CASES (laid by wip/whole/p70.py) -/
section LAWR
variable {p : Program} {l : Launch} {e : Env} {R : Room} {s : State} {m : MethodId} {args : Array Value} {below : List Frame} {meth : Method} {c : Code} {nL : Nat} {g : GC} {cells slots : Nat} {Q : State → Prop} {V : Mem} {L : LMem} {pc : Nat} {lv : List (Option Value)} {st : List Value} {cc : ByteArray} {own : String} {ret : Option FieldType}
/-- the law's script: N ints xs at b0 -/
def SX (s : State) (g : GC) (b0 N : Nat) (xs : Nat → Int32) : Prop := va_X b0 N xs s s.heap ∧ b0 < s.heap.size ∧ gH g = s.heap ∧ N < 2 ^ 31
theorem j_sld (C : Cx p s args m meth c cc nL own ret g) {b0 N : Nat} {xs : Nat → Int32} (X : SX s g b0 N xs) {i : Nat} (hi : i < N) (hd : decode cc pc = .ok (.iaload, 1)) (k : J p l e R s m args below meth c nL g cells slots Q V L (pc + 1) lv (.int (xs i) :: st)) : J p l e R s m args below meth c nL g cells slots Q V L pc lv (.int (nI i) :: .ref b0 :: st) := by
  intro H locs ls hw hl
  refine va_sld C.1 C.2.1 X.1 X.2.1 (A := AA g) (by unfold AA; rw [X.2.2.1]; exact Nat.not_le.mpr X.2.1) hw.2 (vp_in_nI hi X.2.2.2) hd ?_
  rw [nI_clamp (Nat.lt_trans hi X.2.2.2)]
  exact k H locs ls hw hl
theorem j_slen (C : Cx p s args m meth c cc nL own ret g) {b0 N : Nat} {xs : Nat → Int32} (X : SX s g b0 N xs) (hd : decode cc pc = .ok (.arraylength, 1)) (k : J p l e R s m args below meth c nL g cells slots Q V L (pc + 1) lv (.int (nI N) :: st)) : J p l e R s m args below meth c nL g cells slots Q V L pc lv (.ref b0 :: st) := fun H locs ls hw hl =>
  va_slen C.1 C.2.1 X.1 X.2.1 (A := AA g) (by unfold AA; rw [X.2.2.1]; exact Nat.not_le.mpr X.2.1) hw.2 hd (k H locs ls hw hl)
theorem J.widen {k' n' : Nat} (h1 : cells ≤ k') (h2 : slots ≤ n') (k : J p l e R s m args below meth c nL g k' n' Q V L pc lv st) : J p l e R s m args below meth c nL g cells slots Q V L pc lv st := fun H locs ls hw hl => W.widen (k := k') (n := n') h1 h2 (k H locs ls hw hl)
theorem lcmp_0 {x y : Int64} (h : x = y) : lg_cmp x y = 0 := by subst h; unfold lg_cmp; simp
end LAWR
section LAWB
variable {p : Program} {l : Launch} {e : Env} {s : State} {m : MethodId} {args : Array Value} {below : List Frame} {meth : Method} {c : Code} {g : GC} {Q : State → Prop} {V V1 V2 : Mem} {L L1 L2 : LMem} {b0 N i cells slots mc ms : Nat} {xs : Nat → Int32}
abbrev LVL (g : GC) (b0 i : Nat) : List (Option Value) := [some (.ref b0), some (.ref (ad g 223)), some (.ref (ad g 224)), some (.ref (ad g 230)), some (.int (nI i)), none, none, none, none]
theorem lvl_le {g : GC} {b0 i : Nat} {x y : Value} : ∀ (j : Nat) (v : Value), (LVL g b0 i)[j]? = some (some v) → ([some (.ref b0), some (.ref (ad g 223)), some (.ref (ad g 224)), some (.ref (ad g 230)), some (.int (nI i)), some x, some y, none, none] : List (Option Value))[j]? = some (some v)
  | 0, v, h => h
  | 1, v, h => h
  | 2, v, h => h
  | 3, v, h => h
  | 4, v, h => h
  | 5, v, h => by cases h
  | 6, v, h => by cases h
  | 7, v, h => by cases h
  | 8, v, h => by cases h
  | j + 9, v, h => by cases h
theorem lvd_le {g : GC} {b0 i : Nat} {x y : Value} : ∀ (j : Nat) (v : Value), (LVL g b0 i)[j]? = some (some v) → ([some (.ref b0), some (.ref (ad g 223)), some (.ref (ad g 224)), some (.ref (ad g 230)), some (.int (nI i)), some x, none, some y, none] : List (Option Value))[j]? = some (some v)
  | 0, v, h => h
  | 1, v, h => h
  | 2, v, h => h
  | 3, v, h => h
  | 4, v, h => h
  | 5, v, h => by cases h
  | 6, v, h => by cases h
  | 7, v, h => by cases h
  | 8, v, h => by cases h
  | j + 9, v, h => by cases h
set_option maxHeartbeats 4000000 in
theorem blk_open (C : Cx p s args m meth c cL_law 9 RL (some .boolean) g) (X : SX s g b0 N xs) {k : Nat} {b : Int32} (hi : i + 4 < N) (hW : WM l yL_open cL_open 7 (some .int) [(0, 14, 17, 13), (0, 14, 21, 15)] 9 mc ms g V L [.ref (ad g 223), .int (xs (i + 1)), .int (xs (i + 2)), .int (xs (i + 3)), .int (xs (i + 4)), .ref (ad g 230)] (some (.int (nI k))) V1 L1) (hM : MC l yX7_open cX7_open 5 (some .int) 6 g V1 L1 [.ref (ad g 224), .int (xs (i + 1)), .int (xs (i + 2)), .int (xs (i + 3)), .int (xs (i + 4))] (some (.int b)) V2 L2) (ht : V2 224 6 = nI k) (hk : k < 4) (hb : k = 0 → L2 1 = b.toInt64) (hc : cells + mc ≤ 601024) (hs : slots + ms ≤ 7293033) (kx : J p l e room_1 s m args below meth c 9 g (cells + mc) (slots + ms) Q V2 L2 1713 (LVL g b0 i) []) : J p l e room_1 s m args below meth c 9 g cells slots Q V L 156 (LVL g b0 i) [] := by
  refine j_aload_n C dL_law_156 rfl rfl ?_
  refine j_aload_n C dL_law_157 rfl rfl ?_
  refine j_iload C dL_law_158 rfl ?_
  refine j_iconst (v := nI 1) C dL_law_160 (by decide) ?_
  refine j_iaddN C dL_law_161 ?_
  refine j_sld C X (by omega) dL_law_162 ?_
  refine j_aload_n C dL_law_163 rfl rfl ?_
  refine j_iload C dL_law_164 rfl ?_
  refine j_iconst (v := nI 2) C dL_law_166 (by decide) ?_
  refine j_iaddN C dL_law_167 ?_
  refine j_sld C X (by omega) dL_law_168 ?_
  refine j_aload_n C dL_law_169 rfl rfl ?_
  refine j_iload C dL_law_170 rfl ?_
  refine j_iconst (v := nI 3) C dL_law_172 (by decide) ?_
  refine j_iaddN C dL_law_173 ?_
  refine j_sld C X (by omega) dL_law_174 ?_
  refine j_aload_n C dL_law_175 rfl rfl ?_
  refine j_iload C dL_law_176 rfl ?_
  refine j_iconst (v := nI 4) C dL_law_178 (by decide) ?_
  refine j_iaddN C dL_law_179 ?_
  refine j_sld C X (by omega) dL_law_180 ?_
  refine j_aload_n C dL_law_181 rfl rfl ?_
  refine j_callW C hW qm_L_88 qt_L_open qn_L qc_L_open fit_L_open ⟨Nat.le_of_ble_eq_true rfl, Nat.le_of_ble_eq_true rfl, hc, hs⟩ (Nat.le_of_ble_eq_true rfl) dL_law_182 rfl ?_
  refine j_ist5 C dL_law_185 (by decide) rfl ?_
  refine j_aload_n C dL_law_187 rfl rfl ?_
  refine j_aload_n C dL_law_188 rfl rfl ?_
  refine j_iload C dL_law_189 rfl ?_
  refine j_iconst (v := nI 1) C dL_law_191 (by decide) ?_
  refine j_iaddN C dL_law_192 ?_
  refine j_sld C X (by omega) dL_law_193 ?_
  refine j_aload_n C dL_law_194 rfl rfl ?_
  refine j_iload C dL_law_195 rfl ?_
  refine j_iconst (v := nI 2) C dL_law_197 (by decide) ?_
  refine j_iaddN C dL_law_198 ?_
  refine j_sld C X (by omega) dL_law_199 ?_
  refine j_aload_n C dL_law_200 rfl rfl ?_
  refine j_iload C dL_law_201 rfl ?_
  refine j_iconst (v := nI 3) C dL_law_203 (by decide) ?_
  refine j_iaddN C dL_law_204 ?_
  refine j_sld C X (by omega) dL_law_205 ?_
  refine j_aload_n C dL_law_206 rfl rfl ?_
  refine j_iload C dL_law_207 rfl ?_
  refine j_iconst (v := nI 4) C dL_law_209 (by decide) ?_
  refine j_iaddN C dL_law_210 ?_
  refine j_sld C X (by omega) dL_law_211 ?_
  refine j_callV4r C (oa_X7 rfl) rfl rfl hM qm_L_93 qi_X7_open qs_X7_open qn_X7 qc_X7_open fit_X7_open ⟨Nat.le_of_ble_eq_true rfl, Nat.le_of_ble_eq_true rfl, hc, hs⟩ (Nat.le_of_ble_eq_true rfl) dL_law_212 ?_
  refine j_ist6 C dL_law_215 (by decide) rfl ?_
  refine j_aload_n C dL_law_217 rfl rfl ?_
  refine j_callV0r C (oa_X7 rfl) rfl rfl (c_X7_thrown) qm_L_94 qi_X7_thrown qs_X7_thrown qn_X7 qc_X7_thrown fit_X7_thrown ⟨Nat.le_of_ble_eq_true rfl, Nat.le_of_ble_eq_true rfl, hc, hs⟩ (Nat.le_of_ble_eq_true rfl) dL_law_218 ?_
  refine j_iload C dL_law_221 rfl ?_
  refine j_icmp_eq (tgt := 228) C dL_law_223 (by decide) (fun _ => ?_) (fun z => absurd ht z)
  refine j_iload C dL_law_228 rfl ?_
  have out : J p l e room_1 s m args below meth c 9 g (cells + mc) (slots + ms) Q V2 L2 245 [some (.ref b0), some (.ref (ad g 223)), some (.ref (ad g 224)), some (.ref (ad g 230)), some (.int (nI i)), some (.int (nI k)), some (.int b), none, none] [] := by
    refine j_goto (tgt := 1713) C dL_law_245 (by decide) ?_
    exact j_le lvl_le kx
  refine j_if_ne (tgt := 245) C dL_law_230 (by decide) (fun _ => out) (fun z => ?_)
  have hk0 : k = 0 := (nI_eq (show k < 2 ^ 31 by omega) (show 0 < 2 ^ 31 by omega)).mp z
  refine j_aload_n C dL_law_233 rfl rfl ?_
  refine j_iconst (v := 0) C dL_law_234 (by decide) ?_
  refine j_lald C rfl dL_law_235 ?_
  refine j_iload C dL_law_236 rfl ?_
  refine j_i2l C dL_law_238 ?_
  refine j_lcmp C dL_law_239 ?_
  exact j_if_eq (tgt := 245) C dL_law_240 (by decide) (fun _ => out) (fun z => absurd (lcmp_0 (hb hk0)) z)
set_option maxHeartbeats 4000000 in
theorem blk_term (C : Cx p s args m meth c cL_law 9 RL (some .boolean) g) (X : SX s g b0 N xs) {k : Nat} {b : Int32} (hi : i + 3 < N) (hW : WM l yL_term cL_term 6 (some .int) [(0, 12, 15, 21), (0, 12, 19, 13), (0, 12, 23, 15)] 9 mc ms g V L [.ref (ad g 223), .int (xs (i + 1)), .int (xs (i + 2)), .int (xs (i + 3)), .ref (ad g 230)] (some (.int (nI k))) V1 L1) (hM : MC l yX7_term cX7_term 4 (some .int) 6 g V1 L1 [.ref (ad g 224), .int (xs (i + 1)), .int (xs (i + 2)), .int (xs (i + 3))] (some (.int b)) V2 L2) (ht : V2 224 6 = nI k) (hk : k < 4) (hb : k = 0 → L2 1 = b.toInt64) (hc : cells + mc ≤ 601024) (hs : slots + ms ≤ 7293033) (kx : J p l e room_1 s m args below meth c 9 g (cells + mc) (slots + ms) Q V2 L2 1713 (LVL g b0 i) []) : J p l e room_1 s m args below meth c 9 g cells slots Q V L 248 (LVL g b0 i) [] := by
  refine j_aload_n C dL_law_248 rfl rfl ?_
  refine j_aload_n C dL_law_249 rfl rfl ?_
  refine j_iload C dL_law_250 rfl ?_
  refine j_iconst (v := nI 1) C dL_law_252 (by decide) ?_
  refine j_iaddN C dL_law_253 ?_
  refine j_sld C X (by omega) dL_law_254 ?_
  refine j_aload_n C dL_law_255 rfl rfl ?_
  refine j_iload C dL_law_256 rfl ?_
  refine j_iconst (v := nI 2) C dL_law_258 (by decide) ?_
  refine j_iaddN C dL_law_259 ?_
  refine j_sld C X (by omega) dL_law_260 ?_
  refine j_aload_n C dL_law_261 rfl rfl ?_
  refine j_iload C dL_law_262 rfl ?_
  refine j_iconst (v := nI 3) C dL_law_264 (by decide) ?_
  refine j_iaddN C dL_law_265 ?_
  refine j_sld C X (by omega) dL_law_266 ?_
  refine j_aload_n C dL_law_267 rfl rfl ?_
  refine j_callW C hW qm_L_97 qt_L_term qn_L qc_L_term fit_L_term ⟨Nat.le_of_ble_eq_true rfl, Nat.le_of_ble_eq_true rfl, hc, hs⟩ (Nat.le_of_ble_eq_true rfl) dL_law_268 rfl ?_
  refine j_ist5 C dL_law_271 (by decide) rfl ?_
  refine j_aload_n C dL_law_273 rfl rfl ?_
  refine j_aload_n C dL_law_274 rfl rfl ?_
  refine j_iload C dL_law_275 rfl ?_
  refine j_iconst (v := nI 1) C dL_law_277 (by decide) ?_
  refine j_iaddN C dL_law_278 ?_
  refine j_sld C X (by omega) dL_law_279 ?_
  refine j_aload_n C dL_law_280 rfl rfl ?_
  refine j_iload C dL_law_281 rfl ?_
  refine j_iconst (v := nI 2) C dL_law_283 (by decide) ?_
  refine j_iaddN C dL_law_284 ?_
  refine j_sld C X (by omega) dL_law_285 ?_
  refine j_aload_n C dL_law_286 rfl rfl ?_
  refine j_iload C dL_law_287 rfl ?_
  refine j_iconst (v := nI 3) C dL_law_289 (by decide) ?_
  refine j_iaddN C dL_law_290 ?_
  refine j_sld C X (by omega) dL_law_291 ?_
  refine j_callV3r C (oa_X7 rfl) rfl rfl hM qm_L_100 qi_X7_term qs_X7_term qn_X7 qc_X7_term fit_X7_term ⟨Nat.le_of_ble_eq_true rfl, Nat.le_of_ble_eq_true rfl, hc, hs⟩ (Nat.le_of_ble_eq_true rfl) dL_law_292 ?_
  refine j_ist6 C dL_law_295 (by decide) rfl ?_
  refine j_aload_n C dL_law_297 rfl rfl ?_
  refine j_callV0r C (oa_X7 rfl) rfl rfl (c_X7_thrown) qm_L_94 qi_X7_thrown qs_X7_thrown qn_X7 qc_X7_thrown fit_X7_thrown ⟨Nat.le_of_ble_eq_true rfl, Nat.le_of_ble_eq_true rfl, hc, hs⟩ (Nat.le_of_ble_eq_true rfl) dL_law_298 ?_
  refine j_iload C dL_law_301 rfl ?_
  refine j_icmp_eq (tgt := 308) C dL_law_303 (by decide) (fun _ => ?_) (fun z => absurd ht z)
  refine j_iload C dL_law_308 rfl ?_
  have out : J p l e room_1 s m args below meth c 9 g (cells + mc) (slots + ms) Q V2 L2 325 [some (.ref b0), some (.ref (ad g 223)), some (.ref (ad g 224)), some (.ref (ad g 230)), some (.int (nI i)), some (.int (nI k)), some (.int b), none, none] [] := by
    refine j_goto (tgt := 1713) C dL_law_325 (by decide) ?_
    exact j_le lvl_le kx
  refine j_if_ne (tgt := 325) C dL_law_310 (by decide) (fun _ => out) (fun z => ?_)
  have hk0 : k = 0 := (nI_eq (show k < 2 ^ 31 by omega) (show 0 < 2 ^ 31 by omega)).mp z
  refine j_aload_n C dL_law_313 rfl rfl ?_
  refine j_iconst (v := 0) C dL_law_314 (by decide) ?_
  refine j_lald C rfl dL_law_315 ?_
  refine j_iload C dL_law_316 rfl ?_
  refine j_i2l C dL_law_318 ?_
  refine j_lcmp C dL_law_319 ?_
  exact j_if_eq (tgt := 325) C dL_law_320 (by decide) (fun _ => out) (fun z => absurd (lcmp_0 (hb hk0)) z)
set_option maxHeartbeats 4000000 in
theorem blk_rent (C : Cx p s args m meth c cL_law 9 RL (some .boolean) g) (X : SX s g b0 N xs) {k : Nat} {b : Int32} (hi : i + 2 < N) (hW : WM l yL_rent cL_rent 5 (some .int) [(0, 10, 13, 21), (0, 10, 17, 13), (0, 10, 21, 15)] 9 mc ms g V L [.ref (ad g 223), .int (xs (i + 1)), .int (xs (i + 2)), .ref (ad g 230)] (some (.int (nI k))) V1 L1) (hM : MC l yX7_rent cX7_rent 3 (some .int) 6 g V1 L1 [.ref (ad g 224), .int (xs (i + 1)), .int (xs (i + 2))] (some (.int b)) V2 L2) (ht : V2 224 6 = nI k) (hk : k < 4) (hb : k = 0 → L2 1 = b.toInt64) (hc : cells + mc ≤ 601024) (hs : slots + ms ≤ 7293033) (kx : J p l e room_1 s m args below meth c 9 g (cells + mc) (slots + ms) Q V2 L2 1713 (LVL g b0 i) []) : J p l e room_1 s m args below meth c 9 g cells slots Q V L 328 (LVL g b0 i) [] := by
  refine j_aload_n C dL_law_328 rfl rfl ?_
  refine j_aload_n C dL_law_329 rfl rfl ?_
  refine j_iload C dL_law_330 rfl ?_
  refine j_iconst (v := nI 1) C dL_law_332 (by decide) ?_
  refine j_iaddN C dL_law_333 ?_
  refine j_sld C X (by omega) dL_law_334 ?_
  refine j_aload_n C dL_law_335 rfl rfl ?_
  refine j_iload C dL_law_336 rfl ?_
  refine j_iconst (v := nI 2) C dL_law_338 (by decide) ?_
  refine j_iaddN C dL_law_339 ?_
  refine j_sld C X (by omega) dL_law_340 ?_
  refine j_aload_n C dL_law_341 rfl rfl ?_
  refine j_callW C hW qm_L_101 qt_L_rent qn_L qc_L_rent fit_L_rent ⟨Nat.le_of_ble_eq_true rfl, Nat.le_of_ble_eq_true rfl, hc, hs⟩ (Nat.le_of_ble_eq_true rfl) dL_law_342 rfl ?_
  refine j_ist5 C dL_law_345 (by decide) rfl ?_
  refine j_aload_n C dL_law_347 rfl rfl ?_
  refine j_aload_n C dL_law_348 rfl rfl ?_
  refine j_iload C dL_law_349 rfl ?_
  refine j_iconst (v := nI 1) C dL_law_351 (by decide) ?_
  refine j_iaddN C dL_law_352 ?_
  refine j_sld C X (by omega) dL_law_353 ?_
  refine j_aload_n C dL_law_354 rfl rfl ?_
  refine j_iload C dL_law_355 rfl ?_
  refine j_iconst (v := nI 2) C dL_law_357 (by decide) ?_
  refine j_iaddN C dL_law_358 ?_
  refine j_sld C X (by omega) dL_law_359 ?_
  refine j_callV2r C (oa_X7 rfl) rfl rfl hM qm_L_104 qi_X7_rent qs_X7_rent qn_X7 qc_X7_rent fit_X7_rent ⟨Nat.le_of_ble_eq_true rfl, Nat.le_of_ble_eq_true rfl, hc, hs⟩ (Nat.le_of_ble_eq_true rfl) dL_law_360 ?_
  refine j_ist6 C dL_law_363 (by decide) rfl ?_
  refine j_aload_n C dL_law_365 rfl rfl ?_
  refine j_callV0r C (oa_X7 rfl) rfl rfl (c_X7_thrown) qm_L_94 qi_X7_thrown qs_X7_thrown qn_X7 qc_X7_thrown fit_X7_thrown ⟨Nat.le_of_ble_eq_true rfl, Nat.le_of_ble_eq_true rfl, hc, hs⟩ (Nat.le_of_ble_eq_true rfl) dL_law_366 ?_
  refine j_iload C dL_law_369 rfl ?_
  refine j_icmp_eq (tgt := 376) C dL_law_371 (by decide) (fun _ => ?_) (fun z => absurd ht z)
  refine j_iload C dL_law_376 rfl ?_
  have out : J p l e room_1 s m args below meth c 9 g (cells + mc) (slots + ms) Q V2 L2 393 [some (.ref b0), some (.ref (ad g 223)), some (.ref (ad g 224)), some (.ref (ad g 230)), some (.int (nI i)), some (.int (nI k)), some (.int b), none, none] [] := by
    refine j_goto (tgt := 1713) C dL_law_393 (by decide) ?_
    exact j_le lvl_le kx
  refine j_if_ne (tgt := 393) C dL_law_378 (by decide) (fun _ => out) (fun z => ?_)
  have hk0 : k = 0 := (nI_eq (show k < 2 ^ 31 by omega) (show 0 < 2 ^ 31 by omega)).mp z
  refine j_aload_n C dL_law_381 rfl rfl ?_
  refine j_iconst (v := 0) C dL_law_382 (by decide) ?_
  refine j_lald C rfl dL_law_383 ?_
  refine j_iload C dL_law_384 rfl ?_
  refine j_i2l C dL_law_386 ?_
  refine j_lcmp C dL_law_387 ?_
  exact j_if_eq (tgt := 393) C dL_law_388 (by decide) (fun _ => out) (fun z => absurd (lcmp_0 (hb hk0)) z)
set_option maxHeartbeats 4000000 in
theorem blk_endPart (C : Cx p s args m meth c cL_law 9 RL (some .boolean) g) (X : SX s g b0 N xs) {k : Nat} {b : Int32} (hi : i + 3 < N) (hW : WM l yL_endPart cL_endPart 6 (some .int) [(0, 12, 15, 21), (0, 12, 19, 13), (0, 12, 23, 15)] 9 mc ms g V L [.ref (ad g 223), .int (xs (i + 1)), .int (xs (i + 2)), .int (xs (i + 3)), .ref (ad g 230)] (some (.int (nI k))) V1 L1) (hM : MC l yX7_endPart cX7_endPart 8 (some .int) 6 g V1 L1 [.ref (ad g 224), .int (xs (i + 1)), .int (xs (i + 2)), .int (xs (i + 3))] (some (.int b)) V2 L2) (ht : V2 224 6 = nI k) (hk : k < 4) (hb : k = 0 → L2 1 = b.toInt64) (hc : cells + mc ≤ 601024) (hs : slots + ms ≤ 7293033) (kx : J p l e room_1 s m args below meth c 9 g (cells + mc) (slots + ms) Q V2 L2 1713 (LVL g b0 i) []) : J p l e room_1 s m args below meth c 9 g cells slots Q V L 396 (LVL g b0 i) [] := by
  refine j_aload_n C dL_law_396 rfl rfl ?_
  refine j_aload_n C dL_law_397 rfl rfl ?_
  refine j_iload C dL_law_398 rfl ?_
  refine j_iconst (v := nI 1) C dL_law_400 (by decide) ?_
  refine j_iaddN C dL_law_401 ?_
  refine j_sld C X (by omega) dL_law_402 ?_
  refine j_aload_n C dL_law_403 rfl rfl ?_
  refine j_iload C dL_law_404 rfl ?_
  refine j_iconst (v := nI 2) C dL_law_406 (by decide) ?_
  refine j_iaddN C dL_law_407 ?_
  refine j_sld C X (by omega) dL_law_408 ?_
  refine j_aload_n C dL_law_409 rfl rfl ?_
  refine j_iload C dL_law_410 rfl ?_
  refine j_iconst (v := nI 3) C dL_law_412 (by decide) ?_
  refine j_iaddN C dL_law_413 ?_
  refine j_sld C X (by omega) dL_law_414 ?_
  refine j_aload_n C dL_law_415 rfl rfl ?_
  refine j_callW C hW qm_L_105 qt_L_endPart qn_L qc_L_endPart fit_L_endPart ⟨Nat.le_of_ble_eq_true rfl, Nat.le_of_ble_eq_true rfl, hc, hs⟩ (Nat.le_of_ble_eq_true rfl) dL_law_416 rfl ?_
  refine j_ist5 C dL_law_419 (by decide) rfl ?_
  refine j_aload_n C dL_law_421 rfl rfl ?_
  refine j_aload_n C dL_law_422 rfl rfl ?_
  refine j_iload C dL_law_423 rfl ?_
  refine j_iconst (v := nI 1) C dL_law_425 (by decide) ?_
  refine j_iaddN C dL_law_426 ?_
  refine j_sld C X (by omega) dL_law_427 ?_
  refine j_aload_n C dL_law_428 rfl rfl ?_
  refine j_iload C dL_law_429 rfl ?_
  refine j_iconst (v := nI 2) C dL_law_431 (by decide) ?_
  refine j_iaddN C dL_law_432 ?_
  refine j_sld C X (by omega) dL_law_433 ?_
  refine j_aload_n C dL_law_434 rfl rfl ?_
  refine j_iload C dL_law_435 rfl ?_
  refine j_iconst (v := nI 3) C dL_law_437 (by decide) ?_
  refine j_iaddN C dL_law_438 ?_
  refine j_sld C X (by omega) dL_law_439 ?_
  refine j_callV3r C (oa_X7 rfl) rfl rfl hM qm_L_107 qi_X7_endPart qs_X7_endPart qn_X7 qc_X7_endPart fit_X7_endPart ⟨Nat.le_of_ble_eq_true rfl, Nat.le_of_ble_eq_true rfl, hc, hs⟩ (Nat.le_of_ble_eq_true rfl) dL_law_440 ?_
  refine j_ist6 C dL_law_443 (by decide) rfl ?_
  refine j_aload_n C dL_law_445 rfl rfl ?_
  refine j_callV0r C (oa_X7 rfl) rfl rfl (c_X7_thrown) qm_L_94 qi_X7_thrown qs_X7_thrown qn_X7 qc_X7_thrown fit_X7_thrown ⟨Nat.le_of_ble_eq_true rfl, Nat.le_of_ble_eq_true rfl, hc, hs⟩ (Nat.le_of_ble_eq_true rfl) dL_law_446 ?_
  refine j_iload C dL_law_449 rfl ?_
  refine j_icmp_eq (tgt := 456) C dL_law_451 (by decide) (fun _ => ?_) (fun z => absurd ht z)
  refine j_iload C dL_law_456 rfl ?_
  have out : J p l e room_1 s m args below meth c 9 g (cells + mc) (slots + ms) Q V2 L2 473 [some (.ref b0), some (.ref (ad g 223)), some (.ref (ad g 224)), some (.ref (ad g 230)), some (.int (nI i)), some (.int (nI k)), some (.int b), none, none] [] := by
    refine j_goto (tgt := 1713) C dL_law_473 (by decide) ?_
    exact j_le lvl_le kx
  refine j_if_ne (tgt := 473) C dL_law_458 (by decide) (fun _ => out) (fun z => ?_)
  have hk0 : k = 0 := (nI_eq (show k < 2 ^ 31 by omega) (show 0 < 2 ^ 31 by omega)).mp z
  refine j_aload_n C dL_law_461 rfl rfl ?_
  refine j_iconst (v := 0) C dL_law_462 (by decide) ?_
  refine j_lald C rfl dL_law_463 ?_
  refine j_iload C dL_law_464 rfl ?_
  refine j_i2l C dL_law_466 ?_
  refine j_lcmp C dL_law_467 ?_
  exact j_if_eq (tgt := 473) C dL_law_468 (by decide) (fun _ => out) (fun z => absurd (lcmp_0 (hb hk0)) z)
set_option maxHeartbeats 4000000 in
theorem blk_impair (C : Cx p s args m meth c cL_law 9 RL (some .boolean) g) (X : SX s g b0 N xs) {k : Nat} {b : Int32} (hi : i + 2 < N) (hW : WM l yL_impair cL_impair 5 (some .int) [(0, 10, 13, 21), (0, 10, 17, 13), (0, 10, 21, 15)] 9 mc ms g V L [.ref (ad g 223), .int (xs (i + 1)), .int (xs (i + 2)), .ref (ad g 230)] (some (.int (nI k))) V1 L1) (hM : MC l yX7_impair cX7_impair 3 (some .int) 6 g V1 L1 [.ref (ad g 224), .int (xs (i + 1)), .int (xs (i + 2))] (some (.int b)) V2 L2) (ht : V2 224 6 = nI k) (hk : k < 4) (hb : k = 0 → L2 1 = b.toInt64) (hc : cells + mc ≤ 601024) (hs : slots + ms ≤ 7293033) (kx : J p l e room_1 s m args below meth c 9 g (cells + mc) (slots + ms) Q V2 L2 1713 (LVL g b0 i) []) : J p l e room_1 s m args below meth c 9 g cells slots Q V L 476 (LVL g b0 i) [] := by
  refine j_aload_n C dL_law_476 rfl rfl ?_
  refine j_aload_n C dL_law_477 rfl rfl ?_
  refine j_iload C dL_law_478 rfl ?_
  refine j_iconst (v := nI 1) C dL_law_480 (by decide) ?_
  refine j_iaddN C dL_law_481 ?_
  refine j_sld C X (by omega) dL_law_482 ?_
  refine j_aload_n C dL_law_483 rfl rfl ?_
  refine j_iload C dL_law_484 rfl ?_
  refine j_iconst (v := nI 2) C dL_law_486 (by decide) ?_
  refine j_iaddN C dL_law_487 ?_
  refine j_sld C X (by omega) dL_law_488 ?_
  refine j_aload_n C dL_law_489 rfl rfl ?_
  refine j_callW C hW qm_L_108 qt_L_impair qn_L qc_L_impair fit_L_impair ⟨Nat.le_of_ble_eq_true rfl, Nat.le_of_ble_eq_true rfl, hc, hs⟩ (Nat.le_of_ble_eq_true rfl) dL_law_490 rfl ?_
  refine j_ist5 C dL_law_493 (by decide) rfl ?_
  refine j_aload_n C dL_law_495 rfl rfl ?_
  refine j_aload_n C dL_law_496 rfl rfl ?_
  refine j_iload C dL_law_497 rfl ?_
  refine j_iconst (v := nI 1) C dL_law_499 (by decide) ?_
  refine j_iaddN C dL_law_500 ?_
  refine j_sld C X (by omega) dL_law_501 ?_
  refine j_aload_n C dL_law_502 rfl rfl ?_
  refine j_iload C dL_law_503 rfl ?_
  refine j_iconst (v := nI 2) C dL_law_505 (by decide) ?_
  refine j_iaddN C dL_law_506 ?_
  refine j_sld C X (by omega) dL_law_507 ?_
  refine j_callV2r C (oa_X7 rfl) rfl rfl hM qm_L_110 qi_X7_impair qs_X7_impair qn_X7 qc_X7_impair fit_X7_impair ⟨Nat.le_of_ble_eq_true rfl, Nat.le_of_ble_eq_true rfl, hc, hs⟩ (Nat.le_of_ble_eq_true rfl) dL_law_508 ?_
  refine j_ist6 C dL_law_511 (by decide) rfl ?_
  refine j_aload_n C dL_law_513 rfl rfl ?_
  refine j_callV0r C (oa_X7 rfl) rfl rfl (c_X7_thrown) qm_L_94 qi_X7_thrown qs_X7_thrown qn_X7 qc_X7_thrown fit_X7_thrown ⟨Nat.le_of_ble_eq_true rfl, Nat.le_of_ble_eq_true rfl, hc, hs⟩ (Nat.le_of_ble_eq_true rfl) dL_law_514 ?_
  refine j_iload C dL_law_517 rfl ?_
  refine j_icmp_eq (tgt := 524) C dL_law_519 (by decide) (fun _ => ?_) (fun z => absurd ht z)
  refine j_iload C dL_law_524 rfl ?_
  have out : J p l e room_1 s m args below meth c 9 g (cells + mc) (slots + ms) Q V2 L2 541 [some (.ref b0), some (.ref (ad g 223)), some (.ref (ad g 224)), some (.ref (ad g 230)), some (.int (nI i)), some (.int (nI k)), some (.int b), none, none] [] := by
    refine j_goto (tgt := 1713) C dL_law_541 (by decide) ?_
    exact j_le lvl_le kx
  refine j_if_ne (tgt := 541) C dL_law_526 (by decide) (fun _ => out) (fun z => ?_)
  have hk0 : k = 0 := (nI_eq (show k < 2 ^ 31 by omega) (show 0 < 2 ^ 31 by omega)).mp z
  refine j_aload_n C dL_law_529 rfl rfl ?_
  refine j_iconst (v := 0) C dL_law_530 (by decide) ?_
  refine j_lald C rfl dL_law_531 ?_
  refine j_iload C dL_law_532 rfl ?_
  refine j_i2l C dL_law_534 ?_
  refine j_lcmp C dL_law_535 ?_
  exact j_if_eq (tgt := 541) C dL_law_536 (by decide) (fun _ => out) (fun z => absurd (lcmp_0 (hb hk0)) z)
set_option maxHeartbeats 4000000 in
theorem blk_sublet (C : Cx p s args m meth c cL_law 9 RL (some .boolean) g) (X : SX s g b0 N xs) {k : Nat} {b : Int32} (hi : i + 4 < N) (hW : WM l yL_sublet cL_sublet 7 (some .int) [(0, 14, 17, 21), (0, 14, 21, 13), (0, 14, 25, 15)] 9 mc ms g V L [.ref (ad g 223), .int (xs (i + 1)), .int (xs (i + 2)), .int (xs (i + 3)), .int (xs (i + 4)), .ref (ad g 230)] (some (.int (nI k))) V1 L1) (hM : MC l yX7_sublet cX7_sublet 8 (some .int) 6 g V1 L1 [.ref (ad g 224), .int (xs (i + 1)), .int (xs (i + 2)), .int (xs (i + 3)), .int (xs (i + 4))] (some (.int b)) V2 L2) (ht : V2 224 6 = nI k) (hk : k < 4) (hb : k = 0 → L2 1 = b.toInt64) (hc : cells + mc ≤ 601024) (hs : slots + ms ≤ 7293033) (kx : J p l e room_1 s m args below meth c 9 g (cells + mc) (slots + ms) Q V2 L2 1713 (LVL g b0 i) []) : J p l e room_1 s m args below meth c 9 g cells slots Q V L 544 (LVL g b0 i) [] := by
  refine j_aload_n C dL_law_544 rfl rfl ?_
  refine j_aload_n C dL_law_545 rfl rfl ?_
  refine j_iload C dL_law_546 rfl ?_
  refine j_iconst (v := nI 1) C dL_law_548 (by decide) ?_
  refine j_iaddN C dL_law_549 ?_
  refine j_sld C X (by omega) dL_law_550 ?_
  refine j_aload_n C dL_law_551 rfl rfl ?_
  refine j_iload C dL_law_552 rfl ?_
  refine j_iconst (v := nI 2) C dL_law_554 (by decide) ?_
  refine j_iaddN C dL_law_555 ?_
  refine j_sld C X (by omega) dL_law_556 ?_
  refine j_aload_n C dL_law_557 rfl rfl ?_
  refine j_iload C dL_law_558 rfl ?_
  refine j_iconst (v := nI 3) C dL_law_560 (by decide) ?_
  refine j_iaddN C dL_law_561 ?_
  refine j_sld C X (by omega) dL_law_562 ?_
  refine j_aload_n C dL_law_563 rfl rfl ?_
  refine j_iload C dL_law_564 rfl ?_
  refine j_iconst (v := nI 4) C dL_law_566 (by decide) ?_
  refine j_iaddN C dL_law_567 ?_
  refine j_sld C X (by omega) dL_law_568 ?_
  refine j_aload_n C dL_law_569 rfl rfl ?_
  refine j_callW C hW qm_L_111 qt_L_sublet qn_L qc_L_sublet fit_L_sublet ⟨Nat.le_of_ble_eq_true rfl, Nat.le_of_ble_eq_true rfl, hc, hs⟩ (Nat.le_of_ble_eq_true rfl) dL_law_570 rfl ?_
  refine j_ist5 C dL_law_573 (by decide) rfl ?_
  refine j_aload_n C dL_law_575 rfl rfl ?_
  refine j_aload_n C dL_law_576 rfl rfl ?_
  refine j_iload C dL_law_577 rfl ?_
  refine j_iconst (v := nI 1) C dL_law_579 (by decide) ?_
  refine j_iaddN C dL_law_580 ?_
  refine j_sld C X (by omega) dL_law_581 ?_
  refine j_aload_n C dL_law_582 rfl rfl ?_
  refine j_iload C dL_law_583 rfl ?_
  refine j_iconst (v := nI 2) C dL_law_585 (by decide) ?_
  refine j_iaddN C dL_law_586 ?_
  refine j_sld C X (by omega) dL_law_587 ?_
  refine j_aload_n C dL_law_588 rfl rfl ?_
  refine j_iload C dL_law_589 rfl ?_
  refine j_iconst (v := nI 3) C dL_law_591 (by decide) ?_
  refine j_iaddN C dL_law_592 ?_
  refine j_sld C X (by omega) dL_law_593 ?_
  refine j_aload_n C dL_law_594 rfl rfl ?_
  refine j_iload C dL_law_595 rfl ?_
  refine j_iconst (v := nI 4) C dL_law_597 (by decide) ?_
  refine j_iaddN C dL_law_598 ?_
  refine j_sld C X (by omega) dL_law_599 ?_
  refine j_callV4r C (oa_X7 rfl) rfl rfl hM qm_L_113 qi_X7_sublet qs_X7_sublet qn_X7 qc_X7_sublet fit_X7_sublet ⟨Nat.le_of_ble_eq_true rfl, Nat.le_of_ble_eq_true rfl, hc, hs⟩ (Nat.le_of_ble_eq_true rfl) dL_law_600 ?_
  refine j_ist6 C dL_law_603 (by decide) rfl ?_
  refine j_aload_n C dL_law_605 rfl rfl ?_
  refine j_callV0r C (oa_X7 rfl) rfl rfl (c_X7_thrown) qm_L_94 qi_X7_thrown qs_X7_thrown qn_X7 qc_X7_thrown fit_X7_thrown ⟨Nat.le_of_ble_eq_true rfl, Nat.le_of_ble_eq_true rfl, hc, hs⟩ (Nat.le_of_ble_eq_true rfl) dL_law_606 ?_
  refine j_iload C dL_law_609 rfl ?_
  refine j_icmp_eq (tgt := 616) C dL_law_611 (by decide) (fun _ => ?_) (fun z => absurd ht z)
  refine j_iload C dL_law_616 rfl ?_
  have out : J p l e room_1 s m args below meth c 9 g (cells + mc) (slots + ms) Q V2 L2 633 [some (.ref b0), some (.ref (ad g 223)), some (.ref (ad g 224)), some (.ref (ad g 230)), some (.int (nI i)), some (.int (nI k)), some (.int b), none, none] [] := by
    refine j_goto (tgt := 1713) C dL_law_633 (by decide) ?_
    exact j_le lvl_le kx
  refine j_if_ne (tgt := 633) C dL_law_618 (by decide) (fun _ => out) (fun z => ?_)
  have hk0 : k = 0 := (nI_eq (show k < 2 ^ 31 by omega) (show 0 < 2 ^ 31 by omega)).mp z
  refine j_aload_n C dL_law_621 rfl rfl ?_
  refine j_iconst (v := 0) C dL_law_622 (by decide) ?_
  refine j_lald C rfl dL_law_623 ?_
  refine j_iload C dL_law_624 rfl ?_
  refine j_i2l C dL_law_626 ?_
  refine j_lcmp C dL_law_627 ?_
  exact j_if_eq (tgt := 633) C dL_law_628 (by decide) (fun _ => out) (fun z => absurd (lcmp_0 (hb hk0)) z)
set_option maxHeartbeats 4000000 in
theorem blk_pass (C : Cx p s args m meth c cL_law 9 RL (some .boolean) g) (X : SX s g b0 N xs) {k : Nat} {b : Int32} (hi : i + 1 < N) (hW : WM l yL_pass cL_pass 4 (some .int) [(0, 9, 12, 13), (0, 9, 15, 15)] 9 mc ms g V L [.ref (ad g 223), .int (xs (i + 1)), .ref (ad g 230)] (some (.int (nI k))) V1 L1) (hM : MC l yX7_pass cX7_pass 4 (some .int) 6 g V1 L1 [.ref (ad g 224), .int (xs (i + 1))] (some (.int b)) V2 L2) (ht : V2 224 6 = nI k) (hk : k < 4) (hb : k = 0 → L2 1 = b.toInt64) (hc : cells + mc ≤ 601024) (hs : slots + ms ≤ 7293033) (kx : J p l e room_1 s m args below meth c 9 g (cells + mc) (slots + ms) Q V2 L2 1713 (LVL g b0 i) []) : J p l e room_1 s m args below meth c 9 g cells slots Q V L 636 (LVL g b0 i) [] := by
  refine j_aload_n C dL_law_636 rfl rfl ?_
  refine j_aload_n C dL_law_637 rfl rfl ?_
  refine j_iload C dL_law_638 rfl ?_
  refine j_iconst (v := nI 1) C dL_law_640 (by decide) ?_
  refine j_iaddN C dL_law_641 ?_
  refine j_sld C X (by omega) dL_law_642 ?_
  refine j_aload_n C dL_law_643 rfl rfl ?_
  refine j_callW C hW qm_L_114 qt_L_pass qn_L qc_L_pass fit_L_pass ⟨Nat.le_of_ble_eq_true rfl, Nat.le_of_ble_eq_true rfl, hc, hs⟩ (Nat.le_of_ble_eq_true rfl) dL_law_644 rfl ?_
  refine j_ist5 C dL_law_647 (by decide) rfl ?_
  refine j_aload_n C dL_law_649 rfl rfl ?_
  refine j_aload_n C dL_law_650 rfl rfl ?_
  refine j_iload C dL_law_651 rfl ?_
  refine j_iconst (v := nI 1) C dL_law_653 (by decide) ?_
  refine j_iaddN C dL_law_654 ?_
  refine j_sld C X (by omega) dL_law_655 ?_
  refine j_callV1r C (oa_X7 rfl) rfl rfl hM qm_L_117 qi_X7_pass qs_X7_pass qn_X7 qc_X7_pass fit_X7_pass ⟨Nat.le_of_ble_eq_true rfl, Nat.le_of_ble_eq_true rfl, hc, hs⟩ (Nat.le_of_ble_eq_true rfl) dL_law_656 ?_
  refine j_ist6 C dL_law_659 (by decide) rfl ?_
  refine j_aload_n C dL_law_661 rfl rfl ?_
  refine j_callV0r C (oa_X7 rfl) rfl rfl (c_X7_thrown) qm_L_94 qi_X7_thrown qs_X7_thrown qn_X7 qc_X7_thrown fit_X7_thrown ⟨Nat.le_of_ble_eq_true rfl, Nat.le_of_ble_eq_true rfl, hc, hs⟩ (Nat.le_of_ble_eq_true rfl) dL_law_662 ?_
  refine j_iload C dL_law_665 rfl ?_
  refine j_icmp_eq (tgt := 672) C dL_law_667 (by decide) (fun _ => ?_) (fun z => absurd ht z)
  refine j_iload C dL_law_672 rfl ?_
  have out : J p l e room_1 s m args below meth c 9 g (cells + mc) (slots + ms) Q V2 L2 689 [some (.ref b0), some (.ref (ad g 223)), some (.ref (ad g 224)), some (.ref (ad g 230)), some (.int (nI i)), some (.int (nI k)), some (.int b), none, none] [] := by
    refine j_goto (tgt := 1713) C dL_law_689 (by decide) ?_
    exact j_le lvl_le kx
  refine j_if_ne (tgt := 689) C dL_law_674 (by decide) (fun _ => out) (fun z => ?_)
  have hk0 : k = 0 := (nI_eq (show k < 2 ^ 31 by omega) (show 0 < 2 ^ 31 by omega)).mp z
  refine j_aload_n C dL_law_677 rfl rfl ?_
  refine j_iconst (v := 0) C dL_law_678 (by decide) ?_
  refine j_lald C rfl dL_law_679 ?_
  refine j_iload C dL_law_680 rfl ?_
  refine j_i2l C dL_law_682 ?_
  refine j_lcmp C dL_law_683 ?_
  exact j_if_eq (tgt := 689) C dL_law_684 (by decide) (fun _ => out) (fun z => absurd (lcmp_0 (hb hk0)) z)
set_option maxHeartbeats 4000000 in
theorem blk_append (C : Cx p s args m meth c cL_law 9 RL (some .boolean) g) (X : SX s g b0 N xs) {k : Nat} {b : Int32} (hi : i + 1 < N) (hW : WM l yL_append cL_append 4 (some .int) [(0, 9, 12, 13), (0, 9, 15, 15)] 9 mc ms g V L [.ref (ad g 223), .int (xs (i + 1)), .ref (ad g 230)] (some (.int (nI k))) V1 L1) (hM : MC l yX7_append cX7_append 2 (some .int) 6 g V1 L1 [.ref (ad g 224), .int (xs (i + 1))] (some (.int b)) V2 L2) (ht : V2 224 6 = nI k) (hk : k < 4) (hb : k = 0 → L2 1 = b.toInt64) (hc : cells + mc ≤ 601024) (hs : slots + ms ≤ 7293033) (kx : J p l e room_1 s m args below meth c 9 g (cells + mc) (slots + ms) Q V2 L2 1713 (LVL g b0 i) []) : J p l e room_1 s m args below meth c 9 g cells slots Q V L 692 (LVL g b0 i) [] := by
  refine j_aload_n C dL_law_692 rfl rfl ?_
  refine j_aload_n C dL_law_693 rfl rfl ?_
  refine j_iload C dL_law_694 rfl ?_
  refine j_iconst (v := nI 1) C dL_law_696 (by decide) ?_
  refine j_iaddN C dL_law_697 ?_
  refine j_sld C X (by omega) dL_law_698 ?_
  refine j_aload_n C dL_law_699 rfl rfl ?_
  refine j_callW C hW qm_L_118 qt_L_append qn_L qc_L_append fit_L_append ⟨Nat.le_of_ble_eq_true rfl, Nat.le_of_ble_eq_true rfl, hc, hs⟩ (Nat.le_of_ble_eq_true rfl) dL_law_700 rfl ?_
  refine j_ist5 C dL_law_703 (by decide) rfl ?_
  refine j_aload_n C dL_law_705 rfl rfl ?_
  refine j_aload_n C dL_law_706 rfl rfl ?_
  refine j_iload C dL_law_707 rfl ?_
  refine j_iconst (v := nI 1) C dL_law_709 (by decide) ?_
  refine j_iaddN C dL_law_710 ?_
  refine j_sld C X (by omega) dL_law_711 ?_
  refine j_callV1r C (oa_X7 rfl) rfl rfl hM qm_L_120 qi_X7_append qs_X7_append qn_X7 qc_X7_append fit_X7_append ⟨Nat.le_of_ble_eq_true rfl, Nat.le_of_ble_eq_true rfl, hc, hs⟩ (Nat.le_of_ble_eq_true rfl) dL_law_712 ?_
  refine j_ist6 C dL_law_715 (by decide) rfl ?_
  refine j_aload_n C dL_law_717 rfl rfl ?_
  refine j_callV0r C (oa_X7 rfl) rfl rfl (c_X7_thrown) qm_L_94 qi_X7_thrown qs_X7_thrown qn_X7 qc_X7_thrown fit_X7_thrown ⟨Nat.le_of_ble_eq_true rfl, Nat.le_of_ble_eq_true rfl, hc, hs⟩ (Nat.le_of_ble_eq_true rfl) dL_law_718 ?_
  refine j_iload C dL_law_721 rfl ?_
  refine j_icmp_eq (tgt := 728) C dL_law_723 (by decide) (fun _ => ?_) (fun z => absurd ht z)
  refine j_iload C dL_law_728 rfl ?_
  have out : J p l e room_1 s m args below meth c 9 g (cells + mc) (slots + ms) Q V2 L2 745 [some (.ref b0), some (.ref (ad g 223)), some (.ref (ad g 224)), some (.ref (ad g 230)), some (.int (nI i)), some (.int (nI k)), some (.int b), none, none] [] := by
    refine j_goto (tgt := 1713) C dL_law_745 (by decide) ?_
    exact j_le lvl_le kx
  refine j_if_ne (tgt := 745) C dL_law_730 (by decide) (fun _ => out) (fun z => ?_)
  have hk0 : k = 0 := (nI_eq (show k < 2 ^ 31 by omega) (show 0 < 2 ^ 31 by omega)).mp z
  refine j_aload_n C dL_law_733 rfl rfl ?_
  refine j_iconst (v := 0) C dL_law_734 (by decide) ?_
  refine j_lald C rfl dL_law_735 ?_
  refine j_iload C dL_law_736 rfl ?_
  refine j_i2l C dL_law_738 ?_
  refine j_lcmp C dL_law_739 ?_
  exact j_if_eq (tgt := 745) C dL_law_740 (by decide) (fun _ => out) (fun z => absurd (lcmp_0 (hb hk0)) z)
set_option maxHeartbeats 4000000 in
theorem blk_clearBuffer (C : Cx p s args m meth c cL_law 9 RL (some .boolean) g) (X : SX s g b0 N xs) {x b : Int32} (hW : MC l yX6_clearBuffer cX6_clearBuffer 2 (some .int) 5 g V L [.ref (ad g 223)] (some (.int x)) V1 L1) (hM : MC l yX7_clearBuffer cX7_clearBuffer 2 (some .int) 0 g V1 L1 [.ref (ad g 224)] (some (.int b)) V2 L2) (hb : x = b) (hc : cells + mc ≤ 601024) (hs : slots + ms ≤ 7293033) (kx : J p l e room_1 s m args below meth c 9 g (cells + mc) (slots + ms) Q V2 L2 1713 (LVL g b0 i) []) : J p l e room_1 s m args below meth c 9 g (cells + mc) (slots + ms) Q V L 748 (LVL g b0 i) [] := by
  refine j_aload_n C dL_law_748 rfl rfl ?_
  refine j_callV0r C (oa_X6 rfl) rfl rfl hW qm_L_121 qi_X6_clearBuffer qs_X6_clearBuffer qn_X6 qc_X6_clearBuffer fit_X6_clearBuffer ⟨Nat.le_of_ble_eq_true rfl, Nat.le_of_ble_eq_true rfl, hc, hs⟩ (Nat.le_of_ble_eq_true rfl) dL_law_749 ?_
  refine j_aload_n C dL_law_752 rfl rfl ?_
  refine j_callV0r C (oa_X7 rfl) rfl rfl hM qm_L_124 qi_X7_clearBuffer qs_X7_clearBuffer qn_X7 qc_X7_clearBuffer fit_X7_clearBuffer ⟨Nat.le_of_ble_eq_true rfl, Nat.le_of_ble_eq_true rfl, hc, hs⟩ (Nat.le_of_ble_eq_true rfl) dL_law_753 ?_
  exact j_icmp_eq (tgt := 1713) C dL_law_756 (by decide) (fun _ => kx) (fun z => absurd hb z)
set_option maxHeartbeats 4000000 in
theorem blk_firstError (C : Cx p s args m meth c cL_law 9 RL (some .boolean) g) (X : SX s g b0 N xs) {x b : Int32} (hW : MC l yX6_firstError cX6_firstError 1 (some .int) 5 g V L [.ref (ad g 223)] (some (.int x)) V1 L1) (hM : MC l yX7_firstError cX7_firstError 1 (some .int) 4 g V1 L1 [.ref (ad g 224)] (some (.int b)) V2 L2) (hb : x = b) (hc : cells + mc ≤ 601024) (hs : slots + ms ≤ 7293033) (kx : J p l e room_1 s m args below meth c 9 g (cells + mc) (slots + ms) Q V2 L2 1713 (LVL g b0 i) []) : J p l e room_1 s m args below meth c 9 g (cells + mc) (slots + ms) Q V L 761 (LVL g b0 i) [] := by
  refine j_aload_n C dL_law_761 rfl rfl ?_
  refine j_callV0r C (oa_X6 rfl) rfl rfl hW qm_L_125 qi_X6_firstError qs_X6_firstError qn_X6 qc_X6_firstError fit_X6_firstError ⟨Nat.le_of_ble_eq_true rfl, Nat.le_of_ble_eq_true rfl, hc, hs⟩ (Nat.le_of_ble_eq_true rfl) dL_law_762 ?_
  refine j_aload_n C dL_law_765 rfl rfl ?_
  refine j_callV0r C (oa_X7 rfl) rfl rfl hM qm_L_128 qi_X7_firstError qs_X7_firstError qn_X7 qc_X7_firstError fit_X7_firstError ⟨Nat.le_of_ble_eq_true rfl, Nat.le_of_ble_eq_true rfl, hc, hs⟩ (Nat.le_of_ble_eq_true rfl) dL_law_766 ?_
  exact j_icmp_eq (tgt := 1713) C dL_law_769 (by decide) (fun _ => kx) (fun z => absurd hb z)
set_option maxHeartbeats 4000000 in
theorem blk_openAll (C : Cx p s args m meth c cL_law 9 RL (some .boolean) g) (X : SX s g b0 N xs) {k : Nat} {b : Int32} (hW : WM l yL_openAll cL_openAll 3 (some .int) [(0, 8, 11, 13), (0, 8, 14, 15)] 9 mc ms g V L [.ref (ad g 223), .ref (ad g 230)] (some (.int (nI k))) V1 L1) (hM : MC l yX7_openAll cX7_openAll 2 (some .int) 6 g V1 L1 [.ref (ad g 224)] (some (.int b)) V2 L2) (ht : V2 224 6 = nI k) (hk : k < 4) (hb : k = 0 → L2 1 = b.toInt64) (hc : cells + mc ≤ 601024) (hs : slots + ms ≤ 7293033) (kx : J p l e room_1 s m args below meth c 9 g (cells + mc) (slots + ms) Q V2 L2 1713 (LVL g b0 i) []) : J p l e room_1 s m args below meth c 9 g cells slots Q V L 774 (LVL g b0 i) [] := by
  refine j_aload_n C dL_law_774 rfl rfl ?_
  refine j_aload_n C dL_law_775 rfl rfl ?_
  refine j_callW C hW qm_L_129 qt_L_openAll qn_L qc_L_openAll fit_L_openAll ⟨Nat.le_of_ble_eq_true rfl, Nat.le_of_ble_eq_true rfl, hc, hs⟩ (Nat.le_of_ble_eq_true rfl) dL_law_776 rfl ?_
  refine j_ist5 C dL_law_779 (by decide) rfl ?_
  refine j_aload_n C dL_law_781 rfl rfl ?_
  refine j_callV0r C (oa_X7 rfl) rfl rfl hM qm_L_132 qi_X7_openAll qs_X7_openAll qn_X7 qc_X7_openAll fit_X7_openAll ⟨Nat.le_of_ble_eq_true rfl, Nat.le_of_ble_eq_true rfl, hc, hs⟩ (Nat.le_of_ble_eq_true rfl) dL_law_782 ?_
  refine j_ist6 C dL_law_785 (by decide) rfl ?_
  refine j_aload_n C dL_law_787 rfl rfl ?_
  refine j_callV0r C (oa_X7 rfl) rfl rfl (c_X7_thrown) qm_L_94 qi_X7_thrown qs_X7_thrown qn_X7 qc_X7_thrown fit_X7_thrown ⟨Nat.le_of_ble_eq_true rfl, Nat.le_of_ble_eq_true rfl, hc, hs⟩ (Nat.le_of_ble_eq_true rfl) dL_law_788 ?_
  refine j_iload C dL_law_791 rfl ?_
  refine j_icmp_eq (tgt := 798) C dL_law_793 (by decide) (fun _ => ?_) (fun z => absurd ht z)
  refine j_iload C dL_law_798 rfl ?_
  have out : J p l e room_1 s m args below meth c 9 g (cells + mc) (slots + ms) Q V2 L2 815 [some (.ref b0), some (.ref (ad g 223)), some (.ref (ad g 224)), some (.ref (ad g 230)), some (.int (nI i)), some (.int (nI k)), some (.int b), none, none] [] := by
    refine j_goto (tgt := 1713) C dL_law_815 (by decide) ?_
    exact j_le lvl_le kx
  refine j_if_ne (tgt := 815) C dL_law_800 (by decide) (fun _ => out) (fun z => ?_)
  have hk0 : k = 0 := (nI_eq (show k < 2 ^ 31 by omega) (show 0 < 2 ^ 31 by omega)).mp z
  refine j_aload_n C dL_law_803 rfl rfl ?_
  refine j_iconst (v := 0) C dL_law_804 (by decide) ?_
  refine j_lald C rfl dL_law_805 ?_
  refine j_iload C dL_law_806 rfl ?_
  refine j_i2l C dL_law_808 ?_
  refine j_lcmp C dL_law_809 ?_
  exact j_if_eq (tgt := 815) C dL_law_810 (by decide) (fun _ => out) (fun z => absurd (lcmp_0 (hb hk0)) z)
set_option maxHeartbeats 4000000 in
theorem blk_undo (C : Cx p s args m meth c cL_law 9 RL (some .boolean) g) (X : SX s g b0 N xs) {k : Nat} {b : Int32} (hW : WM l yL_undo cL_undo 3 (some .int) [(0, 8, 11, 15)] 9 mc ms g V L [.ref (ad g 223), .ref (ad g 230)] (some (.int (nI k))) V1 L1) (hM : MC l yX7_undo cX7_undo 2 (some .int) 6 g V1 L1 [.ref (ad g 224)] (some (.int b)) V2 L2) (ht : V2 224 6 = nI k) (hk : k < 4) (hb : k = 0 → L2 1 = b.toInt64) (hc : cells + mc ≤ 601024) (hs : slots + ms ≤ 7293033) (kx : J p l e room_1 s m args below meth c 9 g (cells + mc) (slots + ms) Q V2 L2 1713 (LVL g b0 i) []) : J p l e room_1 s m args below meth c 9 g cells slots Q V L 818 (LVL g b0 i) [] := by
  refine j_aload_n C dL_law_818 rfl rfl ?_
  refine j_aload_n C dL_law_819 rfl rfl ?_
  refine j_callW C hW qm_L_133 qt_L_undo qn_L qc_L_undo fit_L_undo ⟨Nat.le_of_ble_eq_true rfl, Nat.le_of_ble_eq_true rfl, hc, hs⟩ (Nat.le_of_ble_eq_true rfl) dL_law_820 rfl ?_
  refine j_ist5 C dL_law_823 (by decide) rfl ?_
  refine j_aload_n C dL_law_825 rfl rfl ?_
  refine j_callV0r C (oa_X7 rfl) rfl rfl hM qm_L_135 qi_X7_undo qs_X7_undo qn_X7 qc_X7_undo fit_X7_undo ⟨Nat.le_of_ble_eq_true rfl, Nat.le_of_ble_eq_true rfl, hc, hs⟩ (Nat.le_of_ble_eq_true rfl) dL_law_826 ?_
  refine j_ist6 C dL_law_829 (by decide) rfl ?_
  refine j_aload_n C dL_law_831 rfl rfl ?_
  refine j_callV0r C (oa_X7 rfl) rfl rfl (c_X7_thrown) qm_L_94 qi_X7_thrown qs_X7_thrown qn_X7 qc_X7_thrown fit_X7_thrown ⟨Nat.le_of_ble_eq_true rfl, Nat.le_of_ble_eq_true rfl, hc, hs⟩ (Nat.le_of_ble_eq_true rfl) dL_law_832 ?_
  refine j_iload C dL_law_835 rfl ?_
  refine j_icmp_eq (tgt := 842) C dL_law_837 (by decide) (fun _ => ?_) (fun z => absurd ht z)
  refine j_iload C dL_law_842 rfl ?_
  have out : J p l e room_1 s m args below meth c 9 g (cells + mc) (slots + ms) Q V2 L2 859 [some (.ref b0), some (.ref (ad g 223)), some (.ref (ad g 224)), some (.ref (ad g 230)), some (.int (nI i)), some (.int (nI k)), some (.int b), none, none] [] := by
    refine j_goto (tgt := 1713) C dL_law_859 (by decide) ?_
    exact j_le lvl_le kx
  refine j_if_ne (tgt := 859) C dL_law_844 (by decide) (fun _ => out) (fun z => ?_)
  have hk0 : k = 0 := (nI_eq (show k < 2 ^ 31 by omega) (show 0 < 2 ^ 31 by omega)).mp z
  refine j_aload_n C dL_law_847 rfl rfl ?_
  refine j_iconst (v := 0) C dL_law_848 (by decide) ?_
  refine j_lald C rfl dL_law_849 ?_
  refine j_iload C dL_law_850 rfl ?_
  refine j_i2l C dL_law_852 ?_
  refine j_lcmp C dL_law_853 ?_
  exact j_if_eq (tgt := 859) C dL_law_854 (by decide) (fun _ => out) (fun z => absurd (lcmp_0 (hb hk0)) z)
set_option maxHeartbeats 4000000 in
theorem blk_lease (C : Cx p s args m meth c cL_law 9 RL (some .boolean) g) (X : SX s g b0 N xs) {k : Nat} {b : Int32} (hi : i + 2 < N) (hW : WM l yL_lease cL_lease 5 (some .int) [(0, 10, 13, 21), (0, 10, 17, 13)] 9 mc ms g V L [.ref (ad g 223), .int (xs (i + 1)), .int (xs (i + 2)), .ref (ad g 230)] (some (.int (nI k))) V1 L1) (hM : MC l yX7_lease cX7_lease 3 (some .int) 6 g V1 L1 [.ref (ad g 224), .int (xs (i + 1)), .int (xs (i + 2))] (some (.int b)) V2 L2) (ht : V2 224 6 = nI k) (hk : k < 4) (hb : k = 0 → L2 1 = b.toInt64) (hc : cells + mc ≤ 601024) (hs : slots + ms ≤ 7293033) (kx : J p l e room_1 s m args below meth c 9 g (cells + mc) (slots + ms) Q V2 L2 1713 (LVL g b0 i) []) : J p l e room_1 s m args below meth c 9 g cells slots Q V L 862 (LVL g b0 i) [] := by
  refine j_aload_n C dL_law_862 rfl rfl ?_
  refine j_aload_n C dL_law_863 rfl rfl ?_
  refine j_iload C dL_law_864 rfl ?_
  refine j_iconst (v := nI 1) C dL_law_866 (by decide) ?_
  refine j_iaddN C dL_law_867 ?_
  refine j_sld C X (by omega) dL_law_868 ?_
  refine j_aload_n C dL_law_869 rfl rfl ?_
  refine j_iload C dL_law_870 rfl ?_
  refine j_iconst (v := nI 2) C dL_law_872 (by decide) ?_
  refine j_iaddN C dL_law_873 ?_
  refine j_sld C X (by omega) dL_law_874 ?_
  refine j_aload_n C dL_law_875 rfl rfl ?_
  refine j_callW C hW qm_L_136 qt_L_lease qn_L qc_L_lease fit_L_lease ⟨Nat.le_of_ble_eq_true rfl, Nat.le_of_ble_eq_true rfl, hc, hs⟩ (Nat.le_of_ble_eq_true rfl) dL_law_876 rfl ?_
  refine j_ist5 C dL_law_879 (by decide) rfl ?_
  refine j_aload_n C dL_law_881 rfl rfl ?_
  refine j_aload_n C dL_law_882 rfl rfl ?_
  refine j_iload C dL_law_883 rfl ?_
  refine j_iconst (v := nI 1) C dL_law_885 (by decide) ?_
  refine j_iaddN C dL_law_886 ?_
  refine j_sld C X (by omega) dL_law_887 ?_
  refine j_aload_n C dL_law_888 rfl rfl ?_
  refine j_iload C dL_law_889 rfl ?_
  refine j_iconst (v := nI 2) C dL_law_891 (by decide) ?_
  refine j_iaddN C dL_law_892 ?_
  refine j_sld C X (by omega) dL_law_893 ?_
  refine j_callV2r C (oa_X7 rfl) rfl rfl hM qm_L_138 qi_X7_lease qs_X7_lease qn_X7 qc_X7_lease fit_X7_lease ⟨Nat.le_of_ble_eq_true rfl, Nat.le_of_ble_eq_true rfl, hc, hs⟩ (Nat.le_of_ble_eq_true rfl) dL_law_894 ?_
  refine j_ist6 C dL_law_897 (by decide) rfl ?_
  refine j_aload_n C dL_law_899 rfl rfl ?_
  refine j_callV0r C (oa_X7 rfl) rfl rfl (c_X7_thrown) qm_L_94 qi_X7_thrown qs_X7_thrown qn_X7 qc_X7_thrown fit_X7_thrown ⟨Nat.le_of_ble_eq_true rfl, Nat.le_of_ble_eq_true rfl, hc, hs⟩ (Nat.le_of_ble_eq_true rfl) dL_law_900 ?_
  refine j_iload C dL_law_903 rfl ?_
  refine j_icmp_eq (tgt := 910) C dL_law_905 (by decide) (fun _ => ?_) (fun z => absurd ht z)
  refine j_iload C dL_law_910 rfl ?_
  have out : J p l e room_1 s m args below meth c 9 g (cells + mc) (slots + ms) Q V2 L2 927 [some (.ref b0), some (.ref (ad g 223)), some (.ref (ad g 224)), some (.ref (ad g 230)), some (.int (nI i)), some (.int (nI k)), some (.int b), none, none] [] := by
    refine j_goto (tgt := 1713) C dL_law_927 (by decide) ?_
    exact j_le lvl_le kx
  refine j_if_ne (tgt := 927) C dL_law_912 (by decide) (fun _ => out) (fun z => ?_)
  have hk0 : k = 0 := (nI_eq (show k < 2 ^ 31 by omega) (show 0 < 2 ^ 31 by omega)).mp z
  refine j_aload_n C dL_law_915 rfl rfl ?_
  refine j_iconst (v := 0) C dL_law_916 (by decide) ?_
  refine j_lald C rfl dL_law_917 ?_
  refine j_iload C dL_law_918 rfl ?_
  refine j_i2l C dL_law_920 ?_
  refine j_lcmp C dL_law_921 ?_
  exact j_if_eq (tgt := 927) C dL_law_922 (by decide) (fun _ => out) (fun z => absurd (lcmp_0 (hb hk0)) z)
set_option maxHeartbeats 4000000 in
theorem blk_sublease (C : Cx p s args m meth c cL_law 9 RL (some .boolean) g) (X : SX s g b0 N xs) {k : Nat} {b : Int32} (hi : i + 2 < N) (hW : WM l yL_sublease cL_sublease 5 (some .int) [(0, 10, 13, 21), (0, 10, 17, 13)] 9 mc ms g V L [.ref (ad g 223), .int (xs (i + 1)), .int (xs (i + 2)), .ref (ad g 230)] (some (.int (nI k))) V1 L1) (hM : MC l yX7_sublease cX7_sublease 3 (some .int) 6 g V1 L1 [.ref (ad g 224), .int (xs (i + 1)), .int (xs (i + 2))] (some (.int b)) V2 L2) (ht : V2 224 6 = nI k) (hk : k < 4) (hb : k = 0 → L2 1 = b.toInt64) (hc : cells + mc ≤ 601024) (hs : slots + ms ≤ 7293033) (kx : J p l e room_1 s m args below meth c 9 g (cells + mc) (slots + ms) Q V2 L2 1713 (LVL g b0 i) []) : J p l e room_1 s m args below meth c 9 g cells slots Q V L 930 (LVL g b0 i) [] := by
  refine j_aload_n C dL_law_930 rfl rfl ?_
  refine j_aload_n C dL_law_931 rfl rfl ?_
  refine j_iload C dL_law_932 rfl ?_
  refine j_iconst (v := nI 1) C dL_law_934 (by decide) ?_
  refine j_iaddN C dL_law_935 ?_
  refine j_sld C X (by omega) dL_law_936 ?_
  refine j_aload_n C dL_law_937 rfl rfl ?_
  refine j_iload C dL_law_938 rfl ?_
  refine j_iconst (v := nI 2) C dL_law_940 (by decide) ?_
  refine j_iaddN C dL_law_941 ?_
  refine j_sld C X (by omega) dL_law_942 ?_
  refine j_aload_n C dL_law_943 rfl rfl ?_
  refine j_callW C hW qm_L_139 qt_L_sublease qn_L qc_L_sublease fit_L_sublease ⟨Nat.le_of_ble_eq_true rfl, Nat.le_of_ble_eq_true rfl, hc, hs⟩ (Nat.le_of_ble_eq_true rfl) dL_law_944 rfl ?_
  refine j_ist5 C dL_law_947 (by decide) rfl ?_
  refine j_aload_n C dL_law_949 rfl rfl ?_
  refine j_aload_n C dL_law_950 rfl rfl ?_
  refine j_iload C dL_law_951 rfl ?_
  refine j_iconst (v := nI 1) C dL_law_953 (by decide) ?_
  refine j_iaddN C dL_law_954 ?_
  refine j_sld C X (by omega) dL_law_955 ?_
  refine j_aload_n C dL_law_956 rfl rfl ?_
  refine j_iload C dL_law_957 rfl ?_
  refine j_iconst (v := nI 2) C dL_law_959 (by decide) ?_
  refine j_iaddN C dL_law_960 ?_
  refine j_sld C X (by omega) dL_law_961 ?_
  refine j_callV2r C (oa_X7 rfl) rfl rfl hM qm_L_141 qi_X7_sublease qs_X7_sublease qn_X7 qc_X7_sublease fit_X7_sublease ⟨Nat.le_of_ble_eq_true rfl, Nat.le_of_ble_eq_true rfl, hc, hs⟩ (Nat.le_of_ble_eq_true rfl) dL_law_962 ?_
  refine j_ist6 C dL_law_965 (by decide) rfl ?_
  refine j_aload_n C dL_law_967 rfl rfl ?_
  refine j_callV0r C (oa_X7 rfl) rfl rfl (c_X7_thrown) qm_L_94 qi_X7_thrown qs_X7_thrown qn_X7 qc_X7_thrown fit_X7_thrown ⟨Nat.le_of_ble_eq_true rfl, Nat.le_of_ble_eq_true rfl, hc, hs⟩ (Nat.le_of_ble_eq_true rfl) dL_law_968 ?_
  refine j_iload C dL_law_971 rfl ?_
  refine j_icmp_eq (tgt := 978) C dL_law_973 (by decide) (fun _ => ?_) (fun z => absurd ht z)
  refine j_iload C dL_law_978 rfl ?_
  have out : J p l e room_1 s m args below meth c 9 g (cells + mc) (slots + ms) Q V2 L2 995 [some (.ref b0), some (.ref (ad g 223)), some (.ref (ad g 224)), some (.ref (ad g 230)), some (.int (nI i)), some (.int (nI k)), some (.int b), none, none] [] := by
    refine j_goto (tgt := 1713) C dL_law_995 (by decide) ?_
    exact j_le lvl_le kx
  refine j_if_ne (tgt := 995) C dL_law_980 (by decide) (fun _ => out) (fun z => ?_)
  have hk0 : k = 0 := (nI_eq (show k < 2 ^ 31 by omega) (show 0 < 2 ^ 31 by omega)).mp z
  refine j_aload_n C dL_law_983 rfl rfl ?_
  refine j_iconst (v := 0) C dL_law_984 (by decide) ?_
  refine j_lald C rfl dL_law_985 ?_
  refine j_iload C dL_law_986 rfl ?_
  refine j_i2l C dL_law_988 ?_
  refine j_lcmp C dL_law_989 ?_
  exact j_if_eq (tgt := 995) C dL_law_990 (by decide) (fun _ => out) (fun z => absurd (lcmp_0 (hb hk0)) z)
set_option maxHeartbeats 4000000 in
theorem blk_movement (C : Cx p s args m meth c cL_law 9 RL (some .boolean) g) (X : SX s g b0 N xs) {k : Nat} {b : Int32} (hi : i + 2 < N) (hW : WM l yL_movement cL_movement 5 (some .int) [(0, 10, 13, 21), (0, 10, 17, 13)] 9 mc ms g V L [.ref (ad g 223), .int (xs (i + 1)), .int (xs (i + 2)), .ref (ad g 230)] (some (.int (nI k))) V1 L1) (hM : MC l yX7_movement cX7_movement 3 (some .int) 6 g V1 L1 [.ref (ad g 224), .int (xs (i + 1)), .int (xs (i + 2))] (some (.int b)) V2 L2) (ht : V2 224 6 = nI k) (hk : k < 4) (hb : k = 0 → L2 1 = b.toInt64) (hc : cells + mc ≤ 601024) (hs : slots + ms ≤ 7293033) (kx : J p l e room_1 s m args below meth c 9 g (cells + mc) (slots + ms) Q V2 L2 1713 (LVL g b0 i) []) : J p l e room_1 s m args below meth c 9 g cells slots Q V L 998 (LVL g b0 i) [] := by
  refine j_aload_n C dL_law_998 rfl rfl ?_
  refine j_aload_n C dL_law_999 rfl rfl ?_
  refine j_iload C dL_law_1000 rfl ?_
  refine j_iconst (v := nI 1) C dL_law_1002 (by decide) ?_
  refine j_iaddN C dL_law_1003 ?_
  refine j_sld C X (by omega) dL_law_1004 ?_
  refine j_aload_n C dL_law_1005 rfl rfl ?_
  refine j_iload C dL_law_1006 rfl ?_
  refine j_iconst (v := nI 2) C dL_law_1008 (by decide) ?_
  refine j_iaddN C dL_law_1009 ?_
  refine j_sld C X (by omega) dL_law_1010 ?_
  refine j_aload_n C dL_law_1011 rfl rfl ?_
  refine j_callW C hW qm_L_142 qt_L_movement qn_L qc_L_movement fit_L_movement ⟨Nat.le_of_ble_eq_true rfl, Nat.le_of_ble_eq_true rfl, hc, hs⟩ (Nat.le_of_ble_eq_true rfl) dL_law_1012 rfl ?_
  refine j_ist5 C dL_law_1015 (by decide) rfl ?_
  refine j_aload_n C dL_law_1017 rfl rfl ?_
  refine j_aload_n C dL_law_1018 rfl rfl ?_
  refine j_iload C dL_law_1019 rfl ?_
  refine j_iconst (v := nI 1) C dL_law_1021 (by decide) ?_
  refine j_iaddN C dL_law_1022 ?_
  refine j_sld C X (by omega) dL_law_1023 ?_
  refine j_aload_n C dL_law_1024 rfl rfl ?_
  refine j_iload C dL_law_1025 rfl ?_
  refine j_iconst (v := nI 2) C dL_law_1027 (by decide) ?_
  refine j_iaddN C dL_law_1028 ?_
  refine j_sld C X (by omega) dL_law_1029 ?_
  refine j_callV2r C (oa_X7 rfl) rfl rfl hM qm_L_144 qi_X7_movement qs_X7_movement qn_X7 qc_X7_movement fit_X7_movement ⟨Nat.le_of_ble_eq_true rfl, Nat.le_of_ble_eq_true rfl, hc, hs⟩ (Nat.le_of_ble_eq_true rfl) dL_law_1030 ?_
  refine j_ist6 C dL_law_1033 (by decide) rfl ?_
  refine j_aload_n C dL_law_1035 rfl rfl ?_
  refine j_callV0r C (oa_X7 rfl) rfl rfl (c_X7_thrown) qm_L_94 qi_X7_thrown qs_X7_thrown qn_X7 qc_X7_thrown fit_X7_thrown ⟨Nat.le_of_ble_eq_true rfl, Nat.le_of_ble_eq_true rfl, hc, hs⟩ (Nat.le_of_ble_eq_true rfl) dL_law_1036 ?_
  refine j_iload C dL_law_1039 rfl ?_
  refine j_icmp_eq (tgt := 1046) C dL_law_1041 (by decide) (fun _ => ?_) (fun z => absurd ht z)
  refine j_iload C dL_law_1046 rfl ?_
  have out : J p l e room_1 s m args below meth c 9 g (cells + mc) (slots + ms) Q V2 L2 1063 [some (.ref b0), some (.ref (ad g 223)), some (.ref (ad g 224)), some (.ref (ad g 230)), some (.int (nI i)), some (.int (nI k)), some (.int b), none, none] [] := by
    refine j_goto (tgt := 1713) C dL_law_1063 (by decide) ?_
    exact j_le lvl_le kx
  refine j_if_ne (tgt := 1063) C dL_law_1048 (by decide) (fun _ => out) (fun z => ?_)
  have hk0 : k = 0 := (nI_eq (show k < 2 ^ 31 by omega) (show 0 < 2 ^ 31 by omega)).mp z
  refine j_aload_n C dL_law_1051 rfl rfl ?_
  refine j_iconst (v := 0) C dL_law_1052 (by decide) ?_
  refine j_lald C rfl dL_law_1053 ?_
  refine j_iload C dL_law_1054 rfl ?_
  refine j_i2l C dL_law_1056 ?_
  refine j_lcmp C dL_law_1057 ?_
  exact j_if_eq (tgt := 1063) C dL_law_1058 (by decide) (fun _ => out) (fun z => absurd (lcmp_0 (hb hk0)) z)
set_option maxHeartbeats 4000000 in
theorem blk_profit (C : Cx p s args m meth c cL_law 9 RL (some .boolean) g) (X : SX s g b0 N xs) {k : Nat} {b : Int32} (hi : i + 2 < N) (hW : WM l yL_profit cL_profit 5 (some .int) [(0, 10, 13, 21), (0, 10, 17, 13)] 9 mc ms g V L [.ref (ad g 223), .int (xs (i + 1)), .int (xs (i + 2)), .ref (ad g 230)] (some (.int (nI k))) V1 L1) (hM : MC l yX7_profit cX7_profit 3 (some .int) 6 g V1 L1 [.ref (ad g 224), .int (xs (i + 1)), .int (xs (i + 2))] (some (.int b)) V2 L2) (ht : V2 224 6 = nI k) (hk : k < 4) (hb : k = 0 → L2 1 = b.toInt64) (hc : cells + mc ≤ 601024) (hs : slots + ms ≤ 7293033) (kx : J p l e room_1 s m args below meth c 9 g (cells + mc) (slots + ms) Q V2 L2 1713 (LVL g b0 i) []) : J p l e room_1 s m args below meth c 9 g cells slots Q V L 1066 (LVL g b0 i) [] := by
  refine j_aload_n C dL_law_1066 rfl rfl ?_
  refine j_aload_n C dL_law_1067 rfl rfl ?_
  refine j_iload C dL_law_1068 rfl ?_
  refine j_iconst (v := nI 1) C dL_law_1070 (by decide) ?_
  refine j_iaddN C dL_law_1071 ?_
  refine j_sld C X (by omega) dL_law_1072 ?_
  refine j_aload_n C dL_law_1073 rfl rfl ?_
  refine j_iload C dL_law_1074 rfl ?_
  refine j_iconst (v := nI 2) C dL_law_1076 (by decide) ?_
  refine j_iaddN C dL_law_1077 ?_
  refine j_sld C X (by omega) dL_law_1078 ?_
  refine j_aload_n C dL_law_1079 rfl rfl ?_
  refine j_callW C hW qm_L_145 qt_L_profit qn_L qc_L_profit fit_L_profit ⟨Nat.le_of_ble_eq_true rfl, Nat.le_of_ble_eq_true rfl, hc, hs⟩ (Nat.le_of_ble_eq_true rfl) dL_law_1080 rfl ?_
  refine j_ist5 C dL_law_1083 (by decide) rfl ?_
  refine j_aload_n C dL_law_1085 rfl rfl ?_
  refine j_aload_n C dL_law_1086 rfl rfl ?_
  refine j_iload C dL_law_1087 rfl ?_
  refine j_iconst (v := nI 1) C dL_law_1089 (by decide) ?_
  refine j_iaddN C dL_law_1090 ?_
  refine j_sld C X (by omega) dL_law_1091 ?_
  refine j_aload_n C dL_law_1092 rfl rfl ?_
  refine j_iload C dL_law_1093 rfl ?_
  refine j_iconst (v := nI 2) C dL_law_1095 (by decide) ?_
  refine j_iaddN C dL_law_1096 ?_
  refine j_sld C X (by omega) dL_law_1097 ?_
  refine j_callV2r C (oa_X7 rfl) rfl rfl hM qm_L_147 qi_X7_profit qs_X7_profit qn_X7 qc_X7_profit fit_X7_profit ⟨Nat.le_of_ble_eq_true rfl, Nat.le_of_ble_eq_true rfl, hc, hs⟩ (Nat.le_of_ble_eq_true rfl) dL_law_1098 ?_
  refine j_ist6 C dL_law_1101 (by decide) rfl ?_
  refine j_aload_n C dL_law_1103 rfl rfl ?_
  refine j_callV0r C (oa_X7 rfl) rfl rfl (c_X7_thrown) qm_L_94 qi_X7_thrown qs_X7_thrown qn_X7 qc_X7_thrown fit_X7_thrown ⟨Nat.le_of_ble_eq_true rfl, Nat.le_of_ble_eq_true rfl, hc, hs⟩ (Nat.le_of_ble_eq_true rfl) dL_law_1104 ?_
  refine j_iload C dL_law_1107 rfl ?_
  refine j_icmp_eq (tgt := 1114) C dL_law_1109 (by decide) (fun _ => ?_) (fun z => absurd ht z)
  refine j_iload C dL_law_1114 rfl ?_
  have out : J p l e room_1 s m args below meth c 9 g (cells + mc) (slots + ms) Q V2 L2 1131 [some (.ref b0), some (.ref (ad g 223)), some (.ref (ad g 224)), some (.ref (ad g 230)), some (.int (nI i)), some (.int (nI k)), some (.int b), none, none] [] := by
    refine j_goto (tgt := 1713) C dL_law_1131 (by decide) ?_
    exact j_le lvl_le kx
  refine j_if_ne (tgt := 1131) C dL_law_1116 (by decide) (fun _ => out) (fun z => ?_)
  have hk0 : k = 0 := (nI_eq (show k < 2 ^ 31 by omega) (show 0 < 2 ^ 31 by omega)).mp z
  refine j_aload_n C dL_law_1119 rfl rfl ?_
  refine j_iconst (v := 0) C dL_law_1120 (by decide) ?_
  refine j_lald C rfl dL_law_1121 ?_
  refine j_iload C dL_law_1122 rfl ?_
  refine j_i2l C dL_law_1124 ?_
  refine j_lcmp C dL_law_1125 ?_
  exact j_if_eq (tgt := 1131) C dL_law_1126 (by decide) (fun _ => out) (fun z => absurd (lcmp_0 (hb hk0)) z)
set_option maxHeartbeats 4000000 in
theorem blk_count (C : Cx p s args m meth c cL_law 9 RL (some .boolean) g) (X : SX s g b0 N xs) {k : Nat} {b : Int32} (hi : i + 1 < N) (hW : WM l yL_count cL_count 4 (some .int) [(0, 9, 12, 13)] 9 mc ms g V L [.ref (ad g 223), .int (xs (i + 1)), .ref (ad g 230)] (some (.int (nI k))) V1 L1) (hM : MC l yX7_count cX7_count 2 (some .int) 6 g V1 L1 [.ref (ad g 224), .int (xs (i + 1))] (some (.int b)) V2 L2) (ht : V2 224 6 = nI k) (hk : k < 4) (hb : k = 0 → L2 1 = b.toInt64) (hc : cells + mc ≤ 601024) (hs : slots + ms ≤ 7293033) (kx : J p l e room_1 s m args below meth c 9 g (cells + mc) (slots + ms) Q V2 L2 1713 (LVL g b0 i) []) : J p l e room_1 s m args below meth c 9 g cells slots Q V L 1134 (LVL g b0 i) [] := by
  refine j_aload_n C dL_law_1134 rfl rfl ?_
  refine j_aload_n C dL_law_1135 rfl rfl ?_
  refine j_iload C dL_law_1136 rfl ?_
  refine j_iconst (v := nI 1) C dL_law_1138 (by decide) ?_
  refine j_iaddN C dL_law_1139 ?_
  refine j_sld C X (by omega) dL_law_1140 ?_
  refine j_aload_n C dL_law_1141 rfl rfl ?_
  refine j_callW C hW qm_L_148 qt_L_count qn_L qc_L_count fit_L_count ⟨Nat.le_of_ble_eq_true rfl, Nat.le_of_ble_eq_true rfl, hc, hs⟩ (Nat.le_of_ble_eq_true rfl) dL_law_1142 rfl ?_
  refine j_ist5 C dL_law_1145 (by decide) rfl ?_
  refine j_aload_n C dL_law_1147 rfl rfl ?_
  refine j_aload_n C dL_law_1148 rfl rfl ?_
  refine j_iload C dL_law_1149 rfl ?_
  refine j_iconst (v := nI 1) C dL_law_1151 (by decide) ?_
  refine j_iaddN C dL_law_1152 ?_
  refine j_sld C X (by omega) dL_law_1153 ?_
  refine j_callV1r C (oa_X7 rfl) rfl rfl hM qm_L_150 qi_X7_count qs_X7_count qn_X7 qc_X7_count fit_X7_count ⟨Nat.le_of_ble_eq_true rfl, Nat.le_of_ble_eq_true rfl, hc, hs⟩ (Nat.le_of_ble_eq_true rfl) dL_law_1154 ?_
  refine j_ist6 C dL_law_1157 (by decide) rfl ?_
  refine j_aload_n C dL_law_1159 rfl rfl ?_
  refine j_callV0r C (oa_X7 rfl) rfl rfl (c_X7_thrown) qm_L_94 qi_X7_thrown qs_X7_thrown qn_X7 qc_X7_thrown fit_X7_thrown ⟨Nat.le_of_ble_eq_true rfl, Nat.le_of_ble_eq_true rfl, hc, hs⟩ (Nat.le_of_ble_eq_true rfl) dL_law_1160 ?_
  refine j_iload C dL_law_1163 rfl ?_
  refine j_icmp_eq (tgt := 1170) C dL_law_1165 (by decide) (fun _ => ?_) (fun z => absurd ht z)
  refine j_iload C dL_law_1170 rfl ?_
  have out : J p l e room_1 s m args below meth c 9 g (cells + mc) (slots + ms) Q V2 L2 1187 [some (.ref b0), some (.ref (ad g 223)), some (.ref (ad g 224)), some (.ref (ad g 230)), some (.int (nI i)), some (.int (nI k)), some (.int b), none, none] [] := by
    refine j_goto (tgt := 1713) C dL_law_1187 (by decide) ?_
    exact j_le lvl_le kx
  refine j_if_ne (tgt := 1187) C dL_law_1172 (by decide) (fun _ => out) (fun z => ?_)
  have hk0 : k = 0 := (nI_eq (show k < 2 ^ 31 by omega) (show 0 < 2 ^ 31 by omega)).mp z
  refine j_aload_n C dL_law_1175 rfl rfl ?_
  refine j_iconst (v := 0) C dL_law_1176 (by decide) ?_
  refine j_lald C rfl dL_law_1177 ?_
  refine j_iload C dL_law_1178 rfl ?_
  refine j_i2l C dL_law_1180 ?_
  refine j_lcmp C dL_law_1181 ?_
  exact j_if_eq (tgt := 1187) C dL_law_1182 (by decide) (fun _ => out) (fun z => absurd (lcmp_0 (hb hk0)) z)
set_option maxHeartbeats 4000000 in
theorem blk_worth (C : Cx p s args m meth c cL_law 9 RL (some .boolean) g) (X : SX s g b0 N xs) {k : Nat} {b : Int32} (hi : i + 3 < N) (hW : WM l yL_worth cL_worth 6 (some .int) [(0, 12, 15, 13)] 9 mc ms g V L [.ref (ad g 223), .int (xs (i + 1)), .int (xs (i + 2)), .int (xs (i + 3)), .ref (ad g 230)] (some (.int (nI k))) V1 L1) (hM : MC l yX7_worth cX7_worth 4 (some .int) 6 g V1 L1 [.ref (ad g 224), .int (xs (i + 1)), .int (xs (i + 2)), .int (xs (i + 3))] (some (.int b)) V2 L2) (ht : V2 224 6 = nI k) (hk : k < 4) (hb : k = 0 → L2 1 = b.toInt64) (hc : cells + mc ≤ 601024) (hs : slots + ms ≤ 7293033) (kx : J p l e room_1 s m args below meth c 9 g (cells + mc) (slots + ms) Q V2 L2 1713 (LVL g b0 i) []) : J p l e room_1 s m args below meth c 9 g cells slots Q V L 1190 (LVL g b0 i) [] := by
  refine j_aload_n C dL_law_1190 rfl rfl ?_
  refine j_aload_n C dL_law_1191 rfl rfl ?_
  refine j_iload C dL_law_1192 rfl ?_
  refine j_iconst (v := nI 1) C dL_law_1194 (by decide) ?_
  refine j_iaddN C dL_law_1195 ?_
  refine j_sld C X (by omega) dL_law_1196 ?_
  refine j_aload_n C dL_law_1197 rfl rfl ?_
  refine j_iload C dL_law_1198 rfl ?_
  refine j_iconst (v := nI 2) C dL_law_1200 (by decide) ?_
  refine j_iaddN C dL_law_1201 ?_
  refine j_sld C X (by omega) dL_law_1202 ?_
  refine j_aload_n C dL_law_1203 rfl rfl ?_
  refine j_iload C dL_law_1204 rfl ?_
  refine j_iconst (v := nI 3) C dL_law_1206 (by decide) ?_
  refine j_iaddN C dL_law_1207 ?_
  refine j_sld C X (by omega) dL_law_1208 ?_
  refine j_aload_n C dL_law_1209 rfl rfl ?_
  refine j_callW C hW qm_L_151 qt_L_worth qn_L qc_L_worth fit_L_worth ⟨Nat.le_of_ble_eq_true rfl, Nat.le_of_ble_eq_true rfl, hc, hs⟩ (Nat.le_of_ble_eq_true rfl) dL_law_1210 rfl ?_
  refine j_ist5 C dL_law_1213 (by decide) rfl ?_
  refine j_aload_n C dL_law_1215 rfl rfl ?_
  refine j_aload_n C dL_law_1216 rfl rfl ?_
  refine j_iload C dL_law_1217 rfl ?_
  refine j_iconst (v := nI 1) C dL_law_1219 (by decide) ?_
  refine j_iaddN C dL_law_1220 ?_
  refine j_sld C X (by omega) dL_law_1221 ?_
  refine j_aload_n C dL_law_1222 rfl rfl ?_
  refine j_iload C dL_law_1223 rfl ?_
  refine j_iconst (v := nI 2) C dL_law_1225 (by decide) ?_
  refine j_iaddN C dL_law_1226 ?_
  refine j_sld C X (by omega) dL_law_1227 ?_
  refine j_aload_n C dL_law_1228 rfl rfl ?_
  refine j_iload C dL_law_1229 rfl ?_
  refine j_iconst (v := nI 3) C dL_law_1231 (by decide) ?_
  refine j_iaddN C dL_law_1232 ?_
  refine j_sld C X (by omega) dL_law_1233 ?_
  refine j_callV3r C (oa_X7 rfl) rfl rfl hM qm_L_153 qi_X7_worth qs_X7_worth qn_X7 qc_X7_worth fit_X7_worth ⟨Nat.le_of_ble_eq_true rfl, Nat.le_of_ble_eq_true rfl, hc, hs⟩ (Nat.le_of_ble_eq_true rfl) dL_law_1234 ?_
  refine j_ist6 C dL_law_1237 (by decide) rfl ?_
  refine j_aload_n C dL_law_1239 rfl rfl ?_
  refine j_callV0r C (oa_X7 rfl) rfl rfl (c_X7_thrown) qm_L_94 qi_X7_thrown qs_X7_thrown qn_X7 qc_X7_thrown fit_X7_thrown ⟨Nat.le_of_ble_eq_true rfl, Nat.le_of_ble_eq_true rfl, hc, hs⟩ (Nat.le_of_ble_eq_true rfl) dL_law_1240 ?_
  refine j_iload C dL_law_1243 rfl ?_
  refine j_icmp_eq (tgt := 1250) C dL_law_1245 (by decide) (fun _ => ?_) (fun z => absurd ht z)
  refine j_iload C dL_law_1250 rfl ?_
  have out : J p l e room_1 s m args below meth c 9 g (cells + mc) (slots + ms) Q V2 L2 1267 [some (.ref b0), some (.ref (ad g 223)), some (.ref (ad g 224)), some (.ref (ad g 230)), some (.int (nI i)), some (.int (nI k)), some (.int b), none, none] [] := by
    refine j_goto (tgt := 1713) C dL_law_1267 (by decide) ?_
    exact j_le lvl_le kx
  refine j_if_ne (tgt := 1267) C dL_law_1252 (by decide) (fun _ => out) (fun z => ?_)
  have hk0 : k = 0 := (nI_eq (show k < 2 ^ 31 by omega) (show 0 < 2 ^ 31 by omega)).mp z
  refine j_aload_n C dL_law_1255 rfl rfl ?_
  refine j_iconst (v := 0) C dL_law_1256 (by decide) ?_
  refine j_lald C rfl dL_law_1257 ?_
  refine j_iload C dL_law_1258 rfl ?_
  refine j_i2l C dL_law_1260 ?_
  refine j_lcmp C dL_law_1261 ?_
  exact j_if_eq (tgt := 1267) C dL_law_1262 (by decide) (fun _ => out) (fun z => absurd (lcmp_0 (hb hk0)) z)
set_option maxHeartbeats 4000000 in
theorem blk_plan (C : Cx p s args m meth c cL_law 9 RL (some .boolean) g) (X : SX s g b0 N xs) {k : Nat} {b : Int32} (hi : i + 3 < N) (hW : WM l yL_plan cL_plan 6 (some .int) [(0, 12, 15, 21), (0, 12, 19, 13)] 9 mc ms g V L [.ref (ad g 223), .int (xs (i + 1)), .int (xs (i + 2)), .int (xs (i + 3)), .ref (ad g 230)] (some (.int (nI k))) V1 L1) (hM : MC l yX7_plan cX7_plan 4 (some .int) 6 g V1 L1 [.ref (ad g 224), .int (xs (i + 1)), .int (xs (i + 2)), .int (xs (i + 3))] (some (.int b)) V2 L2) (ht : V2 224 6 = nI k) (hk : k < 4) (hb : k = 0 → L2 1 = b.toInt64) (hc : cells + mc ≤ 601024) (hs : slots + ms ≤ 7293033) (kx : J p l e room_1 s m args below meth c 9 g (cells + mc) (slots + ms) Q V2 L2 1713 (LVL g b0 i) []) : J p l e room_1 s m args below meth c 9 g cells slots Q V L 1270 (LVL g b0 i) [] := by
  refine j_aload_n C dL_law_1270 rfl rfl ?_
  refine j_aload_n C dL_law_1271 rfl rfl ?_
  refine j_iload C dL_law_1272 rfl ?_
  refine j_iconst (v := nI 1) C dL_law_1274 (by decide) ?_
  refine j_iaddN C dL_law_1275 ?_
  refine j_sld C X (by omega) dL_law_1276 ?_
  refine j_aload_n C dL_law_1277 rfl rfl ?_
  refine j_iload C dL_law_1278 rfl ?_
  refine j_iconst (v := nI 2) C dL_law_1280 (by decide) ?_
  refine j_iaddN C dL_law_1281 ?_
  refine j_sld C X (by omega) dL_law_1282 ?_
  refine j_aload_n C dL_law_1283 rfl rfl ?_
  refine j_iload C dL_law_1284 rfl ?_
  refine j_iconst (v := nI 3) C dL_law_1286 (by decide) ?_
  refine j_iaddN C dL_law_1287 ?_
  refine j_sld C X (by omega) dL_law_1288 ?_
  refine j_aload_n C dL_law_1289 rfl rfl ?_
  refine j_callW C hW qm_L_154 qt_L_plan qn_L qc_L_plan fit_L_plan ⟨Nat.le_of_ble_eq_true rfl, Nat.le_of_ble_eq_true rfl, hc, hs⟩ (Nat.le_of_ble_eq_true rfl) dL_law_1290 rfl ?_
  refine j_ist5 C dL_law_1293 (by decide) rfl ?_
  refine j_aload_n C dL_law_1295 rfl rfl ?_
  refine j_aload_n C dL_law_1296 rfl rfl ?_
  refine j_iload C dL_law_1297 rfl ?_
  refine j_iconst (v := nI 1) C dL_law_1299 (by decide) ?_
  refine j_iaddN C dL_law_1300 ?_
  refine j_sld C X (by omega) dL_law_1301 ?_
  refine j_aload_n C dL_law_1302 rfl rfl ?_
  refine j_iload C dL_law_1303 rfl ?_
  refine j_iconst (v := nI 2) C dL_law_1305 (by decide) ?_
  refine j_iaddN C dL_law_1306 ?_
  refine j_sld C X (by omega) dL_law_1307 ?_
  refine j_aload_n C dL_law_1308 rfl rfl ?_
  refine j_iload C dL_law_1309 rfl ?_
  refine j_iconst (v := nI 3) C dL_law_1311 (by decide) ?_
  refine j_iaddN C dL_law_1312 ?_
  refine j_sld C X (by omega) dL_law_1313 ?_
  refine j_callV3r C (oa_X7 rfl) rfl rfl hM qm_L_156 qi_X7_plan qs_X7_plan qn_X7 qc_X7_plan fit_X7_plan ⟨Nat.le_of_ble_eq_true rfl, Nat.le_of_ble_eq_true rfl, hc, hs⟩ (Nat.le_of_ble_eq_true rfl) dL_law_1314 ?_
  refine j_ist6 C dL_law_1317 (by decide) rfl ?_
  refine j_aload_n C dL_law_1319 rfl rfl ?_
  refine j_callV0r C (oa_X7 rfl) rfl rfl (c_X7_thrown) qm_L_94 qi_X7_thrown qs_X7_thrown qn_X7 qc_X7_thrown fit_X7_thrown ⟨Nat.le_of_ble_eq_true rfl, Nat.le_of_ble_eq_true rfl, hc, hs⟩ (Nat.le_of_ble_eq_true rfl) dL_law_1320 ?_
  refine j_iload C dL_law_1323 rfl ?_
  refine j_icmp_eq (tgt := 1330) C dL_law_1325 (by decide) (fun _ => ?_) (fun z => absurd ht z)
  refine j_iload C dL_law_1330 rfl ?_
  have out : J p l e room_1 s m args below meth c 9 g (cells + mc) (slots + ms) Q V2 L2 1347 [some (.ref b0), some (.ref (ad g 223)), some (.ref (ad g 224)), some (.ref (ad g 230)), some (.int (nI i)), some (.int (nI k)), some (.int b), none, none] [] := by
    refine j_goto (tgt := 1713) C dL_law_1347 (by decide) ?_
    exact j_le lvl_le kx
  refine j_if_ne (tgt := 1347) C dL_law_1332 (by decide) (fun _ => out) (fun z => ?_)
  have hk0 : k = 0 := (nI_eq (show k < 2 ^ 31 by omega) (show 0 < 2 ^ 31 by omega)).mp z
  refine j_aload_n C dL_law_1335 rfl rfl ?_
  refine j_iconst (v := 0) C dL_law_1336 (by decide) ?_
  refine j_lald C rfl dL_law_1337 ?_
  refine j_iload C dL_law_1338 rfl ?_
  refine j_i2l C dL_law_1340 ?_
  refine j_lcmp C dL_law_1341 ?_
  exact j_if_eq (tgt := 1347) C dL_law_1342 (by decide) (fun _ => out) (fun z => absurd (lcmp_0 (hb hk0)) z)
set_option maxHeartbeats 4000000 in
theorem blk_ifMeasured (C : Cx p s args m meth c cL_law 9 RL (some .boolean) g) (X : SX s g b0 N xs) {k : Nat} {b : Int32} (hi : i + 5 < N) (hW : WM l yL_ifMeasured cL_ifMeasured 8 (some .int) [(0, 16, 19, 21), (0, 16, 23, 13)] 9 mc ms g V L [.ref (ad g 223), .int (xs (i + 1)), .int (xs (i + 2)), .int (xs (i + 3)), .int (xs (i + 4)), .int (xs (i + 5)), .ref (ad g 230)] (some (.int (nI k))) V1 L1) (hM : MC l yX7_ifMeasured cX7_ifMeasured 6 (some .int) 6 g V1 L1 [.ref (ad g 224), .int (xs (i + 1)), .int (xs (i + 2)), .int (xs (i + 3)), .int (xs (i + 4)), .int (xs (i + 5))] (some (.int b)) V2 L2) (ht : V2 224 6 = nI k) (hk : k < 4) (hb : k = 0 → L2 1 = b.toInt64) (hc : cells + mc ≤ 601024) (hs : slots + ms ≤ 7293033) (kx : J p l e room_1 s m args below meth c 9 g (cells + mc) (slots + ms) Q V2 L2 1713 (LVL g b0 i) []) : J p l e room_1 s m args below meth c 9 g cells slots Q V L 1350 (LVL g b0 i) [] := by
  refine j_aload_n C dL_law_1350 rfl rfl ?_
  refine j_aload_n C dL_law_1351 rfl rfl ?_
  refine j_iload C dL_law_1352 rfl ?_
  refine j_iconst (v := nI 1) C dL_law_1354 (by decide) ?_
  refine j_iaddN C dL_law_1355 ?_
  refine j_sld C X (by omega) dL_law_1356 ?_
  refine j_aload_n C dL_law_1357 rfl rfl ?_
  refine j_iload C dL_law_1358 rfl ?_
  refine j_iconst (v := nI 2) C dL_law_1360 (by decide) ?_
  refine j_iaddN C dL_law_1361 ?_
  refine j_sld C X (by omega) dL_law_1362 ?_
  refine j_aload_n C dL_law_1363 rfl rfl ?_
  refine j_iload C dL_law_1364 rfl ?_
  refine j_iconst (v := nI 3) C dL_law_1366 (by decide) ?_
  refine j_iaddN C dL_law_1367 ?_
  refine j_sld C X (by omega) dL_law_1368 ?_
  refine j_aload_n C dL_law_1369 rfl rfl ?_
  refine j_iload C dL_law_1370 rfl ?_
  refine j_iconst (v := nI 4) C dL_law_1372 (by decide) ?_
  refine j_iaddN C dL_law_1373 ?_
  refine j_sld C X (by omega) dL_law_1374 ?_
  refine j_aload_n C dL_law_1375 rfl rfl ?_
  refine j_iload C dL_law_1376 rfl ?_
  refine j_iconst (v := nI 5) C dL_law_1378 (by decide) ?_
  refine j_iaddN C dL_law_1379 ?_
  refine j_sld C X (by omega) dL_law_1380 ?_
  refine j_aload_n C dL_law_1381 rfl rfl ?_
  refine j_callW C hW qm_L_157 qt_L_ifMeasured qn_L qc_L_ifMeasured fit_L_ifMeasured ⟨Nat.le_of_ble_eq_true rfl, Nat.le_of_ble_eq_true rfl, hc, hs⟩ (Nat.le_of_ble_eq_true rfl) dL_law_1382 rfl ?_
  refine j_ist5 C dL_law_1385 (by decide) rfl ?_
  refine j_aload_n C dL_law_1387 rfl rfl ?_
  refine j_aload_n C dL_law_1388 rfl rfl ?_
  refine j_iload C dL_law_1389 rfl ?_
  refine j_iconst (v := nI 1) C dL_law_1391 (by decide) ?_
  refine j_iaddN C dL_law_1392 ?_
  refine j_sld C X (by omega) dL_law_1393 ?_
  refine j_aload_n C dL_law_1394 rfl rfl ?_
  refine j_iload C dL_law_1395 rfl ?_
  refine j_iconst (v := nI 2) C dL_law_1397 (by decide) ?_
  refine j_iaddN C dL_law_1398 ?_
  refine j_sld C X (by omega) dL_law_1399 ?_
  refine j_aload_n C dL_law_1400 rfl rfl ?_
  refine j_iload C dL_law_1401 rfl ?_
  refine j_iconst (v := nI 3) C dL_law_1403 (by decide) ?_
  refine j_iaddN C dL_law_1404 ?_
  refine j_sld C X (by omega) dL_law_1405 ?_
  refine j_aload_n C dL_law_1406 rfl rfl ?_
  refine j_iload C dL_law_1407 rfl ?_
  refine j_iconst (v := nI 4) C dL_law_1409 (by decide) ?_
  refine j_iaddN C dL_law_1410 ?_
  refine j_sld C X (by omega) dL_law_1411 ?_
  refine j_aload_n C dL_law_1412 rfl rfl ?_
  refine j_iload C dL_law_1413 rfl ?_
  refine j_iconst (v := nI 5) C dL_law_1415 (by decide) ?_
  refine j_iaddN C dL_law_1416 ?_
  refine j_sld C X (by omega) dL_law_1417 ?_
  refine j_callV5r C (oa_X7 rfl) rfl rfl hM qm_L_160 qi_X7_ifMeasured qs_X7_ifMeasured qn_X7 qc_X7_ifMeasured fit_X7_ifMeasured ⟨Nat.le_of_ble_eq_true rfl, Nat.le_of_ble_eq_true rfl, hc, hs⟩ (Nat.le_of_ble_eq_true rfl) dL_law_1418 ?_
  refine j_ist6 C dL_law_1421 (by decide) rfl ?_
  refine j_aload_n C dL_law_1423 rfl rfl ?_
  refine j_callV0r C (oa_X7 rfl) rfl rfl (c_X7_thrown) qm_L_94 qi_X7_thrown qs_X7_thrown qn_X7 qc_X7_thrown fit_X7_thrown ⟨Nat.le_of_ble_eq_true rfl, Nat.le_of_ble_eq_true rfl, hc, hs⟩ (Nat.le_of_ble_eq_true rfl) dL_law_1424 ?_
  refine j_iload C dL_law_1427 rfl ?_
  refine j_icmp_eq (tgt := 1434) C dL_law_1429 (by decide) (fun _ => ?_) (fun z => absurd ht z)
  refine j_iload C dL_law_1434 rfl ?_
  have out : J p l e room_1 s m args below meth c 9 g (cells + mc) (slots + ms) Q V2 L2 1451 [some (.ref b0), some (.ref (ad g 223)), some (.ref (ad g 224)), some (.ref (ad g 230)), some (.int (nI i)), some (.int (nI k)), some (.int b), none, none] [] := by
    refine j_goto (tgt := 1713) C dL_law_1451 (by decide) ?_
    exact j_le lvl_le kx
  refine j_if_ne (tgt := 1451) C dL_law_1436 (by decide) (fun _ => out) (fun z => ?_)
  have hk0 : k = 0 := (nI_eq (show k < 2 ^ 31 by omega) (show 0 < 2 ^ 31 by omega)).mp z
  refine j_aload_n C dL_law_1439 rfl rfl ?_
  refine j_iconst (v := 0) C dL_law_1440 (by decide) ?_
  refine j_lald C rfl dL_law_1441 ?_
  refine j_iload C dL_law_1442 rfl ?_
  refine j_i2l C dL_law_1444 ?_
  refine j_lcmp C dL_law_1445 ?_
  exact j_if_eq (tgt := 1451) C dL_law_1446 (by decide) (fun _ => out) (fun z => absurd (lcmp_0 (hb hk0)) z)
set_option maxHeartbeats 4000000 in
theorem blk_paymentFor (C : Cx p s args m meth c cL_law 9 RL (some .boolean) g) (X : SX s g b0 N xs) {k : Nat} {b : Int32} (hi : i + 2 < N) (hW : WM l yL_paymentFor cL_paymentFor 5 (some .int) [(0, 10, 13, 21), (0, 10, 17, 13)] 9 mc ms g V L [.ref (ad g 223), .int (xs (i + 1)), .int (xs (i + 2)), .ref (ad g 230)] (some (.int (nI k))) V1 L1) (hM : MC l yX7_paymentFor cX7_paymentFor 3 (some .int) 6 g V1 L1 [.ref (ad g 224), .int (xs (i + 1)), .int (xs (i + 2))] (some (.int b)) V2 L2) (ht : V2 224 6 = nI k) (hk : k < 4) (hb : k = 0 → L2 1 = b.toInt64) (hc : cells + mc ≤ 601024) (hs : slots + ms ≤ 7293033) (kx : J p l e room_1 s m args below meth c 9 g (cells + mc) (slots + ms) Q V2 L2 1713 (LVL g b0 i) []) : J p l e room_1 s m args below meth c 9 g cells slots Q V L 1454 (LVL g b0 i) [] := by
  refine j_aload_n C dL_law_1454 rfl rfl ?_
  refine j_aload_n C dL_law_1455 rfl rfl ?_
  refine j_iload C dL_law_1456 rfl ?_
  refine j_iconst (v := nI 1) C dL_law_1458 (by decide) ?_
  refine j_iaddN C dL_law_1459 ?_
  refine j_sld C X (by omega) dL_law_1460 ?_
  refine j_aload_n C dL_law_1461 rfl rfl ?_
  refine j_iload C dL_law_1462 rfl ?_
  refine j_iconst (v := nI 2) C dL_law_1464 (by decide) ?_
  refine j_iaddN C dL_law_1465 ?_
  refine j_sld C X (by omega) dL_law_1466 ?_
  refine j_aload_n C dL_law_1467 rfl rfl ?_
  refine j_callW C hW qm_L_161 qt_L_paymentFor qn_L qc_L_paymentFor fit_L_paymentFor ⟨Nat.le_of_ble_eq_true rfl, Nat.le_of_ble_eq_true rfl, hc, hs⟩ (Nat.le_of_ble_eq_true rfl) dL_law_1468 rfl ?_
  refine j_ist5 C dL_law_1471 (by decide) rfl ?_
  refine j_aload_n C dL_law_1473 rfl rfl ?_
  refine j_aload_n C dL_law_1474 rfl rfl ?_
  refine j_iload C dL_law_1475 rfl ?_
  refine j_iconst (v := nI 1) C dL_law_1477 (by decide) ?_
  refine j_iaddN C dL_law_1478 ?_
  refine j_sld C X (by omega) dL_law_1479 ?_
  refine j_aload_n C dL_law_1480 rfl rfl ?_
  refine j_iload C dL_law_1481 rfl ?_
  refine j_iconst (v := nI 2) C dL_law_1483 (by decide) ?_
  refine j_iaddN C dL_law_1484 ?_
  refine j_sld C X (by omega) dL_law_1485 ?_
  refine j_callV2r C (oa_X7 rfl) rfl rfl hM qm_L_163 qi_X7_paymentFor qs_X7_paymentFor qn_X7 qc_X7_paymentFor fit_X7_paymentFor ⟨Nat.le_of_ble_eq_true rfl, Nat.le_of_ble_eq_true rfl, hc, hs⟩ (Nat.le_of_ble_eq_true rfl) dL_law_1486 ?_
  refine j_ist6 C dL_law_1489 (by decide) rfl ?_
  refine j_aload_n C dL_law_1491 rfl rfl ?_
  refine j_callV0r C (oa_X7 rfl) rfl rfl (c_X7_thrown) qm_L_94 qi_X7_thrown qs_X7_thrown qn_X7 qc_X7_thrown fit_X7_thrown ⟨Nat.le_of_ble_eq_true rfl, Nat.le_of_ble_eq_true rfl, hc, hs⟩ (Nat.le_of_ble_eq_true rfl) dL_law_1492 ?_
  refine j_iload C dL_law_1495 rfl ?_
  refine j_icmp_eq (tgt := 1502) C dL_law_1497 (by decide) (fun _ => ?_) (fun z => absurd ht z)
  refine j_iload C dL_law_1502 rfl ?_
  have out : J p l e room_1 s m args below meth c 9 g (cells + mc) (slots + ms) Q V2 L2 1519 [some (.ref b0), some (.ref (ad g 223)), some (.ref (ad g 224)), some (.ref (ad g 230)), some (.int (nI i)), some (.int (nI k)), some (.int b), none, none] [] := by
    refine j_goto (tgt := 1713) C dL_law_1519 (by decide) ?_
    exact j_le lvl_le kx
  refine j_if_ne (tgt := 1519) C dL_law_1504 (by decide) (fun _ => out) (fun z => ?_)
  have hk0 : k = 0 := (nI_eq (show k < 2 ^ 31 by omega) (show 0 < 2 ^ 31 by omega)).mp z
  refine j_aload_n C dL_law_1507 rfl rfl ?_
  refine j_iconst (v := 0) C dL_law_1508 (by decide) ?_
  refine j_lald C rfl dL_law_1509 ?_
  refine j_iload C dL_law_1510 rfl ?_
  refine j_i2l C dL_law_1512 ?_
  refine j_lcmp C dL_law_1513 ?_
  exact j_if_eq (tgt := 1519) C dL_law_1514 (by decide) (fun _ => out) (fun z => absurd (lcmp_0 (hb hk0)) z)
set_option maxHeartbeats 4000000 in
theorem blk_rateWithin (C : Cx p s args m meth c cL_law 9 RL (some .boolean) g) (X : SX s g b0 N xs) {k : Nat} {b : Int32} (hi : i + 1 < N) (hW : WM l yL_rateWithin cL_rateWithin 4 (some .int) [(0, 9, 12, 21)] 9 mc ms g V L [.ref (ad g 223), .int (xs (i + 1)), .ref (ad g 230)] (some (.int (nI k))) V1 L1) (hM : MC l yX7_rateWithin cX7_rateWithin 2 (some .int) 6 g V1 L1 [.ref (ad g 224), .int (xs (i + 1))] (some (.int b)) V2 L2) (ht : V2 224 6 = nI k) (hk : k < 4) (hb : k = 0 → L2 1 = b.toInt64) (hc : cells + mc ≤ 601024) (hs : slots + ms ≤ 7293033) (kx : J p l e room_1 s m args below meth c 9 g (cells + mc) (slots + ms) Q V2 L2 1713 (LVL g b0 i) []) : J p l e room_1 s m args below meth c 9 g cells slots Q V L 1522 (LVL g b0 i) [] := by
  refine j_aload_n C dL_law_1522 rfl rfl ?_
  refine j_aload_n C dL_law_1523 rfl rfl ?_
  refine j_iload C dL_law_1524 rfl ?_
  refine j_iconst (v := nI 1) C dL_law_1526 (by decide) ?_
  refine j_iaddN C dL_law_1527 ?_
  refine j_sld C X (by omega) dL_law_1528 ?_
  refine j_aload_n C dL_law_1529 rfl rfl ?_
  refine j_callW C hW qm_L_164 qt_L_rateWithin qn_L qc_L_rateWithin fit_L_rateWithin ⟨Nat.le_of_ble_eq_true rfl, Nat.le_of_ble_eq_true rfl, hc, hs⟩ (Nat.le_of_ble_eq_true rfl) dL_law_1530 rfl ?_
  refine j_ist5 C dL_law_1533 (by decide) rfl ?_
  refine j_aload_n C dL_law_1535 rfl rfl ?_
  refine j_aload_n C dL_law_1536 rfl rfl ?_
  refine j_iload C dL_law_1537 rfl ?_
  refine j_iconst (v := nI 1) C dL_law_1539 (by decide) ?_
  refine j_iaddN C dL_law_1540 ?_
  refine j_sld C X (by omega) dL_law_1541 ?_
  refine j_callV1r C (oa_X7 rfl) rfl rfl hM qm_L_166 qi_X7_rateWithin qs_X7_rateWithin qn_X7 qc_X7_rateWithin fit_X7_rateWithin ⟨Nat.le_of_ble_eq_true rfl, Nat.le_of_ble_eq_true rfl, hc, hs⟩ (Nat.le_of_ble_eq_true rfl) dL_law_1542 ?_
  refine j_ist6 C dL_law_1545 (by decide) rfl ?_
  refine j_aload_n C dL_law_1547 rfl rfl ?_
  refine j_callV0r C (oa_X7 rfl) rfl rfl (c_X7_thrown) qm_L_94 qi_X7_thrown qs_X7_thrown qn_X7 qc_X7_thrown fit_X7_thrown ⟨Nat.le_of_ble_eq_true rfl, Nat.le_of_ble_eq_true rfl, hc, hs⟩ (Nat.le_of_ble_eq_true rfl) dL_law_1548 ?_
  refine j_iload C dL_law_1551 rfl ?_
  refine j_icmp_eq (tgt := 1558) C dL_law_1553 (by decide) (fun _ => ?_) (fun z => absurd ht z)
  refine j_iload C dL_law_1558 rfl ?_
  have out : J p l e room_1 s m args below meth c 9 g (cells + mc) (slots + ms) Q V2 L2 1575 [some (.ref b0), some (.ref (ad g 223)), some (.ref (ad g 224)), some (.ref (ad g 230)), some (.int (nI i)), some (.int (nI k)), some (.int b), none, none] [] := by
    refine j_goto (tgt := 1713) C dL_law_1575 (by decide) ?_
    exact j_le lvl_le kx
  refine j_if_ne (tgt := 1575) C dL_law_1560 (by decide) (fun _ => out) (fun z => ?_)
  have hk0 : k = 0 := (nI_eq (show k < 2 ^ 31 by omega) (show 0 < 2 ^ 31 by omega)).mp z
  refine j_aload_n C dL_law_1563 rfl rfl ?_
  refine j_iconst (v := 0) C dL_law_1564 (by decide) ?_
  refine j_lald C rfl dL_law_1565 ?_
  refine j_iload C dL_law_1566 rfl ?_
  refine j_i2l C dL_law_1568 ?_
  refine j_lcmp C dL_law_1569 ?_
  exact j_if_eq (tgt := 1575) C dL_law_1570 (by decide) (fun _ => out) (fun z => absurd (lcmp_0 (hb hk0)) z)
set_option maxHeartbeats 4000000 in
theorem blk_fairReceipt (C : Cx p s args m meth c cL_law 9 RL (some .boolean) g) (X : SX s g b0 N xs) {k : Nat} {b : Int32} (hi : i + 3 < N) (hW : WM l yL_fairReceipt cL_fairReceipt 6 (some .int) [(0, 12, 15, 21), (0, 12, 19, 13)] 9 mc ms g V L [.ref (ad g 223), .int (xs (i + 1)), .int (xs (i + 2)), .int (xs (i + 3)), .ref (ad g 230)] (some (.int (nI k))) V1 L1) (hM : MC l yX7_fairReceipt cX7_fairReceipt 4 (some .int) 6 g V1 L1 [.ref (ad g 224), .int (xs (i + 1)), .int (xs (i + 2)), .int (xs (i + 3))] (some (.int b)) V2 L2) (ht : V2 224 6 = nI k) (hk : k < 4) (hb : k = 0 → L2 1 = b.toInt64) (hc : cells + mc ≤ 601024) (hs : slots + ms ≤ 7293033) (kx : J p l e room_1 s m args below meth c 9 g (cells + mc) (slots + ms) Q V2 L2 1713 (LVL g b0 i) []) : J p l e room_1 s m args below meth c 9 g cells slots Q V L 1578 (LVL g b0 i) [] := by
  refine j_aload_n C dL_law_1578 rfl rfl ?_
  refine j_aload_n C dL_law_1579 rfl rfl ?_
  refine j_iload C dL_law_1580 rfl ?_
  refine j_iconst (v := nI 1) C dL_law_1582 (by decide) ?_
  refine j_iaddN C dL_law_1583 ?_
  refine j_sld C X (by omega) dL_law_1584 ?_
  refine j_aload_n C dL_law_1585 rfl rfl ?_
  refine j_iload C dL_law_1586 rfl ?_
  refine j_iconst (v := nI 2) C dL_law_1588 (by decide) ?_
  refine j_iaddN C dL_law_1589 ?_
  refine j_sld C X (by omega) dL_law_1590 ?_
  refine j_aload_n C dL_law_1591 rfl rfl ?_
  refine j_iload C dL_law_1592 rfl ?_
  refine j_iconst (v := nI 3) C dL_law_1594 (by decide) ?_
  refine j_iaddN C dL_law_1595 ?_
  refine j_sld C X (by omega) dL_law_1596 ?_
  refine j_aload_n C dL_law_1597 rfl rfl ?_
  refine j_callW C hW qm_L_167 qt_L_fairReceipt qn_L qc_L_fairReceipt fit_L_fairReceipt ⟨Nat.le_of_ble_eq_true rfl, Nat.le_of_ble_eq_true rfl, hc, hs⟩ (Nat.le_of_ble_eq_true rfl) dL_law_1598 rfl ?_
  refine j_ist5 C dL_law_1601 (by decide) rfl ?_
  refine j_aload_n C dL_law_1603 rfl rfl ?_
  refine j_aload_n C dL_law_1604 rfl rfl ?_
  refine j_iload C dL_law_1605 rfl ?_
  refine j_iconst (v := nI 1) C dL_law_1607 (by decide) ?_
  refine j_iaddN C dL_law_1608 ?_
  refine j_sld C X (by omega) dL_law_1609 ?_
  refine j_aload_n C dL_law_1610 rfl rfl ?_
  refine j_iload C dL_law_1611 rfl ?_
  refine j_iconst (v := nI 2) C dL_law_1613 (by decide) ?_
  refine j_iaddN C dL_law_1614 ?_
  refine j_sld C X (by omega) dL_law_1615 ?_
  refine j_aload_n C dL_law_1616 rfl rfl ?_
  refine j_iload C dL_law_1617 rfl ?_
  refine j_iconst (v := nI 3) C dL_law_1619 (by decide) ?_
  refine j_iaddN C dL_law_1620 ?_
  refine j_sld C X (by omega) dL_law_1621 ?_
  refine j_callV3r C (oa_X7 rfl) rfl rfl hM qm_L_169 qi_X7_fairReceipt qs_X7_fairReceipt qn_X7 qc_X7_fairReceipt fit_X7_fairReceipt ⟨Nat.le_of_ble_eq_true rfl, Nat.le_of_ble_eq_true rfl, hc, hs⟩ (Nat.le_of_ble_eq_true rfl) dL_law_1622 ?_
  refine j_ist6 C dL_law_1625 (by decide) rfl ?_
  refine j_aload_n C dL_law_1627 rfl rfl ?_
  refine j_callV0r C (oa_X7 rfl) rfl rfl (c_X7_thrown) qm_L_94 qi_X7_thrown qs_X7_thrown qn_X7 qc_X7_thrown fit_X7_thrown ⟨Nat.le_of_ble_eq_true rfl, Nat.le_of_ble_eq_true rfl, hc, hs⟩ (Nat.le_of_ble_eq_true rfl) dL_law_1628 ?_
  refine j_iload C dL_law_1631 rfl ?_
  refine j_icmp_eq (tgt := 1638) C dL_law_1633 (by decide) (fun _ => ?_) (fun z => absurd ht z)
  refine j_iload C dL_law_1638 rfl ?_
  have out : J p l e room_1 s m args below meth c 9 g (cells + mc) (slots + ms) Q V2 L2 1655 [some (.ref b0), some (.ref (ad g 223)), some (.ref (ad g 224)), some (.ref (ad g 230)), some (.int (nI i)), some (.int (nI k)), some (.int b), none, none] [] := by
    refine j_goto (tgt := 1713) C dL_law_1655 (by decide) ?_
    exact j_le lvl_le kx
  refine j_if_ne (tgt := 1655) C dL_law_1640 (by decide) (fun _ => out) (fun z => ?_)
  have hk0 : k = 0 := (nI_eq (show k < 2 ^ 31 by omega) (show 0 < 2 ^ 31 by omega)).mp z
  refine j_aload_n C dL_law_1643 rfl rfl ?_
  refine j_iconst (v := 0) C dL_law_1644 (by decide) ?_
  refine j_lald C rfl dL_law_1645 ?_
  refine j_iload C dL_law_1646 rfl ?_
  refine j_i2l C dL_law_1648 ?_
  refine j_lcmp C dL_law_1649 ?_
  exact j_if_eq (tgt := 1655) C dL_law_1650 (by decide) (fun _ => out) (fun z => absurd (lcmp_0 (hb hk0)) z)
set_option maxHeartbeats 4000000 in
theorem blk_offShare (C : Cx p s args m meth c cL_law 9 RL (some .boolean) g) (X : SX s g b0 N xs) {x : UInt64} (hW : MC l yX6_offShare cX6_offShare 3 (some .double) 5 g V L [.ref (ad g 223)] (some (.double x)) V1 L1) (hM : MC l yX7_offShare cX7_offShare 1 (some .double) 6 g V1 L1 [.ref (ad g 224)] (some (.double x)) V2 L2) (hx : ∀ op, Op.cmpValue (FP.dcmp x x) op = 0) (hc : cells + mc ≤ 601024) (hs : slots + ms ≤ 7293033) (kx : J p l e room_1 s m args below meth c 9 g (cells + mc) (slots + ms) Q V2 L2 1713 (LVL g b0 i) []) : J p l e room_1 s m args below meth c 9 g (cells + mc) (slots + ms) Q V L 1658 (LVL g b0 i) [] := by
  refine j_aload_n C dL_law_1658 rfl rfl ?_
  refine j_callV0r C (oa_X6 rfl) rfl rfl hW qm_L_170 qi_X6_offShare qs_X6_offShare qn_X6 qc_X6_offShare fit_X6_offShare ⟨Nat.le_of_ble_eq_true rfl, Nat.le_of_ble_eq_true rfl, hc, hs⟩ (Nat.le_of_ble_eq_true rfl) dL_law_1659 ?_
  refine j_dst5 C dL_law_1662 (by decide) rfl ?_
  refine j_aload_n C dL_law_1664 rfl rfl ?_
  refine j_callV0r C (oa_X7 rfl) rfl rfl hM qm_L_174 qi_X7_offShare qs_X7_offShare qn_X7 qc_X7_offShare fit_X7_offShare ⟨Nat.le_of_ble_eq_true rfl, Nat.le_of_ble_eq_true rfl, hc, hs⟩ (Nat.le_of_ble_eq_true rfl) dL_law_1665 ?_
  refine j_dst7 C dL_law_1668 (by decide) rfl ?_
  refine j_dload C dL_law_1670 rfl ?_
  refine j_dload C dL_law_1672 rfl ?_
  refine j_dcmp C dL_law_1674 ?_
  refine j_if_eq (tgt := 1696) C dL_law_1675 (by decide) (fun _ => ?_) (fun z => absurd (hx _) z)
  refine j_goto (tgt := 1713) C dL_law_1696 (by decide) ?_
  exact j_le lvd_le kx
set_option maxHeartbeats 4000000 in
theorem blk_digest (C : Cx p s args m meth c cL_law 9 RL (some .boolean) g) (X : SX s g b0 N xs) {x b : Int64} (hW : MC l yX6_digest cX6_digest 5 (some .long) 7 g V L [.ref (ad g 223)] (some (.long x)) V1 L1) (hM : MC l yX7_digest cX7_digest 2 (some .long) 6 g V1 L1 [.ref (ad g 224)] (some (.long b)) V2 L2) (hb : x = b) (hc : cells + mc ≤ 601024) (hs : slots + ms ≤ 7293033) (kx : J p l e room_1 s m args below meth c 9 g (cells + mc) (slots + ms) Q V2 L2 1713 (LVL g b0 i) []) : J p l e room_1 s m args below meth c 9 g (cells + mc) (slots + ms) Q V L 1699 (LVL g b0 i) [] := by
  refine j_aload_n C dL_law_1699 rfl rfl ?_
  refine j_callV0r C (oa_X6 rfl) rfl rfl hW qm_L_175 qi_X6_digest qs_X6_digest qn_X6 qc_X6_digest fit_X6_digest ⟨Nat.le_of_ble_eq_true rfl, Nat.le_of_ble_eq_true rfl, hc, hs⟩ (Nat.le_of_ble_eq_true rfl) dL_law_1700 ?_
  refine j_aload_n C dL_law_1703 rfl rfl ?_
  refine j_callV0r C (oa_X7 rfl) rfl rfl hM qm_L_179 qi_X7_digest qs_X7_digest qn_X7 qc_X7_digest fit_X7_digest ⟨Nat.le_of_ble_eq_true rfl, Nat.le_of_ble_eq_true rfl, hc, hs⟩ (Nat.le_of_ble_eq_true rfl) dL_law_1704 ?_
  refine j_lcmp C dL_law_1707 ?_
  exact j_if_eq (tgt := 1713) C dL_law_1708 (by decide) (fun _ => kx) (fun z => absurd (lcmp_0 hb) z)
end LAWB
