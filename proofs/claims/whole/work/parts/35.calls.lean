theorem mini_le {L i : Nat} (hL : L ≤ 3584) (hi : i ≤ 3600) : nI L - nI 7 < nI i ↔ L < i + 7 := by
  have e : (nI L - nI 7).toInt = (L : Int) - 7 := by
    rw [Int32.toInt_sub, nI_toInt (by omega), nI_toInt (by omega)]
    exact Int.bmod_eq_of_le (by omega) (by omega)
  rw [Int32.lt_iff_toInt_lt, e, nI_toInt (by omega)]
  omega
section ZS
variable {p : Program} {l : Launch} {e : Env} {R : Room} {s : State} {m : MethodId} {args : Array Value} {below : List Frame} {meth : Method} {c : Code} {H : Heap} {locs : List Loc} {cells slots : Nat} {Q : State → Prop}
variable {cc : ByteArray} {pc n L b : Nat} {ls : Array Slot} {rest : List Value}
theorem z_sld {xs : Nat → Int32} (hx : p.tables.exec = Jvm.exec) (hb : c.code = cc) (hX : va_X b L xs s s.heap) (hbl : b < s.heap.size) (hS : zS n s.heap.size s.heap H locs) {k : Nat} (hk : k < L) (hL : L ≤ 3584) (hdg : decode cc pc = .ok (.iaload, 1))
    (kk : W p l e R s m args below meth c H locs cells slots Q (F0 m (pc + 1) ls (.int (xs k) :: rest))) : W p l e R s m args below meth c H locs cells slots Q (F0 m pc ls (.int (nI k) :: .ref b :: rest)) := by
  refine va_sld hx hb hX hbl (Nat.not_le.mpr hbl) hS.1 (nI_vin hk (by omega)) hdg ?_
  rw [nI_clamp (by omega)]
  exact kk
theorem z_wid (h : cells = 288) (h2 : slots = 16966) {g : JFrame} (kk : W p l e R s m args below meth c H locs 288 16966 Q g) : W p l e R s m args below meth c H locs cells slots Q g := by
  subst h; subst h2; exact kk
end ZS

theorem mo_at {G : zG} {d : Nat} {σ : Sg} {M : Mm} (h : Mo G d σ M) : ∃ vs : List Value, M d = some (.inr (6, vs)) := by
  obtain ⟨t, at', w, bm, A, U, L, K, SE, SH, BU, hM, -⟩ := h
  exact ⟨_, hM.1⟩
theorem z_topl {p : Program} {l : Launch} {e : Env} {R : Room} {s : State} {m : MethodId} {args : Array Value} {below : List Frame} {meth : Method} {c : Code} {H : Heap} {locs : List Loc} {cells slots : Nat} {Q : State → Prop} {pc : Nat} {ls : Array Slot} {rest : List Value} {x y : Int64} (h : x = y) (k : W p l e R s m args below meth c H locs cells slots Q (F0 m pc ls (.long y :: rest))) : W p l e R s m args below meth c H locs cells slots Q (F0 m pc ls (.long x :: rest)) := by
  subst h; exact k

set_option maxHeartbeats 4000000 in
set_option maxRecDepth 100000 in
theorem lc_paste {p : Program} {l : Launch} {e : Env} {s : State} {m : MethodId} {below : List Frame} {meth : Method} {c : Code} {G : zG} {b L : Nat} {xs : Nat → Int32} {Q : State → Prop} (hE : zE p s m #[Value.ref b] meth c G RL cL_law 4 (some .boolean)) (hX : va_X b L xs s s.heap) (hbl : b < s.heap.size) (hL : L ≤ 3584) {i : Nat} (hi : i + 7 ≤ L) {σ : Sg} {M : Mm} {H : Heap} {locs : List Loc} {ls : Array Slot} (hH : zH G M H) (hS : zS 288 s.heap.size s.heap H locs) (hC : Cl G s.heap.size σ M) (hD : Mo G (s.heap.size + 278) σ M) (hok : sOk σ) (hl : lv_has ls 4 [(0, .ref b), (1, .ref s.heap.size), (2, .ref (s.heap.size + 278)), (3, .int (nI i))])
    (kk : ∀ (σ1 : Sg) (M1 : Mm) (H1 : Heap) (locs1 : List Loc), zH G M1 H1 → zS 288 s.heap.size s.heap H1 locs1 → Cl G s.heap.size σ1 M1 → Mo G (s.heap.size + 278) σ1 M1 → sOk σ1 → W p l e room_1 s m #[Value.ref b] below meth c H1 locs1 288 16966 Q (F0 m 868 ls [])) : W p l e room_1 s m #[Value.ref b] below meth c H locs 288 16966 Q (F0 m 144 ls []) := by
  have hx := hE.1
  have hb := hE.2.1
  refine lv_aload_n hx hb dL_law_144 rfl (lv_at hl 1 rfl) ?_
  refine lv_aload_n hx hb dL_law_145 rfl (lv_at hl 0 rfl) ?_
  refine lv_iload_n hx hb dL_law_146 rfl (lv_at hl 3 rfl) ?_
  refine n_iconst hx hb 1 dL_law_147 (by decide) ?_
  refine n_iadd hx hb dL_law_148 ?_
  refine z_sld hx hb hX hbl hS (by omega) hL dL_law_149 ?_
  refine lv_aload_n hx hb dL_law_150 rfl (lv_at hl 0 rfl) ?_
  refine lv_iload_n hx hb dL_law_151 rfl (lv_at hl 3 rfl) ?_
  refine n_iconst hx hb 2 dL_law_152 (by decide) ?_
  refine n_iadd hx hb dL_law_153 ?_
  refine z_sld hx hb hX hbl hS (by omega) hL dL_law_154 ?_
  refine lv_aload_n hx hb dL_law_155 rfl (lv_at hl 0 rfl) ?_
  refine lv_iload_n hx hb dL_law_156 rfl (lv_at hl 3 rfl) ?_
  refine n_iconst hx hb 3 dL_law_157 (by decide) ?_
  refine n_iadd hx hb dL_law_158 ?_
  refine z_sld hx hb hX hbl hS (by omega) hL dL_law_159 ?_
  refine lv_aload_n hx hb dL_law_160 rfl (lv_at hl 0 rfl) ?_
  refine lv_iload_n hx hb dL_law_161 rfl (lv_at hl 3 rfl) ?_
  refine n_iconst hx hb 4 dL_law_162 (by decide) ?_
  refine n_iadd hx hb dL_law_163 ?_
  refine z_sld hx hb hX hbl hS (by omega) hL dL_law_164 ?_
  refine lv_aload_n hx hb dL_law_165 rfl (lv_at hl 0 rfl) ?_
  refine lv_iload_n hx hb dL_law_166 rfl (lv_at hl 3 rfl) ?_
  refine n_iconst hx hb 5 dL_law_167 (by decide) ?_
  refine n_iadd hx hb dL_law_168 ?_
  refine z_sld hx hb hX hbl hS (by omega) hL dL_law_169 ?_
  refine lv_aload_n hx hb dL_law_170 rfl (lv_at hl 0 rfl) ?_
  refine lv_iload_n hx hb dL_law_171 rfl (lv_at hl 3 rfl) ?_
  refine n_bipush hx hb 6 dL_law_172 (by decide) ?_
  refine n_iadd hx hb dL_law_174 ?_
  refine z_sld hx hb hX hbl hS (by omega) hL dL_law_175 ?_
  refine z_callV (As := [.int (xs (i + 1)), .int (xs (i + 2)), .int (xs (i + 3)), .int (xs (i + 4)), .int (xs (i + 5)), .int (xs (i + 6))]) (rest := []) (st2 := .int (fPaste σ (xs (i + 1)) (xs (i + 2)) (xs (i + 3)) (xs (i + 4)) (xs (i + 5)) (xs (i + 6))).1 :: []) hE hH hS (Nat.le_refl _) hl ca_X5_paste mkL_13 (c_X5_paste l G s.heap.size M σ s.heap.size hC hok (by omega) (xs (i + 1)) (xs (i + 2)) (xs (i + 3)) (xs (i + 4)) (xs (i + 5)) (xs (i + 6))) hC.1 rfl rfl rfl rfl rfl ⟨Nat.le_of_ble_eq_true rfl, Nat.le_of_ble_eq_true rfl⟩ (Nat.le_of_ble_eq_true rfl) ⟨Nat.le_of_ble_eq_true rfl, Nat.le_of_ble_eq_true rfl⟩ dL_law_176 (fun H locs M1 hH hp hS => ?_)
  have hC1 := hp.1
  have hD1 := hD.kept (fun q q1 q2 => hp.2 q (by omega))
  have hokn : sOk (fPaste σ (xs (i + 1)) (xs (i + 2)) (xs (i + 3)) (xs (i + 4)) (xs (i + 5)) (xs (i + 6))).2 := ok_paste hok _ _ _ _ _ _
  replace hD := hD1
  refine lv_aload_n hx hb dL_law_179 rfl (lv_at hl 2 rfl) ?_
  refine lv_aload_n hx hb dL_law_180 rfl (lv_at hl 0 rfl) ?_
  refine lv_iload_n hx hb dL_law_181 rfl (lv_at hl 3 rfl) ?_
  refine n_iconst hx hb 1 dL_law_182 (by decide) ?_
  refine n_iadd hx hb dL_law_183 ?_
  refine z_sld hx hb hX hbl hS (by omega) hL dL_law_184 ?_
  refine lv_aload_n hx hb dL_law_185 rfl (lv_at hl 0 rfl) ?_
  refine lv_iload_n hx hb dL_law_186 rfl (lv_at hl 3 rfl) ?_
  refine n_iconst hx hb 2 dL_law_187 (by decide) ?_
  refine n_iadd hx hb dL_law_188 ?_
  refine z_sld hx hb hX hbl hS (by omega) hL dL_law_189 ?_
  refine lv_aload_n hx hb dL_law_190 rfl (lv_at hl 0 rfl) ?_
  refine lv_iload_n hx hb dL_law_191 rfl (lv_at hl 3 rfl) ?_
  refine n_iconst hx hb 3 dL_law_192 (by decide) ?_
  refine n_iadd hx hb dL_law_193 ?_
  refine z_sld hx hb hX hbl hS (by omega) hL dL_law_194 ?_
  refine lv_aload_n hx hb dL_law_195 rfl (lv_at hl 0 rfl) ?_
  refine lv_iload_n hx hb dL_law_196 rfl (lv_at hl 3 rfl) ?_
  refine n_iconst hx hb 4 dL_law_197 (by decide) ?_
  refine n_iadd hx hb dL_law_198 ?_
  refine z_sld hx hb hX hbl hS (by omega) hL dL_law_199 ?_
  refine lv_aload_n hx hb dL_law_200 rfl (lv_at hl 0 rfl) ?_
  refine lv_iload_n hx hb dL_law_201 rfl (lv_at hl 3 rfl) ?_
  refine n_iconst hx hb 5 dL_law_202 (by decide) ?_
  refine n_iadd hx hb dL_law_203 ?_
  refine z_sld hx hb hX hbl hS (by omega) hL dL_law_204 ?_
  refine lv_aload_n hx hb dL_law_205 rfl (lv_at hl 0 rfl) ?_
  refine lv_iload_n hx hb dL_law_206 rfl (lv_at hl 3 rfl) ?_
  refine n_bipush hx hb 6 dL_law_207 (by decide) ?_
  refine n_iadd hx hb dL_law_209 ?_
  refine z_sld hx hb hX hbl hS (by omega) hL dL_law_210 ?_
  refine z_callV (As := [.int (xs (i + 1)), .int (xs (i + 2)), .int (xs (i + 3)), .int (xs (i + 4)), .int (xs (i + 5)), .int (xs (i + 6))]) (rest := [.int (fPaste σ (xs (i + 1)) (xs (i + 2)) (xs (i + 3)) (xs (i + 4)) (xs (i + 5)) (xs (i + 6))).1]) (st2 := .int (fPaste σ (xs (i + 1)) (xs (i + 2)) (xs (i + 3)) (xs (i + 4)) (xs (i + 5)) (xs (i + 6))).1 :: [.int (fPaste σ (xs (i + 1)) (xs (i + 2)) (xs (i + 3)) (xs (i + 4)) (xs (i + 5)) (xs (i + 6))).1]) hE hH hS (Nat.le_refl _) hl ca_X6_paste mkL_17 (c_X6_paste l G s.heap.size M1 (s.heap.size + 278) σ hD hok (by omega) (xs (i + 1)) (xs (i + 2)) (xs (i + 3)) (xs (i + 4)) (xs (i + 5)) (xs (i + 6))) (mo_at hD).choose_spec rfl rfl rfl rfl rfl ⟨Nat.le_of_ble_eq_true rfl, Nat.le_of_ble_eq_true rfl⟩ (Nat.le_of_ble_eq_true rfl) ⟨Nat.le_of_ble_eq_true rfl, Nat.le_of_ble_eq_true rfl⟩ dL_law_211 (fun H locs M2 hH hp hS => ?_)
  have hC2 := hC1.kept hokn (fun q q1 q2 => hp.2 q (by omega))
  exact lv_icmp_eq (tgt := 868) hx hb dL_law_214 (by decide) (fun _ => kk _ _ _ _ hH hS hC2 hp.1 hokn) (fun h => absurd rfl h)

set_option maxHeartbeats 4000000 in
set_option maxRecDepth 100000 in
theorem lc_tear {p : Program} {l : Launch} {e : Env} {s : State} {m : MethodId} {below : List Frame} {meth : Method} {c : Code} {G : zG} {b L : Nat} {xs : Nat → Int32} {Q : State → Prop} (hE : zE p s m #[Value.ref b] meth c G RL cL_law 4 (some .boolean)) (hX : va_X b L xs s s.heap) (hbl : b < s.heap.size) (hL : L ≤ 3584) {i : Nat} (hi : i + 7 ≤ L) {σ : Sg} {M : Mm} {H : Heap} {locs : List Loc} {ls : Array Slot} (hH : zH G M H) (hS : zS 288 s.heap.size s.heap H locs) (hC : Cl G s.heap.size σ M) (hD : Mo G (s.heap.size + 278) σ M) (hok : sOk σ) (hl : lv_has ls 4 [(0, .ref b), (1, .ref s.heap.size), (2, .ref (s.heap.size + 278)), (3, .int (nI i))])
    (kk : ∀ (σ1 : Sg) (M1 : Mm) (H1 : Heap) (locs1 : List Loc), zH G M1 H1 → zS 288 s.heap.size s.heap H1 locs1 → Cl G s.heap.size σ1 M1 → Mo G (s.heap.size + 278) σ1 M1 → sOk σ1 → W p l e room_1 s m #[Value.ref b] below meth c H1 locs1 288 16966 Q (F0 m 868 ls [])) : W p l e room_1 s m #[Value.ref b] below meth c H locs 288 16966 Q (F0 m 219 ls []) := by
  have hx := hE.1
  have hb := hE.2.1
  refine lv_aload_n hx hb dL_law_219 rfl (lv_at hl 1 rfl) ?_
  refine lv_aload_n hx hb dL_law_220 rfl (lv_at hl 0 rfl) ?_
  refine lv_iload_n hx hb dL_law_221 rfl (lv_at hl 3 rfl) ?_
  refine n_iconst hx hb 1 dL_law_222 (by decide) ?_
  refine n_iadd hx hb dL_law_223 ?_
  refine z_sld hx hb hX hbl hS (by omega) hL dL_law_224 ?_
  refine z_callV (As := [.int (xs (i + 1))]) (rest := []) (st2 := .int (fTear σ (xs (i + 1))).1 :: []) hE hH hS (Nat.le_refl _) hl ca_X5_tear mkL_18 (c_X5_tear l G s.heap.size M σ s.heap.size hC hok (by omega) (xs (i + 1))) hC.1 rfl rfl rfl rfl rfl ⟨Nat.le_of_ble_eq_true rfl, Nat.le_of_ble_eq_true rfl⟩ (Nat.le_of_ble_eq_true rfl) ⟨Nat.le_of_ble_eq_true rfl, Nat.le_of_ble_eq_true rfl⟩ dL_law_225 (fun H locs M1 hH hp hS => ?_)
  have hC1 := hp.1
  have hD1 := hD.kept (fun q q1 q2 => hp.2 q (by omega))
  have hokn : sOk (fTear σ (xs (i + 1))).2 := ok_tear hok _
  replace hD := hD1
  refine lv_aload_n hx hb dL_law_228 rfl (lv_at hl 2 rfl) ?_
  refine lv_aload_n hx hb dL_law_229 rfl (lv_at hl 0 rfl) ?_
  refine lv_iload_n hx hb dL_law_230 rfl (lv_at hl 3 rfl) ?_
  refine n_iconst hx hb 1 dL_law_231 (by decide) ?_
  refine n_iadd hx hb dL_law_232 ?_
  refine z_sld hx hb hX hbl hS (by omega) hL dL_law_233 ?_
  refine z_callV (As := [.int (xs (i + 1))]) (rest := [.int (fTear σ (xs (i + 1))).1]) (st2 := .int (fTear σ (xs (i + 1))).1 :: [.int (fTear σ (xs (i + 1))).1]) hE hH hS (Nat.le_refl _) hl ca_X6_tear mkL_22 (c_X6_tear l G s.heap.size M1 (s.heap.size + 278) σ hD hok (by omega) (xs (i + 1))) (mo_at hD).choose_spec rfl rfl rfl rfl rfl ⟨Nat.le_of_ble_eq_true rfl, Nat.le_of_ble_eq_true rfl⟩ (Nat.le_of_ble_eq_true rfl) ⟨Nat.le_of_ble_eq_true rfl, Nat.le_of_ble_eq_true rfl⟩ dL_law_234 (fun H locs M2 hH hp hS => ?_)
  have hC2 := hC1.kept hokn (fun q q1 q2 => hp.2 q (by omega))
  exact lv_icmp_eq (tgt := 868) hx hb dL_law_237 (by decide) (fun _ => kk _ _ _ _ hH hS hC2 hp.1 hokn) (fun h => absurd rfl h)

set_option maxHeartbeats 4000000 in
set_option maxRecDepth 100000 in
theorem lc_coat {p : Program} {l : Launch} {e : Env} {s : State} {m : MethodId} {below : List Frame} {meth : Method} {c : Code} {G : zG} {b L : Nat} {xs : Nat → Int32} {Q : State → Prop} (hE : zE p s m #[Value.ref b] meth c G RL cL_law 4 (some .boolean)) (hX : va_X b L xs s s.heap) (hbl : b < s.heap.size) (hL : L ≤ 3584) {i : Nat} (hi : i + 7 ≤ L) {σ : Sg} {M : Mm} {H : Heap} {locs : List Loc} {ls : Array Slot} (hH : zH G M H) (hS : zS 288 s.heap.size s.heap H locs) (hC : Cl G s.heap.size σ M) (hD : Mo G (s.heap.size + 278) σ M) (hok : sOk σ) (hl : lv_has ls 4 [(0, .ref b), (1, .ref s.heap.size), (2, .ref (s.heap.size + 278)), (3, .int (nI i))])
    (kk : ∀ (σ1 : Sg) (M1 : Mm) (H1 : Heap) (locs1 : List Loc), zH G M1 H1 → zS 288 s.heap.size s.heap H1 locs1 → Cl G s.heap.size σ1 M1 → Mo G (s.heap.size + 278) σ1 M1 → sOk σ1 → W p l e room_1 s m #[Value.ref b] below meth c H1 locs1 288 16966 Q (F0 m 868 ls [])) : W p l e room_1 s m #[Value.ref b] below meth c H locs 288 16966 Q (F0 m 242 ls []) := by
  have hx := hE.1
  have hb := hE.2.1
  refine lv_aload_n hx hb dL_law_242 rfl (lv_at hl 1 rfl) ?_
  refine lv_aload_n hx hb dL_law_243 rfl (lv_at hl 0 rfl) ?_
  refine lv_iload_n hx hb dL_law_244 rfl (lv_at hl 3 rfl) ?_
  refine n_iconst hx hb 1 dL_law_245 (by decide) ?_
  refine n_iadd hx hb dL_law_246 ?_
  refine z_sld hx hb hX hbl hS (by omega) hL dL_law_247 ?_
  refine lv_aload_n hx hb dL_law_248 rfl (lv_at hl 0 rfl) ?_
  refine lv_iload_n hx hb dL_law_249 rfl (lv_at hl 3 rfl) ?_
  refine n_iconst hx hb 2 dL_law_250 (by decide) ?_
  refine n_iadd hx hb dL_law_251 ?_
  refine z_sld hx hb hX hbl hS (by omega) hL dL_law_252 ?_
  refine z_callV (As := [.int (xs (i + 1)), .int (xs (i + 2))]) (rest := []) (st2 := .int (fCoat σ (xs (i + 1)) (xs (i + 2))).1 :: []) hE hH hS (Nat.le_refl _) hl ca_X5_coat mkL_23 (c_X5_coat l G s.heap.size M σ s.heap.size hC hok (by omega) (xs (i + 1)) (xs (i + 2))) hC.1 rfl rfl rfl rfl rfl ⟨Nat.le_of_ble_eq_true rfl, Nat.le_of_ble_eq_true rfl⟩ (Nat.le_of_ble_eq_true rfl) ⟨Nat.le_of_ble_eq_true rfl, Nat.le_of_ble_eq_true rfl⟩ dL_law_253 (fun H locs M1 hH hp hS => ?_)
  have hC1 := hp.1
  have hD1 := hD.kept (fun q q1 q2 => hp.2 q (by omega))
  have hokn : sOk (fCoat σ (xs (i + 1)) (xs (i + 2))).2 := ok_coat hok _ _
  replace hD := hD1
  refine lv_aload_n hx hb dL_law_256 rfl (lv_at hl 2 rfl) ?_
  refine lv_aload_n hx hb dL_law_257 rfl (lv_at hl 0 rfl) ?_
  refine lv_iload_n hx hb dL_law_258 rfl (lv_at hl 3 rfl) ?_
  refine n_iconst hx hb 1 dL_law_259 (by decide) ?_
  refine n_iadd hx hb dL_law_260 ?_
  refine z_sld hx hb hX hbl hS (by omega) hL dL_law_261 ?_
  refine lv_aload_n hx hb dL_law_262 rfl (lv_at hl 0 rfl) ?_
  refine lv_iload_n hx hb dL_law_263 rfl (lv_at hl 3 rfl) ?_
  refine n_iconst hx hb 2 dL_law_264 (by decide) ?_
  refine n_iadd hx hb dL_law_265 ?_
  refine z_sld hx hb hX hbl hS (by omega) hL dL_law_266 ?_
  refine z_callV (As := [.int (xs (i + 1)), .int (xs (i + 2))]) (rest := [.int (fCoat σ (xs (i + 1)) (xs (i + 2))).1]) (st2 := .int (fCoat σ (xs (i + 1)) (xs (i + 2))).1 :: [.int (fCoat σ (xs (i + 1)) (xs (i + 2))).1]) hE hH hS (Nat.le_refl _) hl ca_X6_coat mkL_27 (c_X6_coat l G s.heap.size M1 (s.heap.size + 278) σ hD hok (by omega) (xs (i + 1)) (xs (i + 2))) (mo_at hD).choose_spec rfl rfl rfl rfl rfl ⟨Nat.le_of_ble_eq_true rfl, Nat.le_of_ble_eq_true rfl⟩ (Nat.le_of_ble_eq_true rfl) ⟨Nat.le_of_ble_eq_true rfl, Nat.le_of_ble_eq_true rfl⟩ dL_law_267 (fun H locs M2 hH hp hS => ?_)
  have hC2 := hC1.kept hokn (fun q q1 q2 => hp.2 q (by omega))
  exact lv_icmp_eq (tgt := 868) hx hb dL_law_270 (by decide) (fun _ => kk _ _ _ _ hH hS hC2 hp.1 hokn) (fun h => absurd rfl h)

set_option maxHeartbeats 4000000 in
set_option maxRecDepth 100000 in
theorem lc_scrape {p : Program} {l : Launch} {e : Env} {s : State} {m : MethodId} {below : List Frame} {meth : Method} {c : Code} {G : zG} {b L : Nat} {xs : Nat → Int32} {Q : State → Prop} (hE : zE p s m #[Value.ref b] meth c G RL cL_law 4 (some .boolean)) (hX : va_X b L xs s s.heap) (hbl : b < s.heap.size) (hL : L ≤ 3584) {i : Nat} (hi : i + 7 ≤ L) {σ : Sg} {M : Mm} {H : Heap} {locs : List Loc} {ls : Array Slot} (hH : zH G M H) (hS : zS 288 s.heap.size s.heap H locs) (hC : Cl G s.heap.size σ M) (hD : Mo G (s.heap.size + 278) σ M) (hok : sOk σ) (hl : lv_has ls 4 [(0, .ref b), (1, .ref s.heap.size), (2, .ref (s.heap.size + 278)), (3, .int (nI i))])
    (kk : ∀ (σ1 : Sg) (M1 : Mm) (H1 : Heap) (locs1 : List Loc), zH G M1 H1 → zS 288 s.heap.size s.heap H1 locs1 → Cl G s.heap.size σ1 M1 → Mo G (s.heap.size + 278) σ1 M1 → sOk σ1 → W p l e room_1 s m #[Value.ref b] below meth c H1 locs1 288 16966 Q (F0 m 868 ls [])) : W p l e room_1 s m #[Value.ref b] below meth c H locs 288 16966 Q (F0 m 275 ls []) := by
  have hx := hE.1
  have hb := hE.2.1
  refine lv_aload_n hx hb dL_law_275 rfl (lv_at hl 1 rfl) ?_
  refine lv_aload_n hx hb dL_law_276 rfl (lv_at hl 0 rfl) ?_
  refine lv_iload_n hx hb dL_law_277 rfl (lv_at hl 3 rfl) ?_
  refine n_iconst hx hb 1 dL_law_278 (by decide) ?_
  refine n_iadd hx hb dL_law_279 ?_
  refine z_sld hx hb hX hbl hS (by omega) hL dL_law_280 ?_
  refine lv_aload_n hx hb dL_law_281 rfl (lv_at hl 0 rfl) ?_
  refine lv_iload_n hx hb dL_law_282 rfl (lv_at hl 3 rfl) ?_
  refine n_iconst hx hb 2 dL_law_283 (by decide) ?_
  refine n_iadd hx hb dL_law_284 ?_
  refine z_sld hx hb hX hbl hS (by omega) hL dL_law_285 ?_
  refine lv_aload_n hx hb dL_law_286 rfl (lv_at hl 0 rfl) ?_
  refine lv_iload_n hx hb dL_law_287 rfl (lv_at hl 3 rfl) ?_
  refine n_iconst hx hb 3 dL_law_288 (by decide) ?_
  refine n_iadd hx hb dL_law_289 ?_
  refine z_sld hx hb hX hbl hS (by omega) hL dL_law_290 ?_
  refine z_callV (As := [.int (xs (i + 1)), .int (xs (i + 2)), .int (xs (i + 3))]) (rest := []) (st2 := .int (fScrape σ (xs (i + 1)) (xs (i + 2)) (xs (i + 3))).1 :: []) hE hH hS (Nat.le_refl _) hl ca_X5_scrape mkL_28 (c_X5_scrape l G s.heap.size M σ s.heap.size hC hok (by omega) (xs (i + 1)) (xs (i + 2)) (xs (i + 3))) hC.1 rfl rfl rfl rfl rfl ⟨Nat.le_of_ble_eq_true rfl, Nat.le_of_ble_eq_true rfl⟩ (Nat.le_of_ble_eq_true rfl) ⟨Nat.le_of_ble_eq_true rfl, Nat.le_of_ble_eq_true rfl⟩ dL_law_291 (fun H locs M1 hH hp hS => ?_)
  have hC1 := hp.1
  have hD1 := hD.kept (fun q q1 q2 => hp.2 q (by omega))
  have hokn : sOk (fScrape σ (xs (i + 1)) (xs (i + 2)) (xs (i + 3))).2 := ok_scrape hok _ _ _
  replace hD := hD1
  refine lv_aload_n hx hb dL_law_294 rfl (lv_at hl 2 rfl) ?_
  refine lv_aload_n hx hb dL_law_295 rfl (lv_at hl 0 rfl) ?_
  refine lv_iload_n hx hb dL_law_296 rfl (lv_at hl 3 rfl) ?_
  refine n_iconst hx hb 1 dL_law_297 (by decide) ?_
  refine n_iadd hx hb dL_law_298 ?_
  refine z_sld hx hb hX hbl hS (by omega) hL dL_law_299 ?_
  refine lv_aload_n hx hb dL_law_300 rfl (lv_at hl 0 rfl) ?_
  refine lv_iload_n hx hb dL_law_301 rfl (lv_at hl 3 rfl) ?_
  refine n_iconst hx hb 2 dL_law_302 (by decide) ?_
  refine n_iadd hx hb dL_law_303 ?_
  refine z_sld hx hb hX hbl hS (by omega) hL dL_law_304 ?_
  refine lv_aload_n hx hb dL_law_305 rfl (lv_at hl 0 rfl) ?_
  refine lv_iload_n hx hb dL_law_306 rfl (lv_at hl 3 rfl) ?_
  refine n_iconst hx hb 3 dL_law_307 (by decide) ?_
  refine n_iadd hx hb dL_law_308 ?_
  refine z_sld hx hb hX hbl hS (by omega) hL dL_law_309 ?_
  refine z_callV (As := [.int (xs (i + 1)), .int (xs (i + 2)), .int (xs (i + 3))]) (rest := [.int (fScrape σ (xs (i + 1)) (xs (i + 2)) (xs (i + 3))).1]) (st2 := .int (fScrape σ (xs (i + 1)) (xs (i + 2)) (xs (i + 3))).1 :: [.int (fScrape σ (xs (i + 1)) (xs (i + 2)) (xs (i + 3))).1]) hE hH hS (Nat.le_refl _) hl ca_X6_scrape mkL_32 (c_X6_scrape l G s.heap.size M1 (s.heap.size + 278) σ hD hok (by omega) (xs (i + 1)) (xs (i + 2)) (xs (i + 3))) (mo_at hD).choose_spec rfl rfl rfl rfl rfl ⟨Nat.le_of_ble_eq_true rfl, Nat.le_of_ble_eq_true rfl⟩ (Nat.le_of_ble_eq_true rfl) ⟨Nat.le_of_ble_eq_true rfl, Nat.le_of_ble_eq_true rfl⟩ dL_law_310 (fun H locs M2 hH hp hS => ?_)
  have hC2 := hC1.kept hokn (fun q q1 q2 => hp.2 q (by omega))
  exact lv_icmp_eq (tgt := 868) hx hb dL_law_313 (by decide) (fun _ => kk _ _ _ _ hH hS hC2 hp.1 hokn) (fun h => absurd rfl h)

set_option maxHeartbeats 4000000 in
set_option maxRecDepth 100000 in
theorem lc_sun {p : Program} {l : Launch} {e : Env} {s : State} {m : MethodId} {below : List Frame} {meth : Method} {c : Code} {G : zG} {b L : Nat} {xs : Nat → Int32} {Q : State → Prop} (hE : zE p s m #[Value.ref b] meth c G RL cL_law 4 (some .boolean)) (hX : va_X b L xs s s.heap) (hbl : b < s.heap.size) (hL : L ≤ 3584) {i : Nat} (hi : i + 7 ≤ L) {σ : Sg} {M : Mm} {H : Heap} {locs : List Loc} {ls : Array Slot} (hH : zH G M H) (hS : zS 288 s.heap.size s.heap H locs) (hC : Cl G s.heap.size σ M) (hD : Mo G (s.heap.size + 278) σ M) (hok : sOk σ) (hl : lv_has ls 4 [(0, .ref b), (1, .ref s.heap.size), (2, .ref (s.heap.size + 278)), (3, .int (nI i))])
    (kk : ∀ (σ1 : Sg) (M1 : Mm) (H1 : Heap) (locs1 : List Loc), zH G M1 H1 → zS 288 s.heap.size s.heap H1 locs1 → Cl G s.heap.size σ1 M1 → Mo G (s.heap.size + 278) σ1 M1 → sOk σ1 → W p l e room_1 s m #[Value.ref b] below meth c H1 locs1 288 16966 Q (F0 m 868 ls [])) : W p l e room_1 s m #[Value.ref b] below meth c H locs 288 16966 Q (F0 m 318 ls []) := by
  have hx := hE.1
  have hb := hE.2.1
  refine lv_aload_n hx hb dL_law_318 rfl (lv_at hl 1 rfl) ?_
  refine lv_aload_n hx hb dL_law_319 rfl (lv_at hl 0 rfl) ?_
  refine lv_iload_n hx hb dL_law_320 rfl (lv_at hl 3 rfl) ?_
  refine n_iconst hx hb 1 dL_law_321 (by decide) ?_
  refine n_iadd hx hb dL_law_322 ?_
  refine z_sld hx hb hX hbl hS (by omega) hL dL_law_323 ?_
  refine lv_aload_n hx hb dL_law_324 rfl (lv_at hl 0 rfl) ?_
  refine lv_iload_n hx hb dL_law_325 rfl (lv_at hl 3 rfl) ?_
  refine n_iconst hx hb 2 dL_law_326 (by decide) ?_
  refine n_iadd hx hb dL_law_327 ?_
  refine z_sld hx hb hX hbl hS (by omega) hL dL_law_328 ?_
  refine z_callV (As := [.int (xs (i + 1)), .int (xs (i + 2))]) (rest := []) (st2 := .int (fSun σ (xs (i + 1)) (xs (i + 2))).1 :: []) hE hH hS (Nat.le_refl _) hl ca_X5_sun mkL_33 (c_X5_sun l G s.heap.size M σ s.heap.size hC hok (by omega) (xs (i + 1)) (xs (i + 2))) hC.1 rfl rfl rfl rfl rfl ⟨Nat.le_of_ble_eq_true rfl, Nat.le_of_ble_eq_true rfl⟩ (Nat.le_of_ble_eq_true rfl) ⟨Nat.le_of_ble_eq_true rfl, Nat.le_of_ble_eq_true rfl⟩ dL_law_329 (fun H locs M1 hH hp hS => ?_)
  have hC1 := hp.1
  have hD1 := hD.kept (fun q q1 q2 => hp.2 q (by omega))
  have hokn : sOk (fSun σ (xs (i + 1)) (xs (i + 2))).2 := ok_sun hok _ _
  replace hD := hD1
  refine lv_aload_n hx hb dL_law_332 rfl (lv_at hl 2 rfl) ?_
  refine lv_aload_n hx hb dL_law_333 rfl (lv_at hl 0 rfl) ?_
  refine lv_iload_n hx hb dL_law_334 rfl (lv_at hl 3 rfl) ?_
  refine n_iconst hx hb 1 dL_law_335 (by decide) ?_
  refine n_iadd hx hb dL_law_336 ?_
  refine z_sld hx hb hX hbl hS (by omega) hL dL_law_337 ?_
  refine lv_aload_n hx hb dL_law_338 rfl (lv_at hl 0 rfl) ?_
  refine lv_iload_n hx hb dL_law_339 rfl (lv_at hl 3 rfl) ?_
  refine n_iconst hx hb 2 dL_law_340 (by decide) ?_
  refine n_iadd hx hb dL_law_341 ?_
  refine z_sld hx hb hX hbl hS (by omega) hL dL_law_342 ?_
  refine z_callV (As := [.int (xs (i + 1)), .int (xs (i + 2))]) (rest := [.int (fSun σ (xs (i + 1)) (xs (i + 2))).1]) (st2 := .int (fSun σ (xs (i + 1)) (xs (i + 2))).1 :: [.int (fSun σ (xs (i + 1)) (xs (i + 2))).1]) hE hH hS (Nat.le_refl _) hl ca_X6_sun mkL_36 (c_X6_sun l G s.heap.size M1 (s.heap.size + 278) σ hD hok (by omega) (xs (i + 1)) (xs (i + 2))) (mo_at hD).choose_spec rfl rfl rfl rfl rfl ⟨Nat.le_of_ble_eq_true rfl, Nat.le_of_ble_eq_true rfl⟩ (Nat.le_of_ble_eq_true rfl) ⟨Nat.le_of_ble_eq_true rfl, Nat.le_of_ble_eq_true rfl⟩ dL_law_343 (fun H locs M2 hH hp hS => ?_)
  have hC2 := hC1.kept hokn (fun q q1 q2 => hp.2 q (by omega))
  exact lv_icmp_eq (tgt := 868) hx hb dL_law_346 (by decide) (fun _ => kk _ _ _ _ hH hS hC2 hp.1 hokn) (fun h => absurd rfl h)

set_option maxHeartbeats 4000000 in
set_option maxRecDepth 100000 in
theorem lc_buy {p : Program} {l : Launch} {e : Env} {s : State} {m : MethodId} {below : List Frame} {meth : Method} {c : Code} {G : zG} {b L : Nat} {xs : Nat → Int32} {Q : State → Prop} (hE : zE p s m #[Value.ref b] meth c G RL cL_law 4 (some .boolean)) (hX : va_X b L xs s s.heap) (hbl : b < s.heap.size) (hL : L ≤ 3584) {i : Nat} (hi : i + 7 ≤ L) {σ : Sg} {M : Mm} {H : Heap} {locs : List Loc} {ls : Array Slot} (hH : zH G M H) (hS : zS 288 s.heap.size s.heap H locs) (hC : Cl G s.heap.size σ M) (hD : Mo G (s.heap.size + 278) σ M) (hok : sOk σ) (hl : lv_has ls 4 [(0, .ref b), (1, .ref s.heap.size), (2, .ref (s.heap.size + 278)), (3, .int (nI i))])
    (kk : ∀ (σ1 : Sg) (M1 : Mm) (H1 : Heap) (locs1 : List Loc), zH G M1 H1 → zS 288 s.heap.size s.heap H1 locs1 → Cl G s.heap.size σ1 M1 → Mo G (s.heap.size + 278) σ1 M1 → sOk σ1 → W p l e room_1 s m #[Value.ref b] below meth c H1 locs1 288 16966 Q (F0 m 868 ls [])) : W p l e room_1 s m #[Value.ref b] below meth c H locs 288 16966 Q (F0 m 351 ls []) := by
  have hx := hE.1
  have hb := hE.2.1
  refine lv_aload_n hx hb dL_law_351 rfl (lv_at hl 1 rfl) ?_
  refine lv_aload_n hx hb dL_law_352 rfl (lv_at hl 0 rfl) ?_
  refine lv_iload_n hx hb dL_law_353 rfl (lv_at hl 3 rfl) ?_
  refine n_iconst hx hb 1 dL_law_354 (by decide) ?_
  refine n_iadd hx hb dL_law_355 ?_
  refine z_sld hx hb hX hbl hS (by omega) hL dL_law_356 ?_
  refine lv_aload_n hx hb dL_law_357 rfl (lv_at hl 0 rfl) ?_
  refine lv_iload_n hx hb dL_law_358 rfl (lv_at hl 3 rfl) ?_
  refine n_iconst hx hb 2 dL_law_359 (by decide) ?_
  refine n_iadd hx hb dL_law_360 ?_
  refine z_sld hx hb hX hbl hS (by omega) hL dL_law_361 ?_
  refine lv_aload_n hx hb dL_law_362 rfl (lv_at hl 0 rfl) ?_
  refine lv_iload_n hx hb dL_law_363 rfl (lv_at hl 3 rfl) ?_
  refine n_iconst hx hb 3 dL_law_364 (by decide) ?_
  refine n_iadd hx hb dL_law_365 ?_
  refine z_sld hx hb hX hbl hS (by omega) hL dL_law_366 ?_
  refine z_callV (As := [.int (xs (i + 1)), .int (xs (i + 2)), .int (xs (i + 3))]) (rest := []) (st2 := .int (fBuy σ (xs (i + 1)) (xs (i + 2)) (xs (i + 3))).1 :: []) hE hH hS (Nat.le_refl _) hl ca_X5_buy mkL_37 (c_X5_buy l G s.heap.size M σ s.heap.size hC hok (by omega) (xs (i + 1)) (xs (i + 2)) (xs (i + 3))) hC.1 rfl rfl rfl rfl rfl ⟨Nat.le_of_ble_eq_true rfl, Nat.le_of_ble_eq_true rfl⟩ (Nat.le_of_ble_eq_true rfl) ⟨Nat.le_of_ble_eq_true rfl, Nat.le_of_ble_eq_true rfl⟩ dL_law_367 (fun H locs M1 hH hp hS => ?_)
  have hC1 := hp.1
  have hD1 := hD.kept (fun q q1 q2 => hp.2 q (by omega))
  have hokn : sOk (fBuy σ (xs (i + 1)) (xs (i + 2)) (xs (i + 3))).2 := ok_buy hok _ _ _
  replace hD := hD1
  refine lv_aload_n hx hb dL_law_370 rfl (lv_at hl 2 rfl) ?_
  refine lv_aload_n hx hb dL_law_371 rfl (lv_at hl 0 rfl) ?_
  refine lv_iload_n hx hb dL_law_372 rfl (lv_at hl 3 rfl) ?_
  refine n_iconst hx hb 1 dL_law_373 (by decide) ?_
  refine n_iadd hx hb dL_law_374 ?_
  refine z_sld hx hb hX hbl hS (by omega) hL dL_law_375 ?_
  refine lv_aload_n hx hb dL_law_376 rfl (lv_at hl 0 rfl) ?_
  refine lv_iload_n hx hb dL_law_377 rfl (lv_at hl 3 rfl) ?_
  refine n_iconst hx hb 2 dL_law_378 (by decide) ?_
  refine n_iadd hx hb dL_law_379 ?_
  refine z_sld hx hb hX hbl hS (by omega) hL dL_law_380 ?_
  refine lv_aload_n hx hb dL_law_381 rfl (lv_at hl 0 rfl) ?_
  refine lv_iload_n hx hb dL_law_382 rfl (lv_at hl 3 rfl) ?_
  refine n_iconst hx hb 3 dL_law_383 (by decide) ?_
  refine n_iadd hx hb dL_law_384 ?_
  refine z_sld hx hb hX hbl hS (by omega) hL dL_law_385 ?_
  refine z_callV (As := [.int (xs (i + 1)), .int (xs (i + 2)), .int (xs (i + 3))]) (rest := [.int (fBuy σ (xs (i + 1)) (xs (i + 2)) (xs (i + 3))).1]) (st2 := .int (fBuy σ (xs (i + 1)) (xs (i + 2)) (xs (i + 3))).1 :: [.int (fBuy σ (xs (i + 1)) (xs (i + 2)) (xs (i + 3))).1]) hE hH hS (Nat.le_refl _) hl ca_X6_buy mkL_40 (c_X6_buy l G s.heap.size M1 (s.heap.size + 278) σ hD hok (by omega) (xs (i + 1)) (xs (i + 2)) (xs (i + 3))) (mo_at hD).choose_spec rfl rfl rfl rfl rfl ⟨Nat.le_of_ble_eq_true rfl, Nat.le_of_ble_eq_true rfl⟩ (Nat.le_of_ble_eq_true rfl) ⟨Nat.le_of_ble_eq_true rfl, Nat.le_of_ble_eq_true rfl⟩ dL_law_386 (fun H locs M2 hH hp hS => ?_)
  have hC2 := hC1.kept hokn (fun q q1 q2 => hp.2 q (by omega))
  exact lv_icmp_eq (tgt := 868) hx hb dL_law_389 (by decide) (fun _ => kk _ _ _ _ hH hS hC2 hp.1 hokn) (fun h => absurd rfl h)

set_option maxHeartbeats 4000000 in
set_option maxRecDepth 100000 in
theorem lc_buyAll {p : Program} {l : Launch} {e : Env} {s : State} {m : MethodId} {below : List Frame} {meth : Method} {c : Code} {G : zG} {b L : Nat} {xs : Nat → Int32} {Q : State → Prop} (hE : zE p s m #[Value.ref b] meth c G RL cL_law 4 (some .boolean)) (hX : va_X b L xs s s.heap) (hbl : b < s.heap.size) (hL : L ≤ 3584) {i : Nat} (hi : i + 7 ≤ L) {σ : Sg} {M : Mm} {H : Heap} {locs : List Loc} {ls : Array Slot} (hH : zH G M H) (hS : zS 288 s.heap.size s.heap H locs) (hC : Cl G s.heap.size σ M) (hD : Mo G (s.heap.size + 278) σ M) (hok : sOk σ) (hl : lv_has ls 4 [(0, .ref b), (1, .ref s.heap.size), (2, .ref (s.heap.size + 278)), (3, .int (nI i))])
    (kk : ∀ (σ1 : Sg) (M1 : Mm) (H1 : Heap) (locs1 : List Loc), zH G M1 H1 → zS 288 s.heap.size s.heap H1 locs1 → Cl G s.heap.size σ1 M1 → Mo G (s.heap.size + 278) σ1 M1 → sOk σ1 → W p l e room_1 s m #[Value.ref b] below meth c H1 locs1 288 16966 Q (F0 m 868 ls [])) : W p l e room_1 s m #[Value.ref b] below meth c H locs 288 16966 Q (F0 m 394 ls []) := by
  have hx := hE.1
  have hb := hE.2.1
  refine lv_aload_n hx hb dL_law_394 rfl (lv_at hl 1 rfl) ?_
  refine z_callV (As := []) (rest := []) (st2 := .int (fBuyAll σ).1 :: []) hE hH hS (Nat.le_refl _) hl ca_X5_buyAll mkL_41 (c_X5_buyAll l G s.heap.size M σ s.heap.size hC hok (by omega) ) hC.1 rfl rfl rfl rfl rfl ⟨Nat.le_of_ble_eq_true rfl, Nat.le_of_ble_eq_true rfl⟩ (Nat.le_of_ble_eq_true rfl) ⟨Nat.le_of_ble_eq_true rfl, Nat.le_of_ble_eq_true rfl⟩ dL_law_395 (fun H locs M1 hH hp hS => ?_)
  have hC1 := hp.1
  have hD1 := hD.kept (fun q q1 q2 => hp.2 q (by omega))
  have hokn : sOk (fBuyAll σ).2 := ok_buyAll hok
  replace hD := hD1
  refine lv_aload_n hx hb dL_law_398 rfl (lv_at hl 2 rfl) ?_
  refine z_callV (As := []) (rest := [.int (fBuyAll σ).1]) (st2 := .int (fBuyAll σ).1 :: [.int (fBuyAll σ).1]) hE hH hS (Nat.le_refl _) hl ca_X6_buyAll mkL_45 (c_X6_buyAll l G s.heap.size M1 (s.heap.size + 278) σ hD hok (by omega) ) (mo_at hD).choose_spec rfl rfl rfl rfl rfl ⟨Nat.le_of_ble_eq_true rfl, Nat.le_of_ble_eq_true rfl⟩ (Nat.le_of_ble_eq_true rfl) ⟨Nat.le_of_ble_eq_true rfl, Nat.le_of_ble_eq_true rfl⟩ dL_law_399 (fun H locs M2 hH hp hS => ?_)
  have hC2 := hC1.kept hokn (fun q q1 q2 => hp.2 q (by omega))
  exact lv_icmp_eq (tgt := 868) hx hb dL_law_402 (by decide) (fun _ => kk _ _ _ _ hH hS hC2 hp.1 hokn) (fun h => absurd rfl h)

set_option maxHeartbeats 4000000 in
set_option maxRecDepth 100000 in
theorem lc_pass {p : Program} {l : Launch} {e : Env} {s : State} {m : MethodId} {below : List Frame} {meth : Method} {c : Code} {G : zG} {b L : Nat} {xs : Nat → Int32} {Q : State → Prop} (hE : zE p s m #[Value.ref b] meth c G RL cL_law 4 (some .boolean)) (hX : va_X b L xs s s.heap) (hbl : b < s.heap.size) (hL : L ≤ 3584) {i : Nat} (hi : i + 7 ≤ L) {σ : Sg} {M : Mm} {H : Heap} {locs : List Loc} {ls : Array Slot} (hH : zH G M H) (hS : zS 288 s.heap.size s.heap H locs) (hC : Cl G s.heap.size σ M) (hD : Mo G (s.heap.size + 278) σ M) (hok : sOk σ) (hl : lv_has ls 4 [(0, .ref b), (1, .ref s.heap.size), (2, .ref (s.heap.size + 278)), (3, .int (nI i))])
    (kk : ∀ (σ1 : Sg) (M1 : Mm) (H1 : Heap) (locs1 : List Loc), zH G M1 H1 → zS 288 s.heap.size s.heap H1 locs1 → Cl G s.heap.size σ1 M1 → Mo G (s.heap.size + 278) σ1 M1 → sOk σ1 → W p l e room_1 s m #[Value.ref b] below meth c H1 locs1 288 16966 Q (F0 m 868 ls [])) : W p l e room_1 s m #[Value.ref b] below meth c H locs 288 16966 Q (F0 m 407 ls []) := by
  have hx := hE.1
  have hb := hE.2.1
  refine lv_aload_n hx hb dL_law_407 rfl (lv_at hl 1 rfl) ?_
  refine lv_aload_n hx hb dL_law_408 rfl (lv_at hl 0 rfl) ?_
  refine lv_iload_n hx hb dL_law_409 rfl (lv_at hl 3 rfl) ?_
  refine n_iconst hx hb 1 dL_law_410 (by decide) ?_
  refine n_iadd hx hb dL_law_411 ?_
  refine z_sld hx hb hX hbl hS (by omega) hL dL_law_412 ?_
  refine z_callV (As := [.int (xs (i + 1))]) (rest := []) (st2 := .int (fPass σ (xs (i + 1))).1 :: []) hE hH hS (Nat.le_refl _) hl ca_X5_pass mkL_46 (c_X5_pass l G s.heap.size M σ s.heap.size hC hok (by omega) (xs (i + 1))) hC.1 rfl rfl rfl rfl rfl ⟨Nat.le_of_ble_eq_true rfl, Nat.le_of_ble_eq_true rfl⟩ (Nat.le_of_ble_eq_true rfl) ⟨Nat.le_of_ble_eq_true rfl, Nat.le_of_ble_eq_true rfl⟩ dL_law_413 (fun H locs M1 hH hp hS => ?_)
  have hC1 := hp.1
  have hD1 := hD.kept (fun q q1 q2 => hp.2 q (by omega))
  have hokn : sOk (fPass σ (xs (i + 1))).2 := ok_pass hok _
  replace hD := hD1
  refine lv_aload_n hx hb dL_law_416 rfl (lv_at hl 2 rfl) ?_
  refine lv_aload_n hx hb dL_law_417 rfl (lv_at hl 0 rfl) ?_
  refine lv_iload_n hx hb dL_law_418 rfl (lv_at hl 3 rfl) ?_
  refine n_iconst hx hb 1 dL_law_419 (by decide) ?_
  refine n_iadd hx hb dL_law_420 ?_
  refine z_sld hx hb hX hbl hS (by omega) hL dL_law_421 ?_
  refine z_callV (As := [.int (xs (i + 1))]) (rest := [.int (fPass σ (xs (i + 1))).1]) (st2 := .int (fPass σ (xs (i + 1))).1 :: [.int (fPass σ (xs (i + 1))).1]) hE hH hS (Nat.le_refl _) hl ca_X6_pass mkL_49 (c_X6_pass l G s.heap.size M1 (s.heap.size + 278) σ hD hok (by omega) (xs (i + 1))) (mo_at hD).choose_spec rfl rfl rfl rfl rfl ⟨Nat.le_of_ble_eq_true rfl, Nat.le_of_ble_eq_true rfl⟩ (Nat.le_of_ble_eq_true rfl) ⟨Nat.le_of_ble_eq_true rfl, Nat.le_of_ble_eq_true rfl⟩ dL_law_422 (fun H locs M2 hH hp hS => ?_)
  have hC2 := hC1.kept hokn (fun q q1 q2 => hp.2 q (by omega))
  exact lv_icmp_eq (tgt := 868) hx hb dL_law_425 (by decide) (fun _ => kk _ _ _ _ hH hS hC2 hp.1 hokn) (fun h => absurd rfl h)

set_option maxHeartbeats 4000000 in
set_option maxRecDepth 100000 in
theorem lc_cell {p : Program} {l : Launch} {e : Env} {s : State} {m : MethodId} {below : List Frame} {meth : Method} {c : Code} {G : zG} {b L : Nat} {xs : Nat → Int32} {Q : State → Prop} (hE : zE p s m #[Value.ref b] meth c G RL cL_law 4 (some .boolean)) (hX : va_X b L xs s s.heap) (hbl : b < s.heap.size) (hL : L ≤ 3584) {i : Nat} (hi : i + 7 ≤ L) {σ : Sg} {M : Mm} {H : Heap} {locs : List Loc} {ls : Array Slot} (hH : zH G M H) (hS : zS 288 s.heap.size s.heap H locs) (hC : Cl G s.heap.size σ M) (hD : Mo G (s.heap.size + 278) σ M) (hok : sOk σ) (hl : lv_has ls 4 [(0, .ref b), (1, .ref s.heap.size), (2, .ref (s.heap.size + 278)), (3, .int (nI i))])
    (kk : ∀ (σ1 : Sg) (M1 : Mm) (H1 : Heap) (locs1 : List Loc), zH G M1 H1 → zS 288 s.heap.size s.heap H1 locs1 → Cl G s.heap.size σ1 M1 → Mo G (s.heap.size + 278) σ1 M1 → sOk σ1 → W p l e room_1 s m #[Value.ref b] below meth c H1 locs1 288 16966 Q (F0 m 868 ls [])) : W p l e room_1 s m #[Value.ref b] below meth c H locs 288 16966 Q (F0 m 430 ls []) := by
  have hx := hE.1
  have hb := hE.2.1
  refine lv_aload_n hx hb dL_law_430 rfl (lv_at hl 1 rfl) ?_
  refine lv_aload_n hx hb dL_law_431 rfl (lv_at hl 0 rfl) ?_
  refine lv_iload_n hx hb dL_law_432 rfl (lv_at hl 3 rfl) ?_
  refine n_iconst hx hb 1 dL_law_433 (by decide) ?_
  refine n_iadd hx hb dL_law_434 ?_
  refine z_sld hx hb hX hbl hS (by omega) hL dL_law_435 ?_
  refine lv_aload_n hx hb dL_law_436 rfl (lv_at hl 0 rfl) ?_
  refine lv_iload_n hx hb dL_law_437 rfl (lv_at hl 3 rfl) ?_
  refine n_iconst hx hb 2 dL_law_438 (by decide) ?_
  refine n_iadd hx hb dL_law_439 ?_
  refine z_sld hx hb hX hbl hS (by omega) hL dL_law_440 ?_
  refine lv_aload_n hx hb dL_law_441 rfl (lv_at hl 0 rfl) ?_
  refine lv_iload_n hx hb dL_law_442 rfl (lv_at hl 3 rfl) ?_
  refine n_iconst hx hb 3 dL_law_443 (by decide) ?_
  refine n_iadd hx hb dL_law_444 ?_
  refine z_sld hx hb hX hbl hS (by omega) hL dL_law_445 ?_
  refine z_callV (As := [.int (xs (i + 1)), .int (xs (i + 2)), .int (xs (i + 3))]) (rest := []) (st2 := .int (fCell σ (xs (i + 1)) (xs (i + 2)) (xs (i + 3))) :: []) hE hH hS (Nat.le_refl _) hl ca_X5_cell mkL_50 (c_X5_cell l G s.heap.size M σ s.heap.size hC hok (by omega) (xs (i + 1)) (xs (i + 2)) (xs (i + 3))) hC.1 rfl rfl rfl rfl rfl ⟨Nat.le_of_ble_eq_true rfl, Nat.le_of_ble_eq_true rfl⟩ (Nat.le_of_ble_eq_true rfl) ⟨Nat.le_of_ble_eq_true rfl, Nat.le_of_ble_eq_true rfl⟩ dL_law_446 (fun H locs M1 hH hp hS => ?_)
  subst hp
  have hC1 := hC
  have hD1 := hD
  have hokn : sOk σ := hok
  replace hD := hD1
  refine lv_aload_n hx hb dL_law_449 rfl (lv_at hl 2 rfl) ?_
  refine lv_aload_n hx hb dL_law_450 rfl (lv_at hl 0 rfl) ?_
  refine lv_iload_n hx hb dL_law_451 rfl (lv_at hl 3 rfl) ?_
  refine n_iconst hx hb 1 dL_law_452 (by decide) ?_
  refine n_iadd hx hb dL_law_453 ?_
  refine z_sld hx hb hX hbl hS (by omega) hL dL_law_454 ?_
  refine lv_aload_n hx hb dL_law_455 rfl (lv_at hl 0 rfl) ?_
  refine lv_iload_n hx hb dL_law_456 rfl (lv_at hl 3 rfl) ?_
  refine n_iconst hx hb 2 dL_law_457 (by decide) ?_
  refine n_iadd hx hb dL_law_458 ?_
  refine z_sld hx hb hX hbl hS (by omega) hL dL_law_459 ?_
  refine lv_aload_n hx hb dL_law_460 rfl (lv_at hl 0 rfl) ?_
  refine lv_iload_n hx hb dL_law_461 rfl (lv_at hl 3 rfl) ?_
  refine n_iconst hx hb 3 dL_law_462 (by decide) ?_
  refine n_iadd hx hb dL_law_463 ?_
  refine z_sld hx hb hX hbl hS (by omega) hL dL_law_464 ?_
  refine z_callV (As := [.int (xs (i + 1)), .int (xs (i + 2)), .int (xs (i + 3))]) (rest := [.int (fCell σ (xs (i + 1)) (xs (i + 2)) (xs (i + 3)))]) (st2 := .int (fCell σ (xs (i + 1)) (xs (i + 2)) (xs (i + 3))) :: [.int (fCell σ (xs (i + 1)) (xs (i + 2)) (xs (i + 3)))]) hE hH hS (Nat.le_refl _) hl ca_X6_cell mkL_53 (c_X6_cell l G s.heap.size M (s.heap.size + 278) σ hD hok (by omega) (xs (i + 1)) (xs (i + 2)) (xs (i + 3))) (mo_at hD).choose_spec rfl rfl rfl rfl rfl ⟨Nat.le_of_ble_eq_true rfl, Nat.le_of_ble_eq_true rfl⟩ (Nat.le_of_ble_eq_true rfl) ⟨Nat.le_of_ble_eq_true rfl, Nat.le_of_ble_eq_true rfl⟩ dL_law_465 (fun H locs M2 hH hp hS => ?_)
  have hC2 := hC1.kept hokn (fun q q1 q2 => hp.2 q (by omega))
  exact lv_icmp_eq (tgt := 868) hx hb dL_law_468 (by decide) (fun _ => kk _ _ _ _ hH hS hC2 hp.1 hokn) (fun h => absurd rfl h)

set_option maxHeartbeats 4000000 in
set_option maxRecDepth 100000 in
theorem lc_poster {p : Program} {l : Launch} {e : Env} {s : State} {m : MethodId} {below : List Frame} {meth : Method} {c : Code} {G : zG} {b L : Nat} {xs : Nat → Int32} {Q : State → Prop} (hE : zE p s m #[Value.ref b] meth c G RL cL_law 4 (some .boolean)) (hX : va_X b L xs s s.heap) (hbl : b < s.heap.size) (hL : L ≤ 3584) {i : Nat} (hi : i + 7 ≤ L) {σ : Sg} {M : Mm} {H : Heap} {locs : List Loc} {ls : Array Slot} (hH : zH G M H) (hS : zS 288 s.heap.size s.heap H locs) (hC : Cl G s.heap.size σ M) (hD : Mo G (s.heap.size + 278) σ M) (hok : sOk σ) (hl : lv_has ls 4 [(0, .ref b), (1, .ref s.heap.size), (2, .ref (s.heap.size + 278)), (3, .int (nI i))])
    (kk : ∀ (σ1 : Sg) (M1 : Mm) (H1 : Heap) (locs1 : List Loc), zH G M1 H1 → zS 288 s.heap.size s.heap H1 locs1 → Cl G s.heap.size σ1 M1 → Mo G (s.heap.size + 278) σ1 M1 → sOk σ1 → W p l e room_1 s m #[Value.ref b] below meth c H1 locs1 288 16966 Q (F0 m 868 ls [])) : W p l e room_1 s m #[Value.ref b] below meth c H locs 288 16966 Q (F0 m 473 ls []) := by
  have hx := hE.1
  have hb := hE.2.1
  refine lv_aload_n hx hb dL_law_473 rfl (lv_at hl 1 rfl) ?_
  refine lv_aload_n hx hb dL_law_474 rfl (lv_at hl 0 rfl) ?_
  refine lv_iload_n hx hb dL_law_475 rfl (lv_at hl 3 rfl) ?_
  refine n_iconst hx hb 1 dL_law_476 (by decide) ?_
  refine n_iadd hx hb dL_law_477 ?_
  refine z_sld hx hb hX hbl hS (by omega) hL dL_law_478 ?_
  refine lv_aload_n hx hb dL_law_479 rfl (lv_at hl 0 rfl) ?_
  refine lv_iload_n hx hb dL_law_480 rfl (lv_at hl 3 rfl) ?_
  refine n_iconst hx hb 2 dL_law_481 (by decide) ?_
  refine n_iadd hx hb dL_law_482 ?_
  refine z_sld hx hb hX hbl hS (by omega) hL dL_law_483 ?_
  refine z_callV (As := [.int (xs (i + 1)), .int (xs (i + 2))]) (rest := []) (st2 := .int (fPoster σ (xs (i + 1)) (xs (i + 2))) :: []) hE hH hS (Nat.le_refl _) hl ca_X5_poster mkL_54 (c_X5_poster l G s.heap.size M σ s.heap.size hC hok (by omega) (xs (i + 1)) (xs (i + 2))) hC.1 rfl rfl rfl rfl rfl ⟨Nat.le_of_ble_eq_true rfl, Nat.le_of_ble_eq_true rfl⟩ (Nat.le_of_ble_eq_true rfl) ⟨Nat.le_of_ble_eq_true rfl, Nat.le_of_ble_eq_true rfl⟩ dL_law_484 (fun H locs M1 hH hp hS => ?_)
  subst hp
  have hC1 := hC
  have hD1 := hD
  have hokn : sOk σ := hok
  replace hD := hD1
  refine lv_aload_n hx hb dL_law_487 rfl (lv_at hl 2 rfl) ?_
  refine lv_aload_n hx hb dL_law_488 rfl (lv_at hl 0 rfl) ?_
  refine lv_iload_n hx hb dL_law_489 rfl (lv_at hl 3 rfl) ?_
  refine n_iconst hx hb 1 dL_law_490 (by decide) ?_
  refine n_iadd hx hb dL_law_491 ?_
  refine z_sld hx hb hX hbl hS (by omega) hL dL_law_492 ?_
  refine lv_aload_n hx hb dL_law_493 rfl (lv_at hl 0 rfl) ?_
  refine lv_iload_n hx hb dL_law_494 rfl (lv_at hl 3 rfl) ?_
  refine n_iconst hx hb 2 dL_law_495 (by decide) ?_
  refine n_iadd hx hb dL_law_496 ?_
  refine z_sld hx hb hX hbl hS (by omega) hL dL_law_497 ?_
  refine z_callV (As := [.int (xs (i + 1)), .int (xs (i + 2))]) (rest := [.int (fPoster σ (xs (i + 1)) (xs (i + 2)))]) (st2 := .int (fPoster σ (xs (i + 1)) (xs (i + 2))) :: [.int (fPoster σ (xs (i + 1)) (xs (i + 2)))]) hE hH hS (Nat.le_refl _) hl ca_X6_poster mkL_57 (c_X6_poster l G s.heap.size M (s.heap.size + 278) σ hD hok (by omega) (xs (i + 1)) (xs (i + 2))) (mo_at hD).choose_spec rfl rfl rfl rfl rfl ⟨Nat.le_of_ble_eq_true rfl, Nat.le_of_ble_eq_true rfl⟩ (Nat.le_of_ble_eq_true rfl) ⟨Nat.le_of_ble_eq_true rfl, Nat.le_of_ble_eq_true rfl⟩ dL_law_498 (fun H locs M2 hH hp hS => ?_)
  have hC2 := hC1.kept hokn (fun q q1 q2 => hp.2 q (by omega))
  exact lv_icmp_eq (tgt := 868) hx hb dL_law_501 (by decide) (fun _ => kk _ _ _ _ hH hS hC2 hp.1 hokn) (fun h => absurd rfl h)

set_option maxHeartbeats 4000000 in
set_option maxRecDepth 100000 in
theorem lc_varnish {p : Program} {l : Launch} {e : Env} {s : State} {m : MethodId} {below : List Frame} {meth : Method} {c : Code} {G : zG} {b L : Nat} {xs : Nat → Int32} {Q : State → Prop} (hE : zE p s m #[Value.ref b] meth c G RL cL_law 4 (some .boolean)) (hX : va_X b L xs s s.heap) (hbl : b < s.heap.size) (hL : L ≤ 3584) {i : Nat} (hi : i + 7 ≤ L) {σ : Sg} {M : Mm} {H : Heap} {locs : List Loc} {ls : Array Slot} (hH : zH G M H) (hS : zS 288 s.heap.size s.heap H locs) (hC : Cl G s.heap.size σ M) (hD : Mo G (s.heap.size + 278) σ M) (hok : sOk σ) (hl : lv_has ls 4 [(0, .ref b), (1, .ref s.heap.size), (2, .ref (s.heap.size + 278)), (3, .int (nI i))])
    (kk : ∀ (σ1 : Sg) (M1 : Mm) (H1 : Heap) (locs1 : List Loc), zH G M1 H1 → zS 288 s.heap.size s.heap H1 locs1 → Cl G s.heap.size σ1 M1 → Mo G (s.heap.size + 278) σ1 M1 → sOk σ1 → W p l e room_1 s m #[Value.ref b] below meth c H1 locs1 288 16966 Q (F0 m 868 ls [])) : W p l e room_1 s m #[Value.ref b] below meth c H locs 288 16966 Q (F0 m 506 ls []) := by
  have hx := hE.1
  have hb := hE.2.1
  refine lv_aload_n hx hb dL_law_506 rfl (lv_at hl 1 rfl) ?_
  refine lv_aload_n hx hb dL_law_507 rfl (lv_at hl 0 rfl) ?_
  refine lv_iload_n hx hb dL_law_508 rfl (lv_at hl 3 rfl) ?_
  refine n_iconst hx hb 1 dL_law_509 (by decide) ?_
  refine n_iadd hx hb dL_law_510 ?_
  refine z_sld hx hb hX hbl hS (by omega) hL dL_law_511 ?_
  refine lv_aload_n hx hb dL_law_512 rfl (lv_at hl 0 rfl) ?_
  refine lv_iload_n hx hb dL_law_513 rfl (lv_at hl 3 rfl) ?_
  refine n_iconst hx hb 2 dL_law_514 (by decide) ?_
  refine n_iadd hx hb dL_law_515 ?_
  refine z_sld hx hb hX hbl hS (by omega) hL dL_law_516 ?_
  refine lv_aload_n hx hb dL_law_517 rfl (lv_at hl 0 rfl) ?_
  refine lv_iload_n hx hb dL_law_518 rfl (lv_at hl 3 rfl) ?_
  refine n_iconst hx hb 3 dL_law_519 (by decide) ?_
  refine n_iadd hx hb dL_law_520 ?_
  refine z_sld hx hb hX hbl hS (by omega) hL dL_law_521 ?_
  refine z_callV (As := [.int (xs (i + 1)), .int (xs (i + 2)), .int (xs (i + 3))]) (rest := []) (st2 := .int (fVarnish σ (xs (i + 1)) (xs (i + 2)) (xs (i + 3))) :: []) hE hH hS (Nat.le_refl _) hl ca_X5_varnish mkL_58 (c_X5_varnish l G s.heap.size M σ s.heap.size hC hok (by omega) (xs (i + 1)) (xs (i + 2)) (xs (i + 3))) hC.1 rfl rfl rfl rfl rfl ⟨Nat.le_of_ble_eq_true rfl, Nat.le_of_ble_eq_true rfl⟩ (Nat.le_of_ble_eq_true rfl) ⟨Nat.le_of_ble_eq_true rfl, Nat.le_of_ble_eq_true rfl⟩ dL_law_522 (fun H locs M1 hH hp hS => ?_)
  subst hp
  have hC1 := hC
  have hD1 := hD
  have hokn : sOk σ := hok
  replace hD := hD1
  refine lv_aload_n hx hb dL_law_525 rfl (lv_at hl 2 rfl) ?_
  refine lv_aload_n hx hb dL_law_526 rfl (lv_at hl 0 rfl) ?_
  refine lv_iload_n hx hb dL_law_527 rfl (lv_at hl 3 rfl) ?_
  refine n_iconst hx hb 1 dL_law_528 (by decide) ?_
  refine n_iadd hx hb dL_law_529 ?_
  refine z_sld hx hb hX hbl hS (by omega) hL dL_law_530 ?_
  refine lv_aload_n hx hb dL_law_531 rfl (lv_at hl 0 rfl) ?_
  refine lv_iload_n hx hb dL_law_532 rfl (lv_at hl 3 rfl) ?_
  refine n_iconst hx hb 2 dL_law_533 (by decide) ?_
  refine n_iadd hx hb dL_law_534 ?_
  refine z_sld hx hb hX hbl hS (by omega) hL dL_law_535 ?_
  refine lv_aload_n hx hb dL_law_536 rfl (lv_at hl 0 rfl) ?_
  refine lv_iload_n hx hb dL_law_537 rfl (lv_at hl 3 rfl) ?_
  refine n_iconst hx hb 3 dL_law_538 (by decide) ?_
  refine n_iadd hx hb dL_law_539 ?_
  refine z_sld hx hb hX hbl hS (by omega) hL dL_law_540 ?_
  refine z_callV (As := [.int (xs (i + 1)), .int (xs (i + 2)), .int (xs (i + 3))]) (rest := [.int (fVarnish σ (xs (i + 1)) (xs (i + 2)) (xs (i + 3)))]) (st2 := .int (fVarnish σ (xs (i + 1)) (xs (i + 2)) (xs (i + 3))) :: [.int (fVarnish σ (xs (i + 1)) (xs (i + 2)) (xs (i + 3)))]) hE hH hS (Nat.le_refl _) hl ca_X6_varnish mkL_61 (c_X6_varnish l G s.heap.size M (s.heap.size + 278) σ hD hok (by omega) (xs (i + 1)) (xs (i + 2)) (xs (i + 3))) (mo_at hD).choose_spec rfl rfl rfl rfl rfl ⟨Nat.le_of_ble_eq_true rfl, Nat.le_of_ble_eq_true rfl⟩ (Nat.le_of_ble_eq_true rfl) ⟨Nat.le_of_ble_eq_true rfl, Nat.le_of_ble_eq_true rfl⟩ dL_law_541 (fun H locs M2 hH hp hS => ?_)
  have hC2 := hC1.kept hokn (fun q q1 q2 => hp.2 q (by omega))
  exact lv_icmp_eq (tgt := 868) hx hb dL_law_544 (by decide) (fun _ => kk _ _ _ _ hH hS hC2 hp.1 hokn) (fun h => absurd rfl h)

set_option maxHeartbeats 4000000 in
set_option maxRecDepth 100000 in
theorem lc_count {p : Program} {l : Launch} {e : Env} {s : State} {m : MethodId} {below : List Frame} {meth : Method} {c : Code} {G : zG} {b L : Nat} {xs : Nat → Int32} {Q : State → Prop} (hE : zE p s m #[Value.ref b] meth c G RL cL_law 4 (some .boolean)) (hX : va_X b L xs s s.heap) (hbl : b < s.heap.size) (hL : L ≤ 3584) {i : Nat} (hi : i + 7 ≤ L) {σ : Sg} {M : Mm} {H : Heap} {locs : List Loc} {ls : Array Slot} (hH : zH G M H) (hS : zS 288 s.heap.size s.heap H locs) (hC : Cl G s.heap.size σ M) (hD : Mo G (s.heap.size + 278) σ M) (hok : sOk σ) (hl : lv_has ls 4 [(0, .ref b), (1, .ref s.heap.size), (2, .ref (s.heap.size + 278)), (3, .int (nI i))])
    (kk : ∀ (σ1 : Sg) (M1 : Mm) (H1 : Heap) (locs1 : List Loc), zH G M1 H1 → zS 288 s.heap.size s.heap H1 locs1 → Cl G s.heap.size σ1 M1 → Mo G (s.heap.size + 278) σ1 M1 → sOk σ1 → W p l e room_1 s m #[Value.ref b] below meth c H1 locs1 288 16966 Q (F0 m 868 ls [])) : W p l e room_1 s m #[Value.ref b] below meth c H locs 288 16966 Q (F0 m 549 ls []) := by
  have hx := hE.1
  have hb := hE.2.1
  refine lv_aload_n hx hb dL_law_549 rfl (lv_at hl 1 rfl) ?_
  refine lv_aload_n hx hb dL_law_550 rfl (lv_at hl 0 rfl) ?_
  refine lv_iload_n hx hb dL_law_551 rfl (lv_at hl 3 rfl) ?_
  refine n_iconst hx hb 1 dL_law_552 (by decide) ?_
  refine n_iadd hx hb dL_law_553 ?_
  refine z_sld hx hb hX hbl hS (by omega) hL dL_law_554 ?_
  refine z_callV (As := [.int (xs (i + 1))]) (rest := []) (st2 := .int (fCount σ (xs (i + 1))) :: []) hE hH hS (Nat.le_refl _) hl ca_X5_count mkL_62 (c_X5_count l G s.heap.size M σ s.heap.size hC hok (by omega) (xs (i + 1))) hC.1 rfl rfl rfl rfl rfl ⟨Nat.le_of_ble_eq_true rfl, Nat.le_of_ble_eq_true rfl⟩ (Nat.le_of_ble_eq_true rfl) ⟨Nat.le_of_ble_eq_true rfl, Nat.le_of_ble_eq_true rfl⟩ dL_law_555 (fun H locs M1 hH hp hS => ?_)
  subst hp
  have hC1 := hC
  have hD1 := hD
  have hokn : sOk σ := hok
  replace hD := hD1
  refine lv_aload_n hx hb dL_law_558 rfl (lv_at hl 2 rfl) ?_
  refine lv_aload_n hx hb dL_law_559 rfl (lv_at hl 0 rfl) ?_
  refine lv_iload_n hx hb dL_law_560 rfl (lv_at hl 3 rfl) ?_
  refine n_iconst hx hb 1 dL_law_561 (by decide) ?_
  refine n_iadd hx hb dL_law_562 ?_
  refine z_sld hx hb hX hbl hS (by omega) hL dL_law_563 ?_
  refine z_callV (As := [.int (xs (i + 1))]) (rest := [.int (fCount σ (xs (i + 1)))]) (st2 := .int (fCount σ (xs (i + 1))) :: [.int (fCount σ (xs (i + 1)))]) hE hH hS (Nat.le_refl _) hl ca_X6_count mkL_65 (c_X6_count l G s.heap.size M (s.heap.size + 278) σ hD hok (by omega) (xs (i + 1))) (mo_at hD).choose_spec rfl rfl rfl rfl rfl ⟨Nat.le_of_ble_eq_true rfl, Nat.le_of_ble_eq_true rfl⟩ (Nat.le_of_ble_eq_true rfl) ⟨Nat.le_of_ble_eq_true rfl, Nat.le_of_ble_eq_true rfl⟩ dL_law_564 (fun H locs M2 hH hp hS => ?_)
  have hC2 := hC1.kept hokn (fun q q1 q2 => hp.2 q (by omega))
  exact lv_icmp_eq (tgt := 868) hx hb dL_law_567 (by decide) (fun _ => kk _ _ _ _ hH hS hC2 hp.1 hokn) (fun h => absurd rfl h)

set_option maxHeartbeats 4000000 in
set_option maxRecDepth 100000 in
theorem lc_sunOf {p : Program} {l : Launch} {e : Env} {s : State} {m : MethodId} {below : List Frame} {meth : Method} {c : Code} {G : zG} {b L : Nat} {xs : Nat → Int32} {Q : State → Prop} (hE : zE p s m #[Value.ref b] meth c G RL cL_law 4 (some .boolean)) (hX : va_X b L xs s s.heap) (hbl : b < s.heap.size) (hL : L ≤ 3584) {i : Nat} (hi : i + 7 ≤ L) {σ : Sg} {M : Mm} {H : Heap} {locs : List Loc} {ls : Array Slot} (hH : zH G M H) (hS : zS 288 s.heap.size s.heap H locs) (hC : Cl G s.heap.size σ M) (hD : Mo G (s.heap.size + 278) σ M) (hok : sOk σ) (hl : lv_has ls 4 [(0, .ref b), (1, .ref s.heap.size), (2, .ref (s.heap.size + 278)), (3, .int (nI i))])
    (kk : ∀ (σ1 : Sg) (M1 : Mm) (H1 : Heap) (locs1 : List Loc), zH G M1 H1 → zS 288 s.heap.size s.heap H1 locs1 → Cl G s.heap.size σ1 M1 → Mo G (s.heap.size + 278) σ1 M1 → sOk σ1 → W p l e room_1 s m #[Value.ref b] below meth c H1 locs1 288 16966 Q (F0 m 868 ls [])) : W p l e room_1 s m #[Value.ref b] below meth c H locs 288 16966 Q (F0 m 572 ls []) := by
  have hx := hE.1
  have hb := hE.2.1
  refine lv_aload_n hx hb dL_law_572 rfl (lv_at hl 1 rfl) ?_
  refine lv_aload_n hx hb dL_law_573 rfl (lv_at hl 0 rfl) ?_
  refine lv_iload_n hx hb dL_law_574 rfl (lv_at hl 3 rfl) ?_
  refine n_iconst hx hb 1 dL_law_575 (by decide) ?_
  refine n_iadd hx hb dL_law_576 ?_
  refine z_sld hx hb hX hbl hS (by omega) hL dL_law_577 ?_
  refine z_callV (As := [.int (xs (i + 1))]) (rest := []) (st2 := .int (fSunOf σ (xs (i + 1))) :: []) hE hH hS (Nat.le_refl _) hl ca_X5_sunOf mkL_66 (c_X5_sunOf l G s.heap.size M σ s.heap.size hC hok (by omega) (xs (i + 1))) hC.1 rfl rfl rfl rfl rfl ⟨Nat.le_of_ble_eq_true rfl, Nat.le_of_ble_eq_true rfl⟩ (Nat.le_of_ble_eq_true rfl) ⟨Nat.le_of_ble_eq_true rfl, Nat.le_of_ble_eq_true rfl⟩ dL_law_578 (fun H locs M1 hH hp hS => ?_)
  subst hp
  have hC1 := hC
  have hD1 := hD
  have hokn : sOk σ := hok
  replace hD := hD1
  refine lv_aload_n hx hb dL_law_581 rfl (lv_at hl 2 rfl) ?_
  refine lv_aload_n hx hb dL_law_582 rfl (lv_at hl 0 rfl) ?_
  refine lv_iload_n hx hb dL_law_583 rfl (lv_at hl 3 rfl) ?_
  refine n_iconst hx hb 1 dL_law_584 (by decide) ?_
  refine n_iadd hx hb dL_law_585 ?_
  refine z_sld hx hb hX hbl hS (by omega) hL dL_law_586 ?_
  refine z_callV (As := [.int (xs (i + 1))]) (rest := [.int (fSunOf σ (xs (i + 1)))]) (st2 := .int (fSunOf σ (xs (i + 1))) :: [.int (fSunOf σ (xs (i + 1)))]) hE hH hS (Nat.le_refl _) hl ca_X6_sunOf mkL_69 (c_X6_sunOf l G s.heap.size M (s.heap.size + 278) σ hD hok (by omega) (xs (i + 1))) (mo_at hD).choose_spec rfl rfl rfl rfl rfl ⟨Nat.le_of_ble_eq_true rfl, Nat.le_of_ble_eq_true rfl⟩ (Nat.le_of_ble_eq_true rfl) ⟨Nat.le_of_ble_eq_true rfl, Nat.le_of_ble_eq_true rfl⟩ dL_law_587 (fun H locs M2 hH hp hS => ?_)
  have hC2 := hC1.kept hokn (fun q q1 q2 => hp.2 q (by omega))
  exact lv_icmp_eq (tgt := 868) hx hb dL_law_590 (by decide) (fun _ => kk _ _ _ _ hH hS hC2 hp.1 hokn) (fun h => absurd rfl h)

set_option maxHeartbeats 4000000 in
set_option maxRecDepth 100000 in
theorem lc_ifPassed {p : Program} {l : Launch} {e : Env} {s : State} {m : MethodId} {below : List Frame} {meth : Method} {c : Code} {G : zG} {b L : Nat} {xs : Nat → Int32} {Q : State → Prop} (hE : zE p s m #[Value.ref b] meth c G RL cL_law 4 (some .boolean)) (hX : va_X b L xs s s.heap) (hbl : b < s.heap.size) (hL : L ≤ 3584) {i : Nat} (hi : i + 7 ≤ L) {σ : Sg} {M : Mm} {H : Heap} {locs : List Loc} {ls : Array Slot} (hH : zH G M H) (hS : zS 288 s.heap.size s.heap H locs) (hC : Cl G s.heap.size σ M) (hD : Mo G (s.heap.size + 278) σ M) (hok : sOk σ) (hl : lv_has ls 4 [(0, .ref b), (1, .ref s.heap.size), (2, .ref (s.heap.size + 278)), (3, .int (nI i))])
    (kk : ∀ (σ1 : Sg) (M1 : Mm) (H1 : Heap) (locs1 : List Loc), zH G M1 H1 → zS 288 s.heap.size s.heap H1 locs1 → Cl G s.heap.size σ1 M1 → Mo G (s.heap.size + 278) σ1 M1 → sOk σ1 → W p l e room_1 s m #[Value.ref b] below meth c H1 locs1 288 16966 Q (F0 m 868 ls [])) : W p l e room_1 s m #[Value.ref b] below meth c H locs 288 16966 Q (F0 m 595 ls []) := by
  have hx := hE.1
  have hb := hE.2.1
  refine lv_aload_n hx hb dL_law_595 rfl (lv_at hl 1 rfl) ?_
  refine lv_aload_n hx hb dL_law_596 rfl (lv_at hl 0 rfl) ?_
  refine lv_iload_n hx hb dL_law_597 rfl (lv_at hl 3 rfl) ?_
  refine n_iconst hx hb 1 dL_law_598 (by decide) ?_
  refine n_iadd hx hb dL_law_599 ?_
  refine z_sld hx hb hX hbl hS (by omega) hL dL_law_600 ?_
  refine lv_aload_n hx hb dL_law_601 rfl (lv_at hl 0 rfl) ?_
  refine lv_iload_n hx hb dL_law_602 rfl (lv_at hl 3 rfl) ?_
  refine n_iconst hx hb 2 dL_law_603 (by decide) ?_
  refine n_iadd hx hb dL_law_604 ?_
  refine z_sld hx hb hX hbl hS (by omega) hL dL_law_605 ?_
  refine z_callV (As := [.int (xs (i + 1)), .int (xs (i + 2))]) (rest := []) (st2 := .int (fIf σ (xs (i + 1)) (xs (i + 2))) :: []) hE hH hS (Nat.le_refl _) hl ca_X5_ifPassed mkL_70 (c_X5_ifPassed l G s.heap.size M σ s.heap.size hC hok (by omega) (xs (i + 1)) (xs (i + 2))) hC.1 rfl rfl rfl rfl rfl ⟨Nat.le_of_ble_eq_true rfl, Nat.le_of_ble_eq_true rfl⟩ (Nat.le_of_ble_eq_true rfl) ⟨Nat.le_of_ble_eq_true rfl, Nat.le_of_ble_eq_true rfl⟩ dL_law_606 (fun H locs M1 hH hp hS => ?_)
  have hC1 := hp.1
  have hD1 := hD.kept (fun q q1 q2 => hp.2 q (by omega))
  have hokn : sOk σ := hok
  replace hD := hD1
  refine lv_aload_n hx hb dL_law_609 rfl (lv_at hl 2 rfl) ?_
  refine lv_aload_n hx hb dL_law_610 rfl (lv_at hl 0 rfl) ?_
  refine lv_iload_n hx hb dL_law_611 rfl (lv_at hl 3 rfl) ?_
  refine n_iconst hx hb 1 dL_law_612 (by decide) ?_
  refine n_iadd hx hb dL_law_613 ?_
  refine z_sld hx hb hX hbl hS (by omega) hL dL_law_614 ?_
  refine lv_aload_n hx hb dL_law_615 rfl (lv_at hl 0 rfl) ?_
  refine lv_iload_n hx hb dL_law_616 rfl (lv_at hl 3 rfl) ?_
  refine n_iconst hx hb 2 dL_law_617 (by decide) ?_
  refine n_iadd hx hb dL_law_618 ?_
  refine z_sld hx hb hX hbl hS (by omega) hL dL_law_619 ?_
  refine z_callV (As := [.int (xs (i + 1)), .int (xs (i + 2))]) (rest := [.int (fIf σ (xs (i + 1)) (xs (i + 2)))]) (st2 := .int (fIf σ (xs (i + 1)) (xs (i + 2))) :: [.int (fIf σ (xs (i + 1)) (xs (i + 2)))]) hE hH hS (Nat.le_refl _) hl ca_X6_ifPassed mkL_73 (c_X6_ifPassed l G s.heap.size M1 (s.heap.size + 278) σ hD hok (by omega) (xs (i + 1)) (xs (i + 2))) (mo_at hD).choose_spec rfl rfl rfl rfl rfl ⟨Nat.le_of_ble_eq_true rfl, Nat.le_of_ble_eq_true rfl⟩ (Nat.le_of_ble_eq_true rfl) ⟨Nat.le_of_ble_eq_true rfl, Nat.le_of_ble_eq_true rfl⟩ dL_law_620 (fun H locs M2 hH hp hS => ?_)
  have hC2 := hC1.kept hokn (fun q q1 q2 => hp.2 q (by omega))
  exact lv_icmp_eq (tgt := 868) hx hb dL_law_623 (by decide) (fun _ => kk _ _ _ _ hH hS hC2 hp.1 hokn) (fun h => absurd rfl h)

set_option maxHeartbeats 4000000 in
set_option maxRecDepth 100000 in
theorem lc_willShow {p : Program} {l : Launch} {e : Env} {s : State} {m : MethodId} {below : List Frame} {meth : Method} {c : Code} {G : zG} {b L : Nat} {xs : Nat → Int32} {Q : State → Prop} (hE : zE p s m #[Value.ref b] meth c G RL cL_law 4 (some .boolean)) (hX : va_X b L xs s s.heap) (hbl : b < s.heap.size) (hL : L ≤ 3584) {i : Nat} (hi : i + 7 ≤ L) {σ : Sg} {M : Mm} {H : Heap} {locs : List Loc} {ls : Array Slot} (hH : zH G M H) (hS : zS 288 s.heap.size s.heap H locs) (hC : Cl G s.heap.size σ M) (hD : Mo G (s.heap.size + 278) σ M) (hok : sOk σ) (hl : lv_has ls 4 [(0, .ref b), (1, .ref s.heap.size), (2, .ref (s.heap.size + 278)), (3, .int (nI i))])
    (kk : ∀ (σ1 : Sg) (M1 : Mm) (H1 : Heap) (locs1 : List Loc), zH G M1 H1 → zS 288 s.heap.size s.heap H1 locs1 → Cl G s.heap.size σ1 M1 → Mo G (s.heap.size + 278) σ1 M1 → sOk σ1 → W p l e room_1 s m #[Value.ref b] below meth c H1 locs1 288 16966 Q (F0 m 868 ls [])) : W p l e room_1 s m #[Value.ref b] below meth c H locs 288 16966 Q (F0 m 628 ls []) := by
  have hx := hE.1
  have hb := hE.2.1
  refine lv_aload_n hx hb dL_law_628 rfl (lv_at hl 1 rfl) ?_
  refine lv_aload_n hx hb dL_law_629 rfl (lv_at hl 0 rfl) ?_
  refine lv_iload_n hx hb dL_law_630 rfl (lv_at hl 3 rfl) ?_
  refine n_iconst hx hb 1 dL_law_631 (by decide) ?_
  refine n_iadd hx hb dL_law_632 ?_
  refine z_sld hx hb hX hbl hS (by omega) hL dL_law_633 ?_
  refine lv_aload_n hx hb dL_law_634 rfl (lv_at hl 0 rfl) ?_
  refine lv_iload_n hx hb dL_law_635 rfl (lv_at hl 3 rfl) ?_
  refine n_iconst hx hb 2 dL_law_636 (by decide) ?_
  refine n_iadd hx hb dL_law_637 ?_
  refine z_sld hx hb hX hbl hS (by omega) hL dL_law_638 ?_
  refine lv_aload_n hx hb dL_law_639 rfl (lv_at hl 0 rfl) ?_
  refine lv_iload_n hx hb dL_law_640 rfl (lv_at hl 3 rfl) ?_
  refine n_iconst hx hb 3 dL_law_641 (by decide) ?_
  refine n_iadd hx hb dL_law_642 ?_
  refine z_sld hx hb hX hbl hS (by omega) hL dL_law_643 ?_
  refine z_callV (As := [.int (xs (i + 1)), .int (xs (i + 2)), .int (xs (i + 3))]) (rest := []) (st2 := .int (fWill σ (xs (i + 1)) (xs (i + 2)) (xs (i + 3))) :: []) hE hH hS (Nat.le_refl _) hl ca_X5_willShow mkL_74 (c_X5_willShow l G s.heap.size M σ s.heap.size hC hok (by omega) (xs (i + 1)) (xs (i + 2)) (xs (i + 3))) hC.1 rfl rfl rfl rfl rfl ⟨Nat.le_of_ble_eq_true rfl, Nat.le_of_ble_eq_true rfl⟩ (Nat.le_of_ble_eq_true rfl) ⟨Nat.le_of_ble_eq_true rfl, Nat.le_of_ble_eq_true rfl⟩ dL_law_644 (fun H locs M1 hH hp hS => ?_)
  have hC1 := hp.1
  have hD1 := hD.kept (fun q q1 q2 => hp.2 q (by omega))
  have hokn : sOk σ := hok
  replace hD := hD1
  refine lv_aload_n hx hb dL_law_647 rfl (lv_at hl 2 rfl) ?_
  refine lv_aload_n hx hb dL_law_648 rfl (lv_at hl 0 rfl) ?_
  refine lv_iload_n hx hb dL_law_649 rfl (lv_at hl 3 rfl) ?_
  refine n_iconst hx hb 1 dL_law_650 (by decide) ?_
  refine n_iadd hx hb dL_law_651 ?_
  refine z_sld hx hb hX hbl hS (by omega) hL dL_law_652 ?_
  refine lv_aload_n hx hb dL_law_653 rfl (lv_at hl 0 rfl) ?_
  refine lv_iload_n hx hb dL_law_654 rfl (lv_at hl 3 rfl) ?_
  refine n_iconst hx hb 2 dL_law_655 (by decide) ?_
  refine n_iadd hx hb dL_law_656 ?_
  refine z_sld hx hb hX hbl hS (by omega) hL dL_law_657 ?_
  refine lv_aload_n hx hb dL_law_658 rfl (lv_at hl 0 rfl) ?_
  refine lv_iload_n hx hb dL_law_659 rfl (lv_at hl 3 rfl) ?_
  refine n_iconst hx hb 3 dL_law_660 (by decide) ?_
  refine n_iadd hx hb dL_law_661 ?_
  refine z_sld hx hb hX hbl hS (by omega) hL dL_law_662 ?_
  refine z_callV (As := [.int (xs (i + 1)), .int (xs (i + 2)), .int (xs (i + 3))]) (rest := [.int (fWill σ (xs (i + 1)) (xs (i + 2)) (xs (i + 3)))]) (st2 := .int (fWill σ (xs (i + 1)) (xs (i + 2)) (xs (i + 3))) :: [.int (fWill σ (xs (i + 1)) (xs (i + 2)) (xs (i + 3)))]) hE hH hS (Nat.le_refl _) hl ca_X6_willShow mkL_77 (c_X6_willShow l G s.heap.size M1 (s.heap.size + 278) σ hD hok (by omega) (xs (i + 1)) (xs (i + 2)) (xs (i + 3))) (mo_at hD).choose_spec rfl rfl rfl rfl rfl ⟨Nat.le_of_ble_eq_true rfl, Nat.le_of_ble_eq_true rfl⟩ (Nat.le_of_ble_eq_true rfl) ⟨Nat.le_of_ble_eq_true rfl, Nat.le_of_ble_eq_true rfl⟩ dL_law_663 (fun H locs M2 hH hp hS => ?_)
  have hC2 := hC1.kept hokn (fun q q1 q2 => hp.2 q (by omega))
  exact lv_icmp_eq (tgt := 868) hx hb dL_law_666 (by decide) (fun _ => kk _ _ _ _ hH hS hC2 hp.1 hokn) (fun h => absurd rfl h)

set_option maxHeartbeats 4000000 in
set_option maxRecDepth 100000 in
theorem lc_nextChange {p : Program} {l : Launch} {e : Env} {s : State} {m : MethodId} {below : List Frame} {meth : Method} {c : Code} {G : zG} {b L : Nat} {xs : Nat → Int32} {Q : State → Prop} (hE : zE p s m #[Value.ref b] meth c G RL cL_law 4 (some .boolean)) (hX : va_X b L xs s s.heap) (hbl : b < s.heap.size) (hL : L ≤ 3584) {i : Nat} (hi : i + 7 ≤ L) {σ : Sg} {M : Mm} {H : Heap} {locs : List Loc} {ls : Array Slot} (hH : zH G M H) (hS : zS 288 s.heap.size s.heap H locs) (hC : Cl G s.heap.size σ M) (hD : Mo G (s.heap.size + 278) σ M) (hok : sOk σ) (hl : lv_has ls 4 [(0, .ref b), (1, .ref s.heap.size), (2, .ref (s.heap.size + 278)), (3, .int (nI i))])
    (kk : ∀ (σ1 : Sg) (M1 : Mm) (H1 : Heap) (locs1 : List Loc), zH G M1 H1 → zS 288 s.heap.size s.heap H1 locs1 → Cl G s.heap.size σ1 M1 → Mo G (s.heap.size + 278) σ1 M1 → sOk σ1 → W p l e room_1 s m #[Value.ref b] below meth c H1 locs1 288 16966 Q (F0 m 868 ls [])) : W p l e room_1 s m #[Value.ref b] below meth c H locs 288 16966 Q (F0 m 671 ls []) := by
  have hx := hE.1
  have hb := hE.2.1
  refine lv_aload_n hx hb dL_law_671 rfl (lv_at hl 1 rfl) ?_
  refine z_callV (As := []) (rest := []) (st2 := .int (fNext σ) :: []) hE hH hS (Nat.le_refl _) hl ca_X5_nextChange mkL_78 (c_X5_nextChange l G s.heap.size M σ s.heap.size hC hok (by omega) ) hC.1 rfl rfl rfl rfl rfl ⟨Nat.le_of_ble_eq_true rfl, Nat.le_of_ble_eq_true rfl⟩ (Nat.le_of_ble_eq_true rfl) ⟨Nat.le_of_ble_eq_true rfl, Nat.le_of_ble_eq_true rfl⟩ dL_law_672 (fun H locs M1 hH hp hS => ?_)
  subst hp
  have hC1 := hC
  have hD1 := hD
  have hokn : sOk σ := hok
  replace hD := hD1
  refine lv_aload_n hx hb dL_law_675 rfl (lv_at hl 2 rfl) ?_
  refine z_callV (As := []) (rest := [.int (fNext σ)]) (st2 := .int (fNext σ) :: [.int (fNext σ)]) hE hH hS (Nat.le_refl _) hl ca_X6_nextChange mkL_81 (c_X6_nextChange l G s.heap.size M (s.heap.size + 278) σ hD hok (by omega) ) (mo_at hD).choose_spec rfl rfl rfl rfl rfl ⟨Nat.le_of_ble_eq_true rfl, Nat.le_of_ble_eq_true rfl⟩ (Nat.le_of_ble_eq_true rfl) ⟨Nat.le_of_ble_eq_true rfl, Nat.le_of_ble_eq_true rfl⟩ dL_law_676 (fun H locs M2 hH hp hS => ?_)
  have hC2 := hC1.kept hokn (fun q q1 q2 => hp.2 q (by omega))
  exact lv_icmp_eq (tgt := 868) hx hb dL_law_679 (by decide) (fun _ => kk _ _ _ _ hH hS hC2 hp.1 hokn) (fun h => absurd rfl h)

set_option maxHeartbeats 4000000 in
set_option maxRecDepth 100000 in
theorem lc_comesToLight {p : Program} {l : Launch} {e : Env} {s : State} {m : MethodId} {below : List Frame} {meth : Method} {c : Code} {G : zG} {b L : Nat} {xs : Nat → Int32} {Q : State → Prop} (hE : zE p s m #[Value.ref b] meth c G RL cL_law 4 (some .boolean)) (hX : va_X b L xs s s.heap) (hbl : b < s.heap.size) (hL : L ≤ 3584) {i : Nat} (hi : i + 7 ≤ L) {σ : Sg} {M : Mm} {H : Heap} {locs : List Loc} {ls : Array Slot} (hH : zH G M H) (hS : zS 288 s.heap.size s.heap H locs) (hC : Cl G s.heap.size σ M) (hD : Mo G (s.heap.size + 278) σ M) (hok : sOk σ) (hl : lv_has ls 4 [(0, .ref b), (1, .ref s.heap.size), (2, .ref (s.heap.size + 278)), (3, .int (nI i))])
    (kk : ∀ (σ1 : Sg) (M1 : Mm) (H1 : Heap) (locs1 : List Loc), zH G M1 H1 → zS 288 s.heap.size s.heap H1 locs1 → Cl G s.heap.size σ1 M1 → Mo G (s.heap.size + 278) σ1 M1 → sOk σ1 → W p l e room_1 s m #[Value.ref b] below meth c H1 locs1 288 16966 Q (F0 m 868 ls [])) : W p l e room_1 s m #[Value.ref b] below meth c H locs 288 16966 Q (F0 m 684 ls []) := by
  have hx := hE.1
  have hb := hE.2.1
  refine lv_aload_n hx hb dL_law_684 rfl (lv_at hl 1 rfl) ?_
  refine lv_aload_n hx hb dL_law_685 rfl (lv_at hl 0 rfl) ?_
  refine lv_iload_n hx hb dL_law_686 rfl (lv_at hl 3 rfl) ?_
  refine n_iconst hx hb 1 dL_law_687 (by decide) ?_
  refine n_iadd hx hb dL_law_688 ?_
  refine z_sld hx hb hX hbl hS (by omega) hL dL_law_689 ?_
  refine z_callV (As := [.int (xs (i + 1))]) (rest := []) (st2 := .int (fLight σ (xs (i + 1))) :: []) hE hH hS (Nat.le_refl _) hl ca_X5_comesToLight mkL_82 (c_X5_comesToLight l G s.heap.size M σ s.heap.size hC hok (by omega) (xs (i + 1))) hC.1 rfl rfl rfl rfl rfl ⟨Nat.le_of_ble_eq_true rfl, Nat.le_of_ble_eq_true rfl⟩ (Nat.le_of_ble_eq_true rfl) ⟨Nat.le_of_ble_eq_true rfl, Nat.le_of_ble_eq_true rfl⟩ dL_law_690 (fun H locs M1 hH hp hS => ?_)
  subst hp
  have hC1 := hC
  have hD1 := hD
  have hokn : sOk σ := hok
  replace hD := hD1
  refine lv_aload_n hx hb dL_law_693 rfl (lv_at hl 2 rfl) ?_
  refine lv_aload_n hx hb dL_law_694 rfl (lv_at hl 0 rfl) ?_
  refine lv_iload_n hx hb dL_law_695 rfl (lv_at hl 3 rfl) ?_
  refine n_iconst hx hb 1 dL_law_696 (by decide) ?_
  refine n_iadd hx hb dL_law_697 ?_
  refine z_sld hx hb hX hbl hS (by omega) hL dL_law_698 ?_
  refine z_callV (As := [.int (xs (i + 1))]) (rest := [.int (fLight σ (xs (i + 1)))]) (st2 := .int (fLight σ (xs (i + 1))) :: [.int (fLight σ (xs (i + 1)))]) hE hH hS (Nat.le_refl _) hl ca_X6_comesToLight mkL_85 (c_X6_comesToLight l G s.heap.size M (s.heap.size + 278) σ hD hok (by omega) (xs (i + 1))) (mo_at hD).choose_spec rfl rfl rfl rfl rfl ⟨Nat.le_of_ble_eq_true rfl, Nat.le_of_ble_eq_true rfl⟩ (Nat.le_of_ble_eq_true rfl) ⟨Nat.le_of_ble_eq_true rfl, Nat.le_of_ble_eq_true rfl⟩ dL_law_699 (fun H locs M2 hH hp hS => ?_)
  have hC2 := hC1.kept hokn (fun q q1 q2 => hp.2 q (by omega))
  exact lv_icmp_eq (tgt := 868) hx hb dL_law_702 (by decide) (fun _ => kk _ _ _ _ hH hS hC2 hp.1 hokn) (fun h => absurd rfl h)

set_option maxHeartbeats 4000000 in
set_option maxRecDepth 100000 in
theorem lc_bestTorn {p : Program} {l : Launch} {e : Env} {s : State} {m : MethodId} {below : List Frame} {meth : Method} {c : Code} {G : zG} {b L : Nat} {xs : Nat → Int32} {Q : State → Prop} (hE : zE p s m #[Value.ref b] meth c G RL cL_law 4 (some .boolean)) (hX : va_X b L xs s s.heap) (hbl : b < s.heap.size) (hL : L ≤ 3584) {i : Nat} (hi : i + 7 ≤ L) {σ : Sg} {M : Mm} {H : Heap} {locs : List Loc} {ls : Array Slot} (hH : zH G M H) (hS : zS 288 s.heap.size s.heap H locs) (hC : Cl G s.heap.size σ M) (hD : Mo G (s.heap.size + 278) σ M) (hok : sOk σ) (hl : lv_has ls 4 [(0, .ref b), (1, .ref s.heap.size), (2, .ref (s.heap.size + 278)), (3, .int (nI i))])
    (kk : ∀ (σ1 : Sg) (M1 : Mm) (H1 : Heap) (locs1 : List Loc), zH G M1 H1 → zS 288 s.heap.size s.heap H1 locs1 → Cl G s.heap.size σ1 M1 → Mo G (s.heap.size + 278) σ1 M1 → sOk σ1 → W p l e room_1 s m #[Value.ref b] below meth c H1 locs1 288 16966 Q (F0 m 868 ls [])) : W p l e room_1 s m #[Value.ref b] below meth c H locs 288 16966 Q (F0 m 707 ls []) := by
  have hx := hE.1
  have hb := hE.2.1
  refine lv_aload_n hx hb dL_law_707 rfl (lv_at hl 1 rfl) ?_
  refine lv_aload_n hx hb dL_law_708 rfl (lv_at hl 0 rfl) ?_
  refine lv_iload_n hx hb dL_law_709 rfl (lv_at hl 3 rfl) ?_
  refine n_iconst hx hb 1 dL_law_710 (by decide) ?_
  refine n_iadd hx hb dL_law_711 ?_
  refine z_sld hx hb hX hbl hS (by omega) hL dL_law_712 ?_
  refine z_callV (As := [.int (xs (i + 1))]) (rest := []) (st2 := .int (fBest σ (xs (i + 1))) :: []) hE hH hS (Nat.le_refl _) hl ca_X5_bestTorn mkL_86 (c_X5_bestTorn l G s.heap.size M σ s.heap.size hC hok (by omega) (xs (i + 1))) hC.1 rfl rfl rfl rfl rfl ⟨Nat.le_of_ble_eq_true rfl, Nat.le_of_ble_eq_true rfl⟩ (Nat.le_of_ble_eq_true rfl) ⟨Nat.le_of_ble_eq_true rfl, Nat.le_of_ble_eq_true rfl⟩ dL_law_713 (fun H locs M1 hH hp hS => ?_)
  subst hp
  have hC1 := hC
  have hD1 := hD
  have hokn : sOk σ := hok
  replace hD := hD1
  refine lv_aload_n hx hb dL_law_716 rfl (lv_at hl 2 rfl) ?_
  refine lv_aload_n hx hb dL_law_717 rfl (lv_at hl 0 rfl) ?_
  refine lv_iload_n hx hb dL_law_718 rfl (lv_at hl 3 rfl) ?_
  refine n_iconst hx hb 1 dL_law_719 (by decide) ?_
  refine n_iadd hx hb dL_law_720 ?_
  refine z_sld hx hb hX hbl hS (by omega) hL dL_law_721 ?_
  refine z_callV (As := [.int (xs (i + 1))]) (rest := [.int (fBest σ (xs (i + 1)))]) (st2 := .int (fBest σ (xs (i + 1))) :: [.int (fBest σ (xs (i + 1)))]) hE hH hS (Nat.le_refl _) hl ca_X6_bestTorn mkL_89 (c_X6_bestTorn l G s.heap.size M (s.heap.size + 278) σ hD hok (by omega) (xs (i + 1))) (mo_at hD).choose_spec rfl rfl rfl rfl rfl ⟨Nat.le_of_ble_eq_true rfl, Nat.le_of_ble_eq_true rfl⟩ (Nat.le_of_ble_eq_true rfl) ⟨Nat.le_of_ble_eq_true rfl, Nat.le_of_ble_eq_true rfl⟩ dL_law_722 (fun H locs M2 hH hp hS => ?_)
  have hC2 := hC1.kept hokn (fun q q1 q2 => hp.2 q (by omega))
  exact lv_icmp_eq (tgt := 868) hx hb dL_law_725 (by decide) (fun _ => kk _ _ _ _ hH hS hC2 hp.1 hokn) (fun h => absurd rfl h)

set_option maxHeartbeats 4000000 in
set_option maxRecDepth 100000 in
theorem lc_put {p : Program} {l : Launch} {e : Env} {s : State} {m : MethodId} {below : List Frame} {meth : Method} {c : Code} {G : zG} {b L : Nat} {xs : Nat → Int32} {Q : State → Prop} (hE : zE p s m #[Value.ref b] meth c G RL cL_law 4 (some .boolean)) (hX : va_X b L xs s s.heap) (hbl : b < s.heap.size) (hL : L ≤ 3584) {i : Nat} (hi : i + 7 ≤ L) {σ : Sg} {M : Mm} {H : Heap} {locs : List Loc} {ls : Array Slot} (hH : zH G M H) (hS : zS 288 s.heap.size s.heap H locs) (hC : Cl G s.heap.size σ M) (hD : Mo G (s.heap.size + 278) σ M) (hok : sOk σ) (hl : lv_has ls 4 [(0, .ref b), (1, .ref s.heap.size), (2, .ref (s.heap.size + 278)), (3, .int (nI i))])
    (kk : ∀ (σ1 : Sg) (M1 : Mm) (H1 : Heap) (locs1 : List Loc), zH G M1 H1 → zS 288 s.heap.size s.heap H1 locs1 → Cl G s.heap.size σ1 M1 → Mo G (s.heap.size + 278) σ1 M1 → sOk σ1 → W p l e room_1 s m #[Value.ref b] below meth c H1 locs1 288 16966 Q (F0 m 868 ls [])) : W p l e room_1 s m #[Value.ref b] below meth c H locs 288 16966 Q (F0 m 730 ls []) := by
  have hx := hE.1
  have hb := hE.2.1
  refine lv_aload_n hx hb dL_law_730 rfl (lv_at hl 1 rfl) ?_
  refine lv_aload_n hx hb dL_law_731 rfl (lv_at hl 0 rfl) ?_
  refine lv_iload_n hx hb dL_law_732 rfl (lv_at hl 3 rfl) ?_
  refine n_iconst hx hb 1 dL_law_733 (by decide) ?_
  refine n_iadd hx hb dL_law_734 ?_
  refine z_sld hx hb hX hbl hS (by omega) hL dL_law_735 ?_
  refine lv_i2l hx hb dL_law_736 rfl ?_
  refine n_bipush hx hb 32 dL_law_737 (by decide) ?_
  refine lv_lshl hx hb dL_law_739 rfl ?_
  refine lv_aload_n hx hb dL_law_740 rfl (lv_at hl 0 rfl) ?_
  refine lv_iload_n hx hb dL_law_741 rfl (lv_at hl 3 rfl) ?_
  refine n_iconst hx hb 2 dL_law_742 (by decide) ?_
  refine n_iadd hx hb dL_law_743 ?_
  refine z_sld hx hb hX hbl hS (by omega) hL dL_law_744 ?_
  refine lv_i2l hx hb dL_law_745 rfl ?_
  refine lv_ldc2 hx hb hE.2.2.2.1 (hE.2.2.2.2.1 _ kcL_90) dL_law_746 ?_
  refine lv_land hx hb dL_law_749 ?_
  refine lv_lor hx hb dL_law_750 ?_
  obtain ⟨r0, hr0, er0⟩ := wb_of ((xs (i + 1)).toInt64 <<< ((nI 32).toInt64 &&& 63) ||| (xs (i + 2)).toInt64 &&& 4294967295)
  refine z_topl er0 ?_
  refine z_callV (As := [.long (lN r0)]) (rest := []) (st2 := .int (fPut σ r0).1 :: []) hE hH hS (Nat.le_refl _) hl ca_X5_put mkL_92 (c_X5_put l G s.heap.size M σ s.heap.size hC hok (by omega) r0 hr0) hC.1 rfl rfl rfl rfl rfl ⟨Nat.le_of_ble_eq_true rfl, Nat.le_of_ble_eq_true rfl⟩ (Nat.le_of_ble_eq_true rfl) ⟨Nat.le_of_ble_eq_true rfl, Nat.le_of_ble_eq_true rfl⟩ dL_law_751 (fun H locs M1 hH hp hS => ?_)
  have hC1 := hp.1
  have hD1 := hD.kept (fun q q1 q2 => hp.2 q (by omega))
  have hokn : sOk (fPut σ r0).2 := ok_put hok _
  replace hD := hD1
  refine lv_aload_n hx hb dL_law_754 rfl (lv_at hl 2 rfl) ?_
  refine lv_aload_n hx hb dL_law_755 rfl (lv_at hl 0 rfl) ?_
  refine lv_iload_n hx hb dL_law_756 rfl (lv_at hl 3 rfl) ?_
  refine n_iconst hx hb 1 dL_law_757 (by decide) ?_
  refine n_iadd hx hb dL_law_758 ?_
  refine z_sld hx hb hX hbl hS (by omega) hL dL_law_759 ?_
  refine lv_i2l hx hb dL_law_760 rfl ?_
  refine n_bipush hx hb 32 dL_law_761 (by decide) ?_
  refine lv_lshl hx hb dL_law_763 rfl ?_
  refine lv_aload_n hx hb dL_law_764 rfl (lv_at hl 0 rfl) ?_
  refine lv_iload_n hx hb dL_law_765 rfl (lv_at hl 3 rfl) ?_
  refine n_iconst hx hb 2 dL_law_766 (by decide) ?_
  refine n_iadd hx hb dL_law_767 ?_
  refine z_sld hx hb hX hbl hS (by omega) hL dL_law_768 ?_
  refine lv_i2l hx hb dL_law_769 rfl ?_
  refine lv_ldc2 hx hb hE.2.2.2.1 (hE.2.2.2.2.1 _ kcL_90) dL_law_770 ?_
  refine lv_land hx hb dL_law_773 ?_
  refine lv_lor hx hb dL_law_774 ?_
  refine z_topl er0 ?_
  refine z_callV (As := [.long (lN r0)]) (rest := [.int (fPut σ r0).1]) (st2 := .int (fPut σ r0).1 :: [.int (fPut σ r0).1]) hE hH hS (Nat.le_refl _) hl ca_X6_put mkL_96 (c_X6_put l G s.heap.size M1 (s.heap.size + 278) σ hD hok (by omega) r0 hr0) (mo_at hD).choose_spec rfl rfl rfl rfl rfl ⟨Nat.le_of_ble_eq_true rfl, Nat.le_of_ble_eq_true rfl⟩ (Nat.le_of_ble_eq_true rfl) ⟨Nat.le_of_ble_eq_true rfl, Nat.le_of_ble_eq_true rfl⟩ dL_law_775 (fun H locs M2 hH hp hS => ?_)
  have hC2 := hC1.kept hokn (fun q q1 q2 => hp.2 q (by omega))
  exact lv_icmp_eq (tgt := 868) hx hb dL_law_778 (by decide) (fun _ => kk _ _ _ _ hH hS hC2 hp.1 hokn) (fun h => absurd rfl h)

set_option maxHeartbeats 4000000 in
set_option maxRecDepth 100000 in
theorem lc_wipe {p : Program} {l : Launch} {e : Env} {s : State} {m : MethodId} {below : List Frame} {meth : Method} {c : Code} {G : zG} {b L : Nat} {xs : Nat → Int32} {Q : State → Prop} (hE : zE p s m #[Value.ref b] meth c G RL cL_law 4 (some .boolean)) (hX : va_X b L xs s s.heap) (hbl : b < s.heap.size) (hL : L ≤ 3584) {i : Nat} (hi : i + 7 ≤ L) {σ : Sg} {M : Mm} {H : Heap} {locs : List Loc} {ls : Array Slot} (hH : zH G M H) (hS : zS 288 s.heap.size s.heap H locs) (hC : Cl G s.heap.size σ M) (hD : Mo G (s.heap.size + 278) σ M) (hok : sOk σ) (hl : lv_has ls 4 [(0, .ref b), (1, .ref s.heap.size), (2, .ref (s.heap.size + 278)), (3, .int (nI i))])
    (kk : ∀ (σ1 : Sg) (M1 : Mm) (H1 : Heap) (locs1 : List Loc), zH G M1 H1 → zS 288 s.heap.size s.heap H1 locs1 → Cl G s.heap.size σ1 M1 → Mo G (s.heap.size + 278) σ1 M1 → sOk σ1 → W p l e room_1 s m #[Value.ref b] below meth c H1 locs1 288 16966 Q (F0 m 868 ls [])) : W p l e room_1 s m #[Value.ref b] below meth c H locs 288 16966 Q (F0 m 783 ls []) := by
  have hx := hE.1
  have hb := hE.2.1
  refine lv_aload_n hx hb dL_law_783 rfl (lv_at hl 1 rfl) ?_
  refine z_callV (As := []) (rest := []) (st2 := .int (fWipe σ).1 :: []) hE hH hS (Nat.le_refl _) hl ca_X5_wipe mkL_97 (c_X5_wipe l G s.heap.size M σ s.heap.size hC hok (by omega) ) hC.1 rfl rfl rfl rfl rfl ⟨Nat.le_of_ble_eq_true rfl, Nat.le_of_ble_eq_true rfl⟩ (Nat.le_of_ble_eq_true rfl) ⟨Nat.le_of_ble_eq_true rfl, Nat.le_of_ble_eq_true rfl⟩ dL_law_784 (fun H locs M1 hH hp hS => ?_)
  have hC1 := hp.1
  have hD1 := hD.kept (fun q q1 q2 => hp.2 q (by omega))
  have hokn : sOk (fWipe σ).2 := ok_wipe hok
  replace hD := hD1
  refine lv_aload_n hx hb dL_law_787 rfl (lv_at hl 2 rfl) ?_
  refine z_callV (As := []) (rest := [.int (fWipe σ).1]) (st2 := .int (fWipe σ).1 :: [.int (fWipe σ).1]) hE hH hS (Nat.le_refl _) hl ca_X6_wipe mkL_100 (c_X6_wipe l G s.heap.size M1 (s.heap.size + 278) σ hD hok (by omega) ) (mo_at hD).choose_spec rfl rfl rfl rfl rfl ⟨Nat.le_of_ble_eq_true rfl, Nat.le_of_ble_eq_true rfl⟩ (Nat.le_of_ble_eq_true rfl) ⟨Nat.le_of_ble_eq_true rfl, Nat.le_of_ble_eq_true rfl⟩ dL_law_788 (fun H locs M2 hH hp hS => ?_)
  have hC2 := hC1.kept hokn (fun q q1 q2 => hp.2 q (by omega))
  exact lv_icmp_eq (tgt := 868) hx hb dL_law_791 (by decide) (fun _ => kk _ _ _ _ hH hS hC2 hp.1 hokn) (fun h => absurd rfl h)

set_option maxHeartbeats 4000000 in
set_option maxRecDepth 100000 in
theorem lc_fault {p : Program} {l : Launch} {e : Env} {s : State} {m : MethodId} {below : List Frame} {meth : Method} {c : Code} {G : zG} {b L : Nat} {xs : Nat → Int32} {Q : State → Prop} (hE : zE p s m #[Value.ref b] meth c G RL cL_law 4 (some .boolean)) (hX : va_X b L xs s s.heap) (hbl : b < s.heap.size) (hL : L ≤ 3584) {i : Nat} (hi : i + 7 ≤ L) {σ : Sg} {M : Mm} {H : Heap} {locs : List Loc} {ls : Array Slot} (hH : zH G M H) (hS : zS 288 s.heap.size s.heap H locs) (hC : Cl G s.heap.size σ M) (hD : Mo G (s.heap.size + 278) σ M) (hok : sOk σ) (hl : lv_has ls 4 [(0, .ref b), (1, .ref s.heap.size), (2, .ref (s.heap.size + 278)), (3, .int (nI i))])
    (kk : ∀ (σ1 : Sg) (M1 : Mm) (H1 : Heap) (locs1 : List Loc), zH G M1 H1 → zS 288 s.heap.size s.heap H1 locs1 → Cl G s.heap.size σ1 M1 → Mo G (s.heap.size + 278) σ1 M1 → sOk σ1 → W p l e room_1 s m #[Value.ref b] below meth c H1 locs1 288 16966 Q (F0 m 868 ls [])) : W p l e room_1 s m #[Value.ref b] below meth c H locs 288 16966 Q (F0 m 796 ls []) := by
  have hx := hE.1
  have hb := hE.2.1
  refine lv_aload_n hx hb dL_law_796 rfl (lv_at hl 1 rfl) ?_
  refine z_callV (As := []) (rest := []) (st2 := .int (fFault σ) :: []) hE hH hS (Nat.le_refl _) hl ca_X5_fault mkL_101 (c_X5_fault l G s.heap.size M σ s.heap.size hC hok (by omega) ) hC.1 rfl rfl rfl rfl rfl ⟨Nat.le_of_ble_eq_true rfl, Nat.le_of_ble_eq_true rfl⟩ (Nat.le_of_ble_eq_true rfl) ⟨Nat.le_of_ble_eq_true rfl, Nat.le_of_ble_eq_true rfl⟩ dL_law_797 (fun H locs M1 hH hp hS => ?_)
  have hC1 := hp.1
  have hD1 := hD.kept (fun q q1 q2 => hp.2 q (by omega))
  have hokn : sOk σ := hok
  replace hD := hD1
  refine lv_aload_n hx hb dL_law_800 rfl (lv_at hl 2 rfl) ?_
  refine z_callV (As := []) (rest := [.int (fFault σ)]) (st2 := .int (fFault σ) :: [.int (fFault σ)]) hE hH hS (Nat.le_refl _) hl ca_X6_fault mkL_104 (c_X6_fault l G s.heap.size M1 (s.heap.size + 278) σ hD hok (by omega) ) (mo_at hD).choose_spec rfl rfl rfl rfl rfl ⟨Nat.le_of_ble_eq_true rfl, Nat.le_of_ble_eq_true rfl⟩ (Nat.le_of_ble_eq_true rfl) ⟨Nat.le_of_ble_eq_true rfl, Nat.le_of_ble_eq_true rfl⟩ dL_law_801 (fun H locs M2 hH hp hS => ?_)
  have hC2 := hC1.kept hokn (fun q q1 q2 => hp.2 q (by omega))
  exact lv_icmp_eq (tgt := 868) hx hb dL_law_804 (by decide) (fun _ => kk _ _ _ _ hH hS hC2 hp.1 hokn) (fun h => absurd rfl h)

set_option maxHeartbeats 4000000 in
set_option maxRecDepth 100000 in
theorem lc_undo {p : Program} {l : Launch} {e : Env} {s : State} {m : MethodId} {below : List Frame} {meth : Method} {c : Code} {G : zG} {b L : Nat} {xs : Nat → Int32} {Q : State → Prop} (hE : zE p s m #[Value.ref b] meth c G RL cL_law 4 (some .boolean)) (hX : va_X b L xs s s.heap) (hbl : b < s.heap.size) (hL : L ≤ 3584) {i : Nat} (hi : i + 7 ≤ L) {σ : Sg} {M : Mm} {H : Heap} {locs : List Loc} {ls : Array Slot} (hH : zH G M H) (hS : zS 288 s.heap.size s.heap H locs) (hC : Cl G s.heap.size σ M) (hD : Mo G (s.heap.size + 278) σ M) (hok : sOk σ) (hl : lv_has ls 4 [(0, .ref b), (1, .ref s.heap.size), (2, .ref (s.heap.size + 278)), (3, .int (nI i))])
    (kk : ∀ (σ1 : Sg) (M1 : Mm) (H1 : Heap) (locs1 : List Loc), zH G M1 H1 → zS 288 s.heap.size s.heap H1 locs1 → Cl G s.heap.size σ1 M1 → Mo G (s.heap.size + 278) σ1 M1 → sOk σ1 → W p l e room_1 s m #[Value.ref b] below meth c H1 locs1 288 16966 Q (F0 m 868 ls [])) : W p l e room_1 s m #[Value.ref b] below meth c H locs 288 16966 Q (F0 m 809 ls []) := by
  have hx := hE.1
  have hb := hE.2.1
  refine lv_aload_n hx hb dL_law_809 rfl (lv_at hl 1 rfl) ?_
  refine z_callV (As := []) (rest := []) (st2 := .int (fUndo σ).1 :: []) hE hH hS (Nat.le_refl _) hl ca_X5_undo mkL_105 (c_X5_undo l G s.heap.size M σ s.heap.size hC hok (by omega) ) hC.1 rfl rfl rfl rfl rfl ⟨Nat.le_of_ble_eq_true rfl, Nat.le_of_ble_eq_true rfl⟩ (Nat.le_of_ble_eq_true rfl) ⟨Nat.le_of_ble_eq_true rfl, Nat.le_of_ble_eq_true rfl⟩ dL_law_810 (fun H locs M1 hH hp hS => ?_)
  have hC1 := hp.1
  have hD1 := hD.kept (fun q q1 q2 => hp.2 q (by omega))
  have hokn : sOk (fUndo σ).2 := ok_undo hok
  replace hD := hD1
  refine lv_aload_n hx hb dL_law_813 rfl (lv_at hl 2 rfl) ?_
  refine z_callV (As := []) (rest := [.int (fUndo σ).1]) (st2 := .int (fUndo σ).1 :: [.int (fUndo σ).1]) hE hH hS (Nat.le_refl _) hl ca_X6_undo mkL_108 (c_X6_undo l G s.heap.size M1 (s.heap.size + 278) σ hD hok (by omega) ) (mo_at hD).choose_spec rfl rfl rfl rfl rfl ⟨Nat.le_of_ble_eq_true rfl, Nat.le_of_ble_eq_true rfl⟩ (Nat.le_of_ble_eq_true rfl) ⟨Nat.le_of_ble_eq_true rfl, Nat.le_of_ble_eq_true rfl⟩ dL_law_814 (fun H locs M2 hH hp hS => ?_)
  have hC2 := hC1.kept hokn (fun q q1 q2 => hp.2 q (by omega))
  exact lv_icmp_eq (tgt := 868) hx hb dL_law_817 (by decide) (fun _ => kk _ _ _ _ hH hS hC2 hp.1 hokn) (fun h => absurd rfl h)

set_option maxHeartbeats 4000000 in
set_option maxRecDepth 100000 in
theorem lc_save {p : Program} {l : Launch} {e : Env} {s : State} {m : MethodId} {below : List Frame} {meth : Method} {c : Code} {G : zG} {b L : Nat} {xs : Nat → Int32} {Q : State → Prop} (hE : zE p s m #[Value.ref b] meth c G RL cL_law 4 (some .boolean)) (hX : va_X b L xs s s.heap) (hbl : b < s.heap.size) (hL : L ≤ 3584) {i : Nat} (hi : i + 7 ≤ L) {σ : Sg} {M : Mm} {H : Heap} {locs : List Loc} {ls : Array Slot} (hH : zH G M H) (hS : zS 288 s.heap.size s.heap H locs) (hC : Cl G s.heap.size σ M) (hD : Mo G (s.heap.size + 278) σ M) (hok : sOk σ) (hl : lv_has ls 4 [(0, .ref b), (1, .ref s.heap.size), (2, .ref (s.heap.size + 278)), (3, .int (nI i))])
    (kk : ∀ (σ1 : Sg) (M1 : Mm) (H1 : Heap) (locs1 : List Loc), zH G M1 H1 → zS 288 s.heap.size s.heap H1 locs1 → Cl G s.heap.size σ1 M1 → Mo G (s.heap.size + 278) σ1 M1 → sOk σ1 → W p l e room_1 s m #[Value.ref b] below meth c H1 locs1 288 16966 Q (F0 m 868 ls [])) : W p l e room_1 s m #[Value.ref b] below meth c H locs 288 16966 Q (F0 m 822 ls []) := by
  have hx := hE.1
  have hb := hE.2.1
  refine lv_aload_n hx hb dL_law_822 rfl (lv_at hl 1 rfl) ?_
  refine lv_aload_n hx hb dL_law_823 rfl (lv_at hl 0 rfl) ?_
  refine lv_iload_n hx hb dL_law_824 rfl (lv_at hl 3 rfl) ?_
  refine n_iconst hx hb 1 dL_law_825 (by decide) ?_
  refine n_iadd hx hb dL_law_826 ?_
  refine z_sld hx hb hX hbl hS (by omega) hL dL_law_827 ?_
  refine z_callV (As := [.int (xs (i + 1))]) (rest := []) (st2 := .int (fSave σ (xs (i + 1))).1 :: []) hE hH hS (Nat.le_refl _) hl ca_X5_save mkL_109 (c_X5_save l G s.heap.size M σ s.heap.size hC hok (by omega) (xs (i + 1))) hC.1 rfl rfl rfl rfl rfl ⟨Nat.le_of_ble_eq_true rfl, Nat.le_of_ble_eq_true rfl⟩ (Nat.le_of_ble_eq_true rfl) ⟨Nat.le_of_ble_eq_true rfl, Nat.le_of_ble_eq_true rfl⟩ dL_law_828 (fun H locs M1 hH hp hS => ?_)
  have hC1 := hp.1
  have hD1 := hD.kept (fun q q1 q2 => hp.2 q (by omega))
  have hokn : sOk (fSave σ (xs (i + 1))).2 := ok_save hok _
  replace hD := hD1
  refine lv_aload_n hx hb dL_law_831 rfl (lv_at hl 2 rfl) ?_
  refine lv_aload_n hx hb dL_law_832 rfl (lv_at hl 0 rfl) ?_
  refine lv_iload_n hx hb dL_law_833 rfl (lv_at hl 3 rfl) ?_
  refine n_iconst hx hb 1 dL_law_834 (by decide) ?_
  refine n_iadd hx hb dL_law_835 ?_
  refine z_sld hx hb hX hbl hS (by omega) hL dL_law_836 ?_
  refine z_callV (As := [.int (xs (i + 1))]) (rest := [.int (fSave σ (xs (i + 1))).1]) (st2 := .int (fSave σ (xs (i + 1))).1 :: [.int (fSave σ (xs (i + 1))).1]) hE hH hS (Nat.le_refl _) hl ca_X6_save mkL_112 (c_X6_save l G s.heap.size M1 (s.heap.size + 278) σ hD hok (by omega) (xs (i + 1))) (mo_at hD).choose_spec rfl rfl rfl rfl rfl ⟨Nat.le_of_ble_eq_true rfl, Nat.le_of_ble_eq_true rfl⟩ (Nat.le_of_ble_eq_true rfl) ⟨Nat.le_of_ble_eq_true rfl, Nat.le_of_ble_eq_true rfl⟩ dL_law_837 (fun H locs M2 hH hp hS => ?_)
  have hC2 := hC1.kept hokn (fun q q1 q2 => hp.2 q (by omega))
  exact lv_icmp_eq (tgt := 868) hx hb dL_law_840 (by decide) (fun _ => kk _ _ _ _ hH hS hC2 hp.1 hokn) (fun h => absurd rfl h)

set_option maxHeartbeats 4000000 in
set_option maxRecDepth 100000 in
theorem lc_restore {p : Program} {l : Launch} {e : Env} {s : State} {m : MethodId} {below : List Frame} {meth : Method} {c : Code} {G : zG} {b L : Nat} {xs : Nat → Int32} {Q : State → Prop} (hE : zE p s m #[Value.ref b] meth c G RL cL_law 4 (some .boolean)) (hX : va_X b L xs s s.heap) (hbl : b < s.heap.size) (hL : L ≤ 3584) {i : Nat} (hi : i + 7 ≤ L) {σ : Sg} {M : Mm} {H : Heap} {locs : List Loc} {ls : Array Slot} (hH : zH G M H) (hS : zS 288 s.heap.size s.heap H locs) (hC : Cl G s.heap.size σ M) (hD : Mo G (s.heap.size + 278) σ M) (hok : sOk σ) (hl : lv_has ls 4 [(0, .ref b), (1, .ref s.heap.size), (2, .ref (s.heap.size + 278)), (3, .int (nI i))])
    (kk : ∀ (σ1 : Sg) (M1 : Mm) (H1 : Heap) (locs1 : List Loc), zH G M1 H1 → zS 288 s.heap.size s.heap H1 locs1 → Cl G s.heap.size σ1 M1 → Mo G (s.heap.size + 278) σ1 M1 → sOk σ1 → W p l e room_1 s m #[Value.ref b] below meth c H1 locs1 288 16966 Q (F0 m 868 ls [])) : W p l e room_1 s m #[Value.ref b] below meth c H locs 288 16966 Q (F0 m 845 ls []) := by
  have hx := hE.1
  have hb := hE.2.1
  refine lv_aload_n hx hb dL_law_845 rfl (lv_at hl 1 rfl) ?_
  refine lv_aload_n hx hb dL_law_846 rfl (lv_at hl 0 rfl) ?_
  refine lv_iload_n hx hb dL_law_847 rfl (lv_at hl 3 rfl) ?_
  refine n_iconst hx hb 1 dL_law_848 (by decide) ?_
  refine n_iadd hx hb dL_law_849 ?_
  refine z_sld hx hb hX hbl hS (by omega) hL dL_law_850 ?_
  refine z_callV (As := [.int (xs (i + 1))]) (rest := []) (st2 := .int (fRestore σ (xs (i + 1))).1 :: []) hE hH hS (Nat.le_refl _) hl ca_X5_restore mkL_113 (c_X5_restore l G s.heap.size M σ s.heap.size hC hok (by omega) (xs (i + 1))) hC.1 rfl rfl rfl rfl rfl ⟨Nat.le_of_ble_eq_true rfl, Nat.le_of_ble_eq_true rfl⟩ (Nat.le_of_ble_eq_true rfl) ⟨Nat.le_of_ble_eq_true rfl, Nat.le_of_ble_eq_true rfl⟩ dL_law_851 (fun H locs M1 hH hp hS => ?_)
  have hC1 := hp.1
  have hD1 := hD.kept (fun q q1 q2 => hp.2 q (by omega))
  have hokn : sOk (fRestore σ (xs (i + 1))).2 := ok_restore hok _
  replace hD := hD1
  refine lv_aload_n hx hb dL_law_854 rfl (lv_at hl 2 rfl) ?_
  refine lv_aload_n hx hb dL_law_855 rfl (lv_at hl 0 rfl) ?_
  refine lv_iload_n hx hb dL_law_856 rfl (lv_at hl 3 rfl) ?_
  refine n_iconst hx hb 1 dL_law_857 (by decide) ?_
  refine n_iadd hx hb dL_law_858 ?_
  refine z_sld hx hb hX hbl hS (by omega) hL dL_law_859 ?_
  refine z_callV (As := [.int (xs (i + 1))]) (rest := [.int (fRestore σ (xs (i + 1))).1]) (st2 := .int (fRestore σ (xs (i + 1))).1 :: [.int (fRestore σ (xs (i + 1))).1]) hE hH hS (Nat.le_refl _) hl ca_X6_restore mkL_116 (c_X6_restore l G s.heap.size M1 (s.heap.size + 278) σ hD hok (by omega) (xs (i + 1))) (mo_at hD).choose_spec rfl rfl rfl rfl rfl ⟨Nat.le_of_ble_eq_true rfl, Nat.le_of_ble_eq_true rfl⟩ (Nat.le_of_ble_eq_true rfl) ⟨Nat.le_of_ble_eq_true rfl, Nat.le_of_ble_eq_true rfl⟩ dL_law_860 (fun H locs M2 hH hp hS => ?_)
  have hC2 := hC1.kept hokn (fun q q1 q2 => hp.2 q (by omega))
  exact lv_icmp_eq (tgt := 868) hx hb dL_law_863 (by decide) (fun _ => kk _ _ _ _ hH hS hC2 hp.1 hokn) (fun h => absurd rfl h)
