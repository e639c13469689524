/-! the law's 32 calls, one row each: both answer alike and the invariant stays -/
theorem vp_nxt {j k L : Nat} (h : 5 * j + k < L) (hL : L ≤ 2560) : vp_in (zI ((5 * j : Nat) : Int) + zI (k : Int)) L := by
  rw [zI_add]
  exact ibd_in (ibd_t (by omega) (by omega) (by omega))
theorem q2c {ns : Nat} {M S : Mem} {x y : Option (Int32 × Mem)} (I : INV ns M S) (f : ∀ a : Row, WF a → RC 1 M a → RM S a → M 0 1 2 = S 0 0 4 → M 0 3 0 = S 0 0 6 → Q2 x y M S) : C0 ns x y := by
  obtain ⟨a, n, h, W, R, Q, HVh, HSh, X⟩ := id I
  obtain ⟨_, _, nx, _, _, e1, _⟩ := HVh
  obtain ⟨t, _, e3, e4, _⟩ := X
  exact Q3.c0 I (Q2.q3 (f a W R Q (e1.trans HSh.1.symm) (e3.trans e4.symm)))
theorem q3c {ns : Nat} {M S : Mem} {x y : Option (Int32 × Mem)} (I : INV ns M S) (f : ∀ a : Row, WF a → RC 1 M a → RM S a → Q3 x y M S) : C0 ns x y := by
  obtain ⟨a, n, h, W, R, Q, _⟩ := id I
  exact Q3.c0 I (f a W R Q)
section LAWC
variable {p : Program} {l : Launch} {e : Env} {s : State} {m : MethodId} {below : List Frame} {meth : Method} {c : Code} {H : Heap} {locs : List Loc} {cells slots : Nat} {Q : State → Prop}
variable {ls : Array Slot} {G : GG} {ns : Nat} {M S : Mem} {b L : Nat} {xs : Nat → Int32} {x3 : Int32}
set_option maxHeartbeats 2000000 in
theorem lwc_set (E0 : Cx p s m #[Value.ref b] meth c cL_law ret 4 "PenStrikeLaw" G) (I : INV ns M S) (L0 : LW G ns M S s H) (hX : va_X b L xs s s.heap) (hbl : b < s.heap.size) (hbA : ¬ AO G.2.2.2 b) (hS : va_S (AO G.2.2.2) s.heap H locs) (h1 : vp_in (x3 + zI ((1 : Nat) : Int)) L) (h2 : vp_in (x3 + zI ((2 : Nat) : Int)) L) (h3 : vp_in (x3 + zI ((3 : Nat) : Int)) L) (h4 : vp_in (x3 + zI ((4 : Nat) : Int)) L) (hf : cells + 21 ≤ room_1.cells ∧ slots + 228 ≤ room_1.slots) (hl : lv_has ls 4 [(0, .ref b), (1, .ref (adC G 0 0)), (2, .ref (adM G 0 0)), (3, .int x3)])
    (kk : ∀ (ns1 : Nat) (M1 S1 : Mem) (H1 : Heap) (locs1 : List Loc), INV ns1 M1 S1 → LW G ns1 M1 S1 s H1 → va_S (AO G.2.2.2) s.heap H1 locs1 → W p l e room_1 s m #[Value.ref b] below meth c H1 locs1 (cells + 21) (slots + 228) Q (F0 m 972 ls [])) : W p l e room_1 s m #[Value.ref b] below meth c H locs cells slots Q (F0 m 176 ls []) := by
  obtain ⟨hx, hb, hr, hlocks, hml, hown, hts, hK⟩ := id E0
  have hf0 : cells ≤ room_1.cells ∧ slots ≤ room_1.slots := ⟨Nat.le_trans (Nat.le_add_right cells 21) hf.1, Nat.le_trans (Nat.le_add_right slots 228) hf.2⟩
  obtain ⟨r, ns1, N, T, e1, e2, I1⟩ : CH (f_X7_set ns (xs (x3 + zI (1 : Nat)).toNatClampNeg) (xs (x3 + zI (2 : Nat)).toNatClampNeg) M) (f_X8_set (xs (x3 + zI (1 : Nat)).toNatClampNeg) (xs (x3 + zI (2 : Nat)).toNatClampNeg) S) := ch_set I (xs (x3 + zI (1 : Nat)).toNatClampNeg) (xs (x3 + zI (2 : Nat)).toNatClampNeg)
  refine lv_aload_n hx hb dL_law_176 rfl (lv_at hl 1 rfl) ?_
  refine lv_aload_n hx hb dL_law_177 rfl (lv_at hl 0 rfl) ?_
  refine lv_iload_n hx hb dL_law_178 rfl (lv_at hl 3 rfl) ?_
  refine lv_iconst (v := zI (1 : Nat)) hx hb dL_law_179 rfl ?_
  refine lv_iadd hx hb dL_law_180 ?_
  refine va_sld hx hb hX hbl hbA hS h1 dL_law_181 ?_
  refine lv_aload_n hx hb dL_law_182 rfl (lv_at hl 0 rfl) ?_
  refine lv_iload_n hx hb dL_law_183 rfl (lv_at hl 3 rfl) ?_
  refine lv_iconst (v := zI (2 : Nat)) hx hb dL_law_184 rfl ?_
  refine lv_iadd hx hb dL_law_185 ?_
  refine va_sld hx hb hX hbl hbA hS h2 dL_law_186 ?_
  refine lc_c (r := r) (As := [.int (xs (x3 + zI (1 : Nat)).toNatClampNeg), .int (xs (x3 + zI (2 : Nat)).toNatClampNeg)]) (na := 2) (rest := []) (ns' := ns1) E0 L0 (c_X7_set l (G := G) e1) w_299 w_300 w_301 w_1 w_302 (by decide +kernel) ⟨Nat.le_of_ble_eq_true rfl, Nat.le_of_ble_eq_true rfl⟩ rfl hl rfl (Nat.le_of_ble_eq_true rfl) dL_law_187 hf hS (fun H locs L0 hS => ?_)
  refine lv_aload_n hx hb dL_law_190 rfl (lv_at hl 2 rfl) ?_
  refine lv_aload_n hx hb dL_law_191 rfl (lv_at hl 0 rfl) ?_
  refine lv_iload_n hx hb dL_law_192 rfl (lv_at hl 3 rfl) ?_
  refine lv_iconst (v := zI (1 : Nat)) hx hb dL_law_193 rfl ?_
  refine lv_iadd hx hb dL_law_194 ?_
  refine va_sld hx hb hX hbl hbA hS h1 dL_law_195 ?_
  refine lv_aload_n hx hb dL_law_196 rfl (lv_at hl 0 rfl) ?_
  refine lv_iload_n hx hb dL_law_197 rfl (lv_at hl 3 rfl) ?_
  refine lv_iconst (v := zI (2 : Nat)) hx hb dL_law_198 rfl ?_
  refine lv_iadd hx hb dL_law_199 ?_
  refine va_sld hx hb hX hbl hbA hS h2 dL_law_200 ?_
  refine lc_m (r := r) (As := [.int (xs (x3 + zI (1 : Nat)).toNatClampNeg), .int (xs (x3 + zI (2 : Nat)).toNatClampNeg)]) (na := 2) (rest := [.int r]) E0 L0 (c_X8_set l (G := G) e2) w_847 w_848 w_849 w_9 w_850 (by decide +kernel) ⟨Nat.le_of_ble_eq_true rfl, Nat.le_of_ble_eq_true rfl⟩ rfl hl rfl (Nat.le_of_ble_eq_true rfl) dL_law_201 hf hS (fun H locs L0 hS => ?_)
  refine lv_icmp_eq (tgt := 972) hx hb dL_law_204 (by decide) (fun _ => ?_) (fun z => absurd rfl z)
  exact kk _ _ _ H locs I1 L0 hS
set_option maxHeartbeats 2000000 in
theorem lwc_pen (E0 : Cx p s m #[Value.ref b] meth c cL_law ret 4 "PenStrikeLaw" G) (I : INV ns M S) (L0 : LW G ns M S s H) (hX : va_X b L xs s s.heap) (hbl : b < s.heap.size) (hbA : ¬ AO G.2.2.2 b) (hS : va_S (AO G.2.2.2) s.heap H locs) (h1 : vp_in (x3 + zI ((1 : Nat) : Int)) L) (h2 : vp_in (x3 + zI ((2 : Nat) : Int)) L) (h3 : vp_in (x3 + zI ((3 : Nat) : Int)) L) (h4 : vp_in (x3 + zI ((4 : Nat) : Int)) L) (hf : cells + 21 ≤ room_1.cells ∧ slots + 228 ≤ room_1.slots) (hl : lv_has ls 4 [(0, .ref b), (1, .ref (adC G 0 0)), (2, .ref (adM G 0 0)), (3, .int x3)])
    (kk : ∀ (ns1 : Nat) (M1 S1 : Mem) (H1 : Heap) (locs1 : List Loc), INV ns1 M1 S1 → LW G ns1 M1 S1 s H1 → va_S (AO G.2.2.2) s.heap H1 locs1 → W p l e room_1 s m #[Value.ref b] below meth c H1 locs1 (cells + 21) (slots + 228) Q (F0 m 972 ls [])) : W p l e room_1 s m #[Value.ref b] below meth c H locs cells slots Q (F0 m 209 ls []) := by
  obtain ⟨hx, hb, hr, hlocks, hml, hown, hts, hK⟩ := id E0
  have hf0 : cells ≤ room_1.cells ∧ slots ≤ room_1.slots := ⟨Nat.le_trans (Nat.le_add_right cells 21) hf.1, Nat.le_trans (Nat.le_add_right slots 228) hf.2⟩
  obtain ⟨r, ns1, N, T, e1, e2, I1⟩ : CH (f_X7_pen ns (xs (x3 + zI (1 : Nat)).toNatClampNeg) (xs (x3 + zI (2 : Nat)).toNatClampNeg) (xs (x3 + zI (3 : Nat)).toNatClampNeg) (xs (x3 + zI (4 : Nat)).toNatClampNeg) M) (f_X8_pen (xs (x3 + zI (1 : Nat)).toNatClampNeg) (xs (x3 + zI (2 : Nat)).toNatClampNeg) (xs (x3 + zI (3 : Nat)).toNatClampNeg) (xs (x3 + zI (4 : Nat)).toNatClampNeg) S) := ch_pen I (xs (x3 + zI (1 : Nat)).toNatClampNeg) (xs (x3 + zI (2 : Nat)).toNatClampNeg) (xs (x3 + zI (3 : Nat)).toNatClampNeg) (xs (x3 + zI (4 : Nat)).toNatClampNeg)
  refine lv_aload_n hx hb dL_law_209 rfl (lv_at hl 1 rfl) ?_
  refine lv_aload_n hx hb dL_law_210 rfl (lv_at hl 0 rfl) ?_
  refine lv_iload_n hx hb dL_law_211 rfl (lv_at hl 3 rfl) ?_
  refine lv_iconst (v := zI (1 : Nat)) hx hb dL_law_212 rfl ?_
  refine lv_iadd hx hb dL_law_213 ?_
  refine va_sld hx hb hX hbl hbA hS h1 dL_law_214 ?_
  refine lv_aload_n hx hb dL_law_215 rfl (lv_at hl 0 rfl) ?_
  refine lv_iload_n hx hb dL_law_216 rfl (lv_at hl 3 rfl) ?_
  refine lv_iconst (v := zI (2 : Nat)) hx hb dL_law_217 rfl ?_
  refine lv_iadd hx hb dL_law_218 ?_
  refine va_sld hx hb hX hbl hbA hS h2 dL_law_219 ?_
  refine lv_aload_n hx hb dL_law_220 rfl (lv_at hl 0 rfl) ?_
  refine lv_iload_n hx hb dL_law_221 rfl (lv_at hl 3 rfl) ?_
  refine lv_iconst (v := zI (3 : Nat)) hx hb dL_law_222 rfl ?_
  refine lv_iadd hx hb dL_law_223 ?_
  refine va_sld hx hb hX hbl hbA hS h3 dL_law_224 ?_
  refine lv_aload_n hx hb dL_law_225 rfl (lv_at hl 0 rfl) ?_
  refine lv_iload_n hx hb dL_law_226 rfl (lv_at hl 3 rfl) ?_
  refine lv_iconst (v := zI (4 : Nat)) hx hb dL_law_227 rfl ?_
  refine lv_iadd hx hb dL_law_228 ?_
  refine va_sld hx hb hX hbl hbA hS h4 dL_law_229 ?_
  refine lc_c (r := r) (As := [.int (xs (x3 + zI (1 : Nat)).toNatClampNeg), .int (xs (x3 + zI (2 : Nat)).toNatClampNeg), .int (xs (x3 + zI (3 : Nat)).toNatClampNeg), .int (xs (x3 + zI (4 : Nat)).toNatClampNeg)]) (na := 4) (rest := []) (ns' := ns1) E0 L0 (c_X7_pen l (G := G) e1) w_340 w_341 w_342 w_1 w_343 (by decide +kernel) ⟨Nat.le_of_ble_eq_true rfl, Nat.le_of_ble_eq_true rfl⟩ rfl hl rfl (Nat.le_of_ble_eq_true rfl) dL_law_230 hf hS (fun H locs L0 hS => ?_)
  refine lv_aload_n hx hb dL_law_233 rfl (lv_at hl 2 rfl) ?_
  refine lv_aload_n hx hb dL_law_234 rfl (lv_at hl 0 rfl) ?_
  refine lv_iload_n hx hb dL_law_235 rfl (lv_at hl 3 rfl) ?_
  refine lv_iconst (v := zI (1 : Nat)) hx hb dL_law_236 rfl ?_
  refine lv_iadd hx hb dL_law_237 ?_
  refine va_sld hx hb hX hbl hbA hS h1 dL_law_238 ?_
  refine lv_aload_n hx hb dL_law_239 rfl (lv_at hl 0 rfl) ?_
  refine lv_iload_n hx hb dL_law_240 rfl (lv_at hl 3 rfl) ?_
  refine lv_iconst (v := zI (2 : Nat)) hx hb dL_law_241 rfl ?_
  refine lv_iadd hx hb dL_law_242 ?_
  refine va_sld hx hb hX hbl hbA hS h2 dL_law_243 ?_
  refine lv_aload_n hx hb dL_law_244 rfl (lv_at hl 0 rfl) ?_
  refine lv_iload_n hx hb dL_law_245 rfl (lv_at hl 3 rfl) ?_
  refine lv_iconst (v := zI (3 : Nat)) hx hb dL_law_246 rfl ?_
  refine lv_iadd hx hb dL_law_247 ?_
  refine va_sld hx hb hX hbl hbA hS h3 dL_law_248 ?_
  refine lv_aload_n hx hb dL_law_249 rfl (lv_at hl 0 rfl) ?_
  refine lv_iload_n hx hb dL_law_250 rfl (lv_at hl 3 rfl) ?_
  refine lv_iconst (v := zI (4 : Nat)) hx hb dL_law_251 rfl ?_
  refine lv_iadd hx hb dL_law_252 ?_
  refine va_sld hx hb hX hbl hbA hS h4 dL_law_253 ?_
  refine lc_m (r := r) (As := [.int (xs (x3 + zI (1 : Nat)).toNatClampNeg), .int (xs (x3 + zI (2 : Nat)).toNatClampNeg), .int (xs (x3 + zI (3 : Nat)).toNatClampNeg), .int (xs (x3 + zI (4 : Nat)).toNatClampNeg)]) (na := 4) (rest := [.int r]) E0 L0 (c_X8_pen l (G := G) e2) w_863 w_864 w_865 w_9 w_866 (by decide +kernel) ⟨Nat.le_of_ble_eq_true rfl, Nat.le_of_ble_eq_true rfl⟩ rfl hl rfl (Nat.le_of_ble_eq_true rfl) dL_law_254 hf hS (fun H locs L0 hS => ?_)
  refine lv_icmp_eq (tgt := 972) hx hb dL_law_257 (by decide) (fun _ => ?_) (fun z => absurd rfl z)
  exact kk _ _ _ H locs I1 L0 hS
set_option maxHeartbeats 2000000 in
theorem lwc_line (E0 : Cx p s m #[Value.ref b] meth c cL_law ret 4 "PenStrikeLaw" G) (I : INV ns M S) (L0 : LW G ns M S s H) (hX : va_X b L xs s s.heap) (hbl : b < s.heap.size) (hbA : ¬ AO G.2.2.2 b) (hS : va_S (AO G.2.2.2) s.heap H locs) (h1 : vp_in (x3 + zI ((1 : Nat) : Int)) L) (h2 : vp_in (x3 + zI ((2 : Nat) : Int)) L) (h3 : vp_in (x3 + zI ((3 : Nat) : Int)) L) (h4 : vp_in (x3 + zI ((4 : Nat) : Int)) L) (hf : cells + 21 ≤ room_1.cells ∧ slots + 228 ≤ room_1.slots) (hl : lv_has ls 4 [(0, .ref b), (1, .ref (adC G 0 0)), (2, .ref (adM G 0 0)), (3, .int x3)])
    (kk : ∀ (ns1 : Nat) (M1 S1 : Mem) (H1 : Heap) (locs1 : List Loc), INV ns1 M1 S1 → LW G ns1 M1 S1 s H1 → va_S (AO G.2.2.2) s.heap H1 locs1 → W p l e room_1 s m #[Value.ref b] below meth c H1 locs1 (cells + 21) (slots + 228) Q (F0 m 972 ls [])) : W p l e room_1 s m #[Value.ref b] below meth c H locs cells slots Q (F0 m 262 ls []) := by
  obtain ⟨hx, hb, hr, hlocks, hml, hown, hts, hK⟩ := id E0
  have hf0 : cells ≤ room_1.cells ∧ slots ≤ room_1.slots := ⟨Nat.le_trans (Nat.le_add_right cells 21) hf.1, Nat.le_trans (Nat.le_add_right slots 228) hf.2⟩
  obtain ⟨r, ns1, N, T, e1, e2, I1⟩ : CH (f_X7_line ns (xs (x3 + zI (1 : Nat)).toNatClampNeg) (xs (x3 + zI (2 : Nat)).toNatClampNeg) (xs (x3 + zI (3 : Nat)).toNatClampNeg) (xs (x3 + zI (4 : Nat)).toNatClampNeg) M) (f_X8_line (xs (x3 + zI (1 : Nat)).toNatClampNeg) (xs (x3 + zI (2 : Nat)).toNatClampNeg) (xs (x3 + zI (3 : Nat)).toNatClampNeg) (xs (x3 + zI (4 : Nat)).toNatClampNeg) S) := ch_line I (xs (x3 + zI (1 : Nat)).toNatClampNeg) (xs (x3 + zI (2 : Nat)).toNatClampNeg) (xs (x3 + zI (3 : Nat)).toNatClampNeg) (xs (x3 + zI (4 : Nat)).toNatClampNeg)
  refine lv_aload_n hx hb dL_law_262 rfl (lv_at hl 1 rfl) ?_
  refine lv_aload_n hx hb dL_law_263 rfl (lv_at hl 0 rfl) ?_
  refine lv_iload_n hx hb dL_law_264 rfl (lv_at hl 3 rfl) ?_
  refine lv_iconst (v := zI (1 : Nat)) hx hb dL_law_265 rfl ?_
  refine lv_iadd hx hb dL_law_266 ?_
  refine va_sld hx hb hX hbl hbA hS h1 dL_law_267 ?_
  refine lv_aload_n hx hb dL_law_268 rfl (lv_at hl 0 rfl) ?_
  refine lv_iload_n hx hb dL_law_269 rfl (lv_at hl 3 rfl) ?_
  refine lv_iconst (v := zI (2 : Nat)) hx hb dL_law_270 rfl ?_
  refine lv_iadd hx hb dL_law_271 ?_
  refine va_sld hx hb hX hbl hbA hS h2 dL_law_272 ?_
  refine lv_aload_n hx hb dL_law_273 rfl (lv_at hl 0 rfl) ?_
  refine lv_iload_n hx hb dL_law_274 rfl (lv_at hl 3 rfl) ?_
  refine lv_iconst (v := zI (3 : Nat)) hx hb dL_law_275 rfl ?_
  refine lv_iadd hx hb dL_law_276 ?_
  refine va_sld hx hb hX hbl hbA hS h3 dL_law_277 ?_
  refine lv_aload_n hx hb dL_law_278 rfl (lv_at hl 0 rfl) ?_
  refine lv_iload_n hx hb dL_law_279 rfl (lv_at hl 3 rfl) ?_
  refine lv_iconst (v := zI (4 : Nat)) hx hb dL_law_280 rfl ?_
  refine lv_iadd hx hb dL_law_281 ?_
  refine va_sld hx hb hX hbl hbA hS h4 dL_law_282 ?_
  refine lc_c (r := r) (As := [.int (xs (x3 + zI (1 : Nat)).toNatClampNeg), .int (xs (x3 + zI (2 : Nat)).toNatClampNeg), .int (xs (x3 + zI (3 : Nat)).toNatClampNeg), .int (xs (x3 + zI (4 : Nat)).toNatClampNeg)]) (na := 4) (rest := []) (ns' := ns1) E0 L0 (c_X7_line l (G := G) e1) w_357 w_358 w_359 w_1 w_360 (by decide +kernel) ⟨Nat.le_of_ble_eq_true rfl, Nat.le_of_ble_eq_true rfl⟩ rfl hl rfl (Nat.le_of_ble_eq_true rfl) dL_law_283 hf hS (fun H locs L0 hS => ?_)
  refine lv_aload_n hx hb dL_law_286 rfl (lv_at hl 2 rfl) ?_
  refine lv_aload_n hx hb dL_law_287 rfl (lv_at hl 0 rfl) ?_
  refine lv_iload_n hx hb dL_law_288 rfl (lv_at hl 3 rfl) ?_
  refine lv_iconst (v := zI (1 : Nat)) hx hb dL_law_289 rfl ?_
  refine lv_iadd hx hb dL_law_290 ?_
  refine va_sld hx hb hX hbl hbA hS h1 dL_law_291 ?_
  refine lv_aload_n hx hb dL_law_292 rfl (lv_at hl 0 rfl) ?_
  refine lv_iload_n hx hb dL_law_293 rfl (lv_at hl 3 rfl) ?_
  refine lv_iconst (v := zI (2 : Nat)) hx hb dL_law_294 rfl ?_
  refine lv_iadd hx hb dL_law_295 ?_
  refine va_sld hx hb hX hbl hbA hS h2 dL_law_296 ?_
  refine lv_aload_n hx hb dL_law_297 rfl (lv_at hl 0 rfl) ?_
  refine lv_iload_n hx hb dL_law_298 rfl (lv_at hl 3 rfl) ?_
  refine lv_iconst (v := zI (3 : Nat)) hx hb dL_law_299 rfl ?_
  refine lv_iadd hx hb dL_law_300 ?_
  refine va_sld hx hb hX hbl hbA hS h3 dL_law_301 ?_
  refine lv_aload_n hx hb dL_law_302 rfl (lv_at hl 0 rfl) ?_
  refine lv_iload_n hx hb dL_law_303 rfl (lv_at hl 3 rfl) ?_
  refine lv_iconst (v := zI (4 : Nat)) hx hb dL_law_304 rfl ?_
  refine lv_iadd hx hb dL_law_305 ?_
  refine va_sld hx hb hX hbl hbA hS h4 dL_law_306 ?_
  refine lc_m (r := r) (As := [.int (xs (x3 + zI (1 : Nat)).toNatClampNeg), .int (xs (x3 + zI (2 : Nat)).toNatClampNeg), .int (xs (x3 + zI (3 : Nat)).toNatClampNeg), .int (xs (x3 + zI (4 : Nat)).toNatClampNeg)]) (na := 4) (rest := [.int r]) E0 L0 (c_X8_line l (G := G) e2) w_877 w_878 w_879 w_9 w_880 (by decide +kernel) ⟨Nat.le_of_ble_eq_true rfl, Nat.le_of_ble_eq_true rfl⟩ rfl hl rfl (Nat.le_of_ble_eq_true rfl) dL_law_307 hf hS (fun H locs L0 hS => ?_)
  refine lv_icmp_eq (tgt := 972) hx hb dL_law_310 (by decide) (fun _ => ?_) (fun z => absurd rfl z)
  exact kk _ _ _ H locs I1 L0 hS
set_option maxHeartbeats 2000000 in
theorem lwc_leave (E0 : Cx p s m #[Value.ref b] meth c cL_law ret 4 "PenStrikeLaw" G) (I : INV ns M S) (L0 : LW G ns M S s H) (hX : va_X b L xs s s.heap) (hbl : b < s.heap.size) (hbA : ¬ AO G.2.2.2 b) (hS : va_S (AO G.2.2.2) s.heap H locs) (h1 : vp_in (x3 + zI ((1 : Nat) : Int)) L) (h2 : vp_in (x3 + zI ((2 : Nat) : Int)) L) (h3 : vp_in (x3 + zI ((3 : Nat) : Int)) L) (h4 : vp_in (x3 + zI ((4 : Nat) : Int)) L) (hf : cells + 21 ≤ room_1.cells ∧ slots + 228 ≤ room_1.slots) (hl : lv_has ls 4 [(0, .ref b), (1, .ref (adC G 0 0)), (2, .ref (adM G 0 0)), (3, .int x3)])
    (kk : ∀ (ns1 : Nat) (M1 S1 : Mem) (H1 : Heap) (locs1 : List Loc), INV ns1 M1 S1 → LW G ns1 M1 S1 s H1 → va_S (AO G.2.2.2) s.heap H1 locs1 → W p l e room_1 s m #[Value.ref b] below meth c H1 locs1 (cells + 21) (slots + 228) Q (F0 m 972 ls [])) : W p l e room_1 s m #[Value.ref b] below meth c H locs cells slots Q (F0 m 315 ls []) := by
  obtain ⟨hx, hb, hr, hlocks, hml, hown, hts, hK⟩ := id E0
  have hf0 : cells ≤ room_1.cells ∧ slots ≤ room_1.slots := ⟨Nat.le_trans (Nat.le_add_right cells 21) hf.1, Nat.le_trans (Nat.le_add_right slots 228) hf.2⟩
  obtain ⟨r, ns1, N, T, e1, e2, I1⟩ : CH (f_X7_leave ns (xs (x3 + zI (1 : Nat)).toNatClampNeg) (xs (x3 + zI (2 : Nat)).toNatClampNeg) M) (f_X8_leave (xs (x3 + zI (1 : Nat)).toNatClampNeg) (xs (x3 + zI (2 : Nat)).toNatClampNeg) S) := ch_leave I (xs (x3 + zI (1 : Nat)).toNatClampNeg) (xs (x3 + zI (2 : Nat)).toNatClampNeg)
  refine lv_aload_n hx hb dL_law_315 rfl (lv_at hl 1 rfl) ?_
  refine lv_aload_n hx hb dL_law_316 rfl (lv_at hl 0 rfl) ?_
  refine lv_iload_n hx hb dL_law_317 rfl (lv_at hl 3 rfl) ?_
  refine lv_iconst (v := zI (1 : Nat)) hx hb dL_law_318 rfl ?_
  refine lv_iadd hx hb dL_law_319 ?_
  refine va_sld hx hb hX hbl hbA hS h1 dL_law_320 ?_
  refine lv_aload_n hx hb dL_law_321 rfl (lv_at hl 0 rfl) ?_
  refine lv_iload_n hx hb dL_law_322 rfl (lv_at hl 3 rfl) ?_
  refine lv_iconst (v := zI (2 : Nat)) hx hb dL_law_323 rfl ?_
  refine lv_iadd hx hb dL_law_324 ?_
  refine va_sld hx hb hX hbl hbA hS h2 dL_law_325 ?_
  refine lc_c (r := r) (As := [.int (xs (x3 + zI (1 : Nat)).toNatClampNeg), .int (xs (x3 + zI (2 : Nat)).toNatClampNeg)]) (na := 2) (rest := []) (ns' := ns1) E0 L0 (c_X7_leave l (G := G) e1) w_394 w_395 w_396 w_1 w_397 (by decide +kernel) ⟨Nat.le_of_ble_eq_true rfl, Nat.le_of_ble_eq_true rfl⟩ rfl hl rfl (Nat.le_of_ble_eq_true rfl) dL_law_326 hf hS (fun H locs L0 hS => ?_)
  refine lv_aload_n hx hb dL_law_329 rfl (lv_at hl 2 rfl) ?_
  refine lv_aload_n hx hb dL_law_330 rfl (lv_at hl 0 rfl) ?_
  refine lv_iload_n hx hb dL_law_331 rfl (lv_at hl 3 rfl) ?_
  refine lv_iconst (v := zI (1 : Nat)) hx hb dL_law_332 rfl ?_
  refine lv_iadd hx hb dL_law_333 ?_
  refine va_sld hx hb hX hbl hbA hS h1 dL_law_334 ?_
  refine lv_aload_n hx hb dL_law_335 rfl (lv_at hl 0 rfl) ?_
  refine lv_iload_n hx hb dL_law_336 rfl (lv_at hl 3 rfl) ?_
  refine lv_iconst (v := zI (2 : Nat)) hx hb dL_law_337 rfl ?_
  refine lv_iadd hx hb dL_law_338 ?_
  refine va_sld hx hb hX hbl hbA hS h2 dL_law_339 ?_
  refine lc_m (r := r) (As := [.int (xs (x3 + zI (1 : Nat)).toNatClampNeg), .int (xs (x3 + zI (2 : Nat)).toNatClampNeg)]) (na := 2) (rest := [.int r]) E0 L0 (c_X8_leave l (G := G) e2) w_884 w_885 w_886 w_9 w_887 (by decide +kernel) ⟨Nat.le_of_ble_eq_true rfl, Nat.le_of_ble_eq_true rfl⟩ rfl hl rfl (Nat.le_of_ble_eq_true rfl) dL_law_340 hf hS (fun H locs L0 hS => ?_)
  refine lv_icmp_eq (tgt := 972) hx hb dL_law_343 (by decide) (fun _ => ?_) (fun z => absurd rfl z)
  exact kk _ _ _ H locs I1 L0 hS
set_option maxHeartbeats 2000000 in
theorem lwc_refill (E0 : Cx p s m #[Value.ref b] meth c cL_law ret 4 "PenStrikeLaw" G) (I : INV ns M S) (L0 : LW G ns M S s H) (hX : va_X b L xs s s.heap) (hbl : b < s.heap.size) (hbA : ¬ AO G.2.2.2 b) (hS : va_S (AO G.2.2.2) s.heap H locs) (h1 : vp_in (x3 + zI ((1 : Nat) : Int)) L) (h2 : vp_in (x3 + zI ((2 : Nat) : Int)) L) (h3 : vp_in (x3 + zI ((3 : Nat) : Int)) L) (h4 : vp_in (x3 + zI ((4 : Nat) : Int)) L) (hf : cells + 21 ≤ room_1.cells ∧ slots + 228 ≤ room_1.slots) (hl : lv_has ls 4 [(0, .ref b), (1, .ref (adC G 0 0)), (2, .ref (adM G 0 0)), (3, .int x3)])
    (kk : ∀ (ns1 : Nat) (M1 S1 : Mem) (H1 : Heap) (locs1 : List Loc), INV ns1 M1 S1 → LW G ns1 M1 S1 s H1 → va_S (AO G.2.2.2) s.heap H1 locs1 → W p l e room_1 s m #[Value.ref b] below meth c H1 locs1 (cells + 21) (slots + 228) Q (F0 m 972 ls [])) : W p l e room_1 s m #[Value.ref b] below meth c H locs cells slots Q (F0 m 348 ls []) := by
  obtain ⟨hx, hb, hr, hlocks, hml, hown, hts, hK⟩ := id E0
  have hf0 : cells ≤ room_1.cells ∧ slots ≤ room_1.slots := ⟨Nat.le_trans (Nat.le_add_right cells 21) hf.1, Nat.le_trans (Nat.le_add_right slots 228) hf.2⟩
  obtain ⟨r, ns1, N, T, e1, e2, I1⟩ : CH (f_X7_refill ns (xs (x3 + zI (1 : Nat)).toNatClampNeg) M) (f_X8_refill (xs (x3 + zI (1 : Nat)).toNatClampNeg) S) := ch_refill I (xs (x3 + zI (1 : Nat)).toNatClampNeg)
  refine lv_aload_n hx hb dL_law_348 rfl (lv_at hl 1 rfl) ?_
  refine lv_aload_n hx hb dL_law_349 rfl (lv_at hl 0 rfl) ?_
  refine lv_iload_n hx hb dL_law_350 rfl (lv_at hl 3 rfl) ?_
  refine lv_iconst (v := zI (1 : Nat)) hx hb dL_law_351 rfl ?_
  refine lv_iadd hx hb dL_law_352 ?_
  refine va_sld hx hb hX hbl hbA hS h1 dL_law_353 ?_
  refine lc_c (r := r) (As := [.int (xs (x3 + zI (1 : Nat)).toNatClampNeg)]) (na := 1) (rest := []) (ns' := ns1) E0 L0 (c_X7_refill l (G := G) e1) w_407 w_408 w_409 w_1 w_410 (by decide +kernel) ⟨Nat.le_of_ble_eq_true rfl, Nat.le_of_ble_eq_true rfl⟩ rfl hl rfl (Nat.le_of_ble_eq_true rfl) dL_law_354 hf hS (fun H locs L0 hS => ?_)
  refine lv_aload_n hx hb dL_law_357 rfl (lv_at hl 2 rfl) ?_
  refine lv_aload_n hx hb dL_law_358 rfl (lv_at hl 0 rfl) ?_
  refine lv_iload_n hx hb dL_law_359 rfl (lv_at hl 3 rfl) ?_
  refine lv_iconst (v := zI (1 : Nat)) hx hb dL_law_360 rfl ?_
  refine lv_iadd hx hb dL_law_361 ?_
  refine va_sld hx hb hX hbl hbA hS h1 dL_law_362 ?_
  refine lc_m (r := r) (As := [.int (xs (x3 + zI (1 : Nat)).toNatClampNeg)]) (na := 1) (rest := [.int r]) E0 L0 (c_X8_refill l (G := G) e2) w_896 w_897 w_898 w_9 w_899 (by decide +kernel) ⟨Nat.le_of_ble_eq_true rfl, Nat.le_of_ble_eq_true rfl⟩ rfl hl rfl (Nat.le_of_ble_eq_true rfl) dL_law_363 hf hS (fun H locs L0 hS => ?_)
  refine lv_icmp_eq (tgt := 972) hx hb dL_law_366 (by decide) (fun _ => ?_) (fun z => absurd rfl z)
  exact kk _ _ _ H locs I1 L0 hS
set_option maxHeartbeats 2000000 in
theorem lwc_penOf (E0 : Cx p s m #[Value.ref b] meth c cL_law ret 4 "PenStrikeLaw" G) (I : INV ns M S) (L0 : LW G ns M S s H) (hX : va_X b L xs s s.heap) (hbl : b < s.heap.size) (hbA : ¬ AO G.2.2.2 b) (hS : va_S (AO G.2.2.2) s.heap H locs) (h1 : vp_in (x3 + zI ((1 : Nat) : Int)) L) (h2 : vp_in (x3 + zI ((2 : Nat) : Int)) L) (h3 : vp_in (x3 + zI ((3 : Nat) : Int)) L) (h4 : vp_in (x3 + zI ((4 : Nat) : Int)) L) (hf : cells + 21 ≤ room_1.cells ∧ slots + 228 ≤ room_1.slots) (hl : lv_has ls 4 [(0, .ref b), (1, .ref (adC G 0 0)), (2, .ref (adM G 0 0)), (3, .int x3)])
    (kk : ∀ (ns1 : Nat) (M1 S1 : Mem) (H1 : Heap) (locs1 : List Loc), INV ns1 M1 S1 → LW G ns1 M1 S1 s H1 → va_S (AO G.2.2.2) s.heap H1 locs1 → W p l e room_1 s m #[Value.ref b] below meth c H1 locs1 (cells + 21) (slots + 228) Q (F0 m 972 ls [])) : W p l e room_1 s m #[Value.ref b] below meth c H locs cells slots Q (F0 m 371 ls []) := by
  obtain ⟨hx, hb, hr, hlocks, hml, hown, hts, hK⟩ := id E0
  have hf0 : cells ≤ room_1.cells ∧ slots ≤ room_1.slots := ⟨Nat.le_trans (Nat.le_add_right cells 21) hf.1, Nat.le_trans (Nat.le_add_right slots 228) hf.2⟩
  obtain ⟨r, N, T, e1, e2, I1⟩ : C0 ns (f_X7_penOf (xs (x3 + zI (1 : Nat)).toNatClampNeg) (xs (x3 + zI (2 : Nat)).toNatClampNeg) M) (f_X8_penOf (xs (x3 + zI (1 : Nat)).toNatClampNeg) (xs (x3 + zI (2 : Nat)).toNatClampNeg) S) := q2c I (fun a W R Q u1 u2 => q_penOf W R Q (xs (x3 + zI (1 : Nat)).toNatClampNeg) (xs (x3 + zI (2 : Nat)).toNatClampNeg))
  refine lv_aload_n hx hb dL_law_371 rfl (lv_at hl 1 rfl) ?_
  refine lv_aload_n hx hb dL_law_372 rfl (lv_at hl 0 rfl) ?_
  refine lv_iload_n hx hb dL_law_373 rfl (lv_at hl 3 rfl) ?_
  refine lv_iconst (v := zI (1 : Nat)) hx hb dL_law_374 rfl ?_
  refine lv_iadd hx hb dL_law_375 ?_
  refine va_sld hx hb hX hbl hbA hS h1 dL_law_376 ?_
  refine lv_aload_n hx hb dL_law_377 rfl (lv_at hl 0 rfl) ?_
  refine lv_iload_n hx hb dL_law_378 rfl (lv_at hl 3 rfl) ?_
  refine lv_iconst (v := zI (2 : Nat)) hx hb dL_law_379 rfl ?_
  refine lv_iadd hx hb dL_law_380 ?_
  refine va_sld hx hb hX hbl hbA hS h2 dL_law_381 ?_
  refine lc_c (r := r) (As := [.int (xs (x3 + zI (1 : Nat)).toNatClampNeg), .int (xs (x3 + zI (2 : Nat)).toNatClampNeg)]) (na := 2) (rest := []) (ns' := ns) E0 L0 (c_X7_penOf l (G := G) e1) w_411 w_412 w_413 w_1 w_414 (by decide +kernel) ⟨Nat.le_of_ble_eq_true rfl, Nat.le_of_ble_eq_true rfl⟩ rfl hl rfl (Nat.le_of_ble_eq_true rfl) dL_law_382 hf0 hS (fun H locs L0 hS => ?_)
  refine lv_aload_n hx hb dL_law_385 rfl (lv_at hl 2 rfl) ?_
  refine lv_aload_n hx hb dL_law_386 rfl (lv_at hl 0 rfl) ?_
  refine lv_iload_n hx hb dL_law_387 rfl (lv_at hl 3 rfl) ?_
  refine lv_iconst (v := zI (1 : Nat)) hx hb dL_law_388 rfl ?_
  refine lv_iadd hx hb dL_law_389 ?_
  refine va_sld hx hb hX hbl hbA hS h1 dL_law_390 ?_
  refine lv_aload_n hx hb dL_law_391 rfl (lv_at hl 0 rfl) ?_
  refine lv_iload_n hx hb dL_law_392 rfl (lv_at hl 3 rfl) ?_
  refine lv_iconst (v := zI (2 : Nat)) hx hb dL_law_393 rfl ?_
  refine lv_iadd hx hb dL_law_394 ?_
  refine va_sld hx hb hX hbl hbA hS h2 dL_law_395 ?_
  refine lc_m (r := r) (As := [.int (xs (x3 + zI (1 : Nat)).toNatClampNeg), .int (xs (x3 + zI (2 : Nat)).toNatClampNeg)]) (na := 2) (rest := [.int r]) E0 L0 (c_X8_penOf l (G := G) e2) w_900 w_901 w_902 w_9 w_903 (by decide +kernel) ⟨Nat.le_of_ble_eq_true rfl, Nat.le_of_ble_eq_true rfl⟩ rfl hl rfl (Nat.le_of_ble_eq_true rfl) dL_law_396 hf0 hS (fun H locs L0 hS => ?_)
  refine lv_icmp_eq (tgt := 972) hx hb dL_law_399 (by decide) (fun _ => ?_) (fun z => absurd rfl z)
  refine W.widen (k := cells + 21) (n := slots + 228) (Nat.le_add_right cells 21) (Nat.le_add_right slots 228) ?_
  exact kk _ _ _ H locs I1 L0 hS
set_option maxHeartbeats 2000000 in
theorem lwc_lineOf (E0 : Cx p s m #[Value.ref b] meth c cL_law ret 4 "PenStrikeLaw" G) (I : INV ns M S) (L0 : LW G ns M S s H) (hX : va_X b L xs s s.heap) (hbl : b < s.heap.size) (hbA : ¬ AO G.2.2.2 b) (hS : va_S (AO G.2.2.2) s.heap H locs) (h1 : vp_in (x3 + zI ((1 : Nat) : Int)) L) (h2 : vp_in (x3 + zI ((2 : Nat) : Int)) L) (h3 : vp_in (x3 + zI ((3 : Nat) : Int)) L) (h4 : vp_in (x3 + zI ((4 : Nat) : Int)) L) (hf : cells + 21 ≤ room_1.cells ∧ slots + 228 ≤ room_1.slots) (hl : lv_has ls 4 [(0, .ref b), (1, .ref (adC G 0 0)), (2, .ref (adM G 0 0)), (3, .int x3)])
    (kk : ∀ (ns1 : Nat) (M1 S1 : Mem) (H1 : Heap) (locs1 : List Loc), INV ns1 M1 S1 → LW G ns1 M1 S1 s H1 → va_S (AO G.2.2.2) s.heap H1 locs1 → W p l e room_1 s m #[Value.ref b] below meth c H1 locs1 (cells + 21) (slots + 228) Q (F0 m 972 ls [])) : W p l e room_1 s m #[Value.ref b] below meth c H locs cells slots Q (F0 m 404 ls []) := by
  obtain ⟨hx, hb, hr, hlocks, hml, hown, hts, hK⟩ := id E0
  have hf0 : cells ≤ room_1.cells ∧ slots ≤ room_1.slots := ⟨Nat.le_trans (Nat.le_add_right cells 21) hf.1, Nat.le_trans (Nat.le_add_right slots 228) hf.2⟩
  obtain ⟨r, N, T, e1, e2, I1⟩ : C0 ns (f_X7_lineOf (xs (x3 + zI (1 : Nat)).toNatClampNeg) (xs (x3 + zI (2 : Nat)).toNatClampNeg) M) (f_X8_lineOf (xs (x3 + zI (1 : Nat)).toNatClampNeg) (xs (x3 + zI (2 : Nat)).toNatClampNeg) S) := q2c I (fun a W R Q u1 u2 => q_lineOf W R Q (xs (x3 + zI (1 : Nat)).toNatClampNeg) (xs (x3 + zI (2 : Nat)).toNatClampNeg))
  refine lv_aload_n hx hb dL_law_404 rfl (lv_at hl 1 rfl) ?_
  refine lv_aload_n hx hb dL_law_405 rfl (lv_at hl 0 rfl) ?_
  refine lv_iload_n hx hb dL_law_406 rfl (lv_at hl 3 rfl) ?_
  refine lv_iconst (v := zI (1 : Nat)) hx hb dL_law_407 rfl ?_
  refine lv_iadd hx hb dL_law_408 ?_
  refine va_sld hx hb hX hbl hbA hS h1 dL_law_409 ?_
  refine lv_aload_n hx hb dL_law_410 rfl (lv_at hl 0 rfl) ?_
  refine lv_iload_n hx hb dL_law_411 rfl (lv_at hl 3 rfl) ?_
  refine lv_iconst (v := zI (2 : Nat)) hx hb dL_law_412 rfl ?_
  refine lv_iadd hx hb dL_law_413 ?_
  refine va_sld hx hb hX hbl hbA hS h2 dL_law_414 ?_
  refine lc_c (r := r) (As := [.int (xs (x3 + zI (1 : Nat)).toNatClampNeg), .int (xs (x3 + zI (2 : Nat)).toNatClampNeg)]) (na := 2) (rest := []) (ns' := ns) E0 L0 (c_X7_lineOf l (G := G) e1) w_440 w_441 w_442 w_1 w_443 (by decide +kernel) ⟨Nat.le_of_ble_eq_true rfl, Nat.le_of_ble_eq_true rfl⟩ rfl hl rfl (Nat.le_of_ble_eq_true rfl) dL_law_415 hf0 hS (fun H locs L0 hS => ?_)
  refine lv_aload_n hx hb dL_law_418 rfl (lv_at hl 2 rfl) ?_
  refine lv_aload_n hx hb dL_law_419 rfl (lv_at hl 0 rfl) ?_
  refine lv_iload_n hx hb dL_law_420 rfl (lv_at hl 3 rfl) ?_
  refine lv_iconst (v := zI (1 : Nat)) hx hb dL_law_421 rfl ?_
  refine lv_iadd hx hb dL_law_422 ?_
  refine va_sld hx hb hX hbl hbA hS h1 dL_law_423 ?_
  refine lv_aload_n hx hb dL_law_424 rfl (lv_at hl 0 rfl) ?_
  refine lv_iload_n hx hb dL_law_425 rfl (lv_at hl 3 rfl) ?_
  refine lv_iconst (v := zI (2 : Nat)) hx hb dL_law_426 rfl ?_
  refine lv_iadd hx hb dL_law_427 ?_
  refine va_sld hx hb hX hbl hbA hS h2 dL_law_428 ?_
  refine lc_m (r := r) (As := [.int (xs (x3 + zI (1 : Nat)).toNatClampNeg), .int (xs (x3 + zI (2 : Nat)).toNatClampNeg)]) (na := 2) (rest := [.int r]) E0 L0 (c_X8_lineOf l (G := G) e2) w_920 w_921 w_922 w_9 w_923 (by decide +kernel) ⟨Nat.le_of_ble_eq_true rfl, Nat.le_of_ble_eq_true rfl⟩ rfl hl rfl (Nat.le_of_ble_eq_true rfl) dL_law_429 hf0 hS (fun H locs L0 hS => ?_)
  refine lv_icmp_eq (tgt := 972) hx hb dL_law_432 (by decide) (fun _ => ?_) (fun z => absurd rfl z)
  refine W.widen (k := cells + 21) (n := slots + 228) (Nat.le_add_right cells 21) (Nat.le_add_right slots 228) ?_
  exact kk _ _ _ H locs I1 L0 hS
set_option maxHeartbeats 2000000 in
theorem lwc_take (E0 : Cx p s m #[Value.ref b] meth c cL_law ret 4 "PenStrikeLaw" G) (I : INV ns M S) (L0 : LW G ns M S s H) (hX : va_X b L xs s s.heap) (hbl : b < s.heap.size) (hbA : ¬ AO G.2.2.2 b) (hS : va_S (AO G.2.2.2) s.heap H locs) (h1 : vp_in (x3 + zI ((1 : Nat) : Int)) L) (h2 : vp_in (x3 + zI ((2 : Nat) : Int)) L) (h3 : vp_in (x3 + zI ((3 : Nat) : Int)) L) (h4 : vp_in (x3 + zI ((4 : Nat) : Int)) L) (hf : cells + 21 ≤ room_1.cells ∧ slots + 228 ≤ room_1.slots) (hl : lv_has ls 4 [(0, .ref b), (1, .ref (adC G 0 0)), (2, .ref (adM G 0 0)), (3, .int x3)])
    (kk : ∀ (ns1 : Nat) (M1 S1 : Mem) (H1 : Heap) (locs1 : List Loc), INV ns1 M1 S1 → LW G ns1 M1 S1 s H1 → va_S (AO G.2.2.2) s.heap H1 locs1 → W p l e room_1 s m #[Value.ref b] below meth c H1 locs1 (cells + 21) (slots + 228) Q (F0 m 972 ls [])) : W p l e room_1 s m #[Value.ref b] below meth c H locs cells slots Q (F0 m 437 ls []) := by
  obtain ⟨hx, hb, hr, hlocks, hml, hown, hts, hK⟩ := id E0
  have hf0 : cells ≤ room_1.cells ∧ slots ≤ room_1.slots := ⟨Nat.le_trans (Nat.le_add_right cells 21) hf.1, Nat.le_trans (Nat.le_add_right slots 228) hf.2⟩
  obtain ⟨r, ns1, N, T, e1, e2, I1⟩ : CH (f_X7_take ns (xs (x3 + zI (1 : Nat)).toNatClampNeg) M) (f_X8_take (xs (x3 + zI (1 : Nat)).toNatClampNeg) S) := ch_take I (xs (x3 + zI (1 : Nat)).toNatClampNeg)
  refine lv_aload_n hx hb dL_law_437 rfl (lv_at hl 1 rfl) ?_
  refine lv_aload_n hx hb dL_law_438 rfl (lv_at hl 0 rfl) ?_
  refine lv_iload_n hx hb dL_law_439 rfl (lv_at hl 3 rfl) ?_
  refine lv_iconst (v := zI (1 : Nat)) hx hb dL_law_440 rfl ?_
  refine lv_iadd hx hb dL_law_441 ?_
  refine va_sld hx hb hX hbl hbA hS h1 dL_law_442 ?_
  refine lc_c (r := r) (As := [.int (xs (x3 + zI (1 : Nat)).toNatClampNeg)]) (na := 1) (rest := []) (ns' := ns1) E0 L0 (c_X7_take l (G := G) e1) w_468 w_469 w_470 w_1 w_471 (by decide +kernel) ⟨Nat.le_of_ble_eq_true rfl, Nat.le_of_ble_eq_true rfl⟩ rfl hl rfl (Nat.le_of_ble_eq_true rfl) dL_law_443 hf hS (fun H locs L0 hS => ?_)
  refine lv_aload_n hx hb dL_law_446 rfl (lv_at hl 2 rfl) ?_
  refine lv_aload_n hx hb dL_law_447 rfl (lv_at hl 0 rfl) ?_
  refine lv_iload_n hx hb dL_law_448 rfl (lv_at hl 3 rfl) ?_
  refine lv_iconst (v := zI (1 : Nat)) hx hb dL_law_449 rfl ?_
  refine lv_iadd hx hb dL_law_450 ?_
  refine va_sld hx hb hX hbl hbA hS h1 dL_law_451 ?_
  refine lc_m (r := r) (As := [.int (xs (x3 + zI (1 : Nat)).toNatClampNeg)]) (na := 1) (rest := [.int r]) E0 L0 (c_X8_take l (G := G) e2) w_944 w_945 w_946 w_9 w_947 (by decide +kernel) ⟨Nat.le_of_ble_eq_true rfl, Nat.le_of_ble_eq_true rfl⟩ rfl hl rfl (Nat.le_of_ble_eq_true rfl) dL_law_452 hf hS (fun H locs L0 hS => ?_)
  refine lv_icmp_eq (tgt := 972) hx hb dL_law_455 (by decide) (fun _ => ?_) (fun z => absurd rfl z)
  exact kk _ _ _ H locs I1 L0 hS
set_option maxHeartbeats 2000000 in
theorem lwc_home (E0 : Cx p s m #[Value.ref b] meth c cL_law ret 4 "PenStrikeLaw" G) (I : INV ns M S) (L0 : LW G ns M S s H) (hX : va_X b L xs s s.heap) (hbl : b < s.heap.size) (hbA : ¬ AO G.2.2.2 b) (hS : va_S (AO G.2.2.2) s.heap H locs) (h1 : vp_in (x3 + zI ((1 : Nat) : Int)) L) (h2 : vp_in (x3 + zI ((2 : Nat) : Int)) L) (h3 : vp_in (x3 + zI ((3 : Nat) : Int)) L) (h4 : vp_in (x3 + zI ((4 : Nat) : Int)) L) (hf : cells + 21 ≤ room_1.cells ∧ slots + 228 ≤ room_1.slots) (hl : lv_has ls 4 [(0, .ref b), (1, .ref (adC G 0 0)), (2, .ref (adM G 0 0)), (3, .int x3)])
    (kk : ∀ (ns1 : Nat) (M1 S1 : Mem) (H1 : Heap) (locs1 : List Loc), INV ns1 M1 S1 → LW G ns1 M1 S1 s H1 → va_S (AO G.2.2.2) s.heap H1 locs1 → W p l e room_1 s m #[Value.ref b] below meth c H1 locs1 (cells + 21) (slots + 228) Q (F0 m 972 ls [])) : W p l e room_1 s m #[Value.ref b] below meth c H locs cells slots Q (F0 m 460 ls []) := by
  obtain ⟨hx, hb, hr, hlocks, hml, hown, hts, hK⟩ := id E0
  have hf0 : cells ≤ room_1.cells ∧ slots ≤ room_1.slots := ⟨Nat.le_trans (Nat.le_add_right cells 21) hf.1, Nat.le_trans (Nat.le_add_right slots 228) hf.2⟩
  obtain ⟨r, ns1, N, T, e1, e2, I1⟩ : CH (f_X7_home ns M) (f_X8_home S) := ch_home I
  refine lv_aload_n hx hb dL_law_460 rfl (lv_at hl 1 rfl) ?_
  refine lc_c (r := r) (As := []) (na := 0) (rest := []) (ns' := ns1) E0 L0 (c_X7_home l (G := G) e1) w_491 w_492 w_493 w_1 w_494 (by decide +kernel) ⟨Nat.le_of_ble_eq_true rfl, Nat.le_of_ble_eq_true rfl⟩ rfl hl rfl (Nat.le_of_ble_eq_true rfl) dL_law_461 hf hS (fun H locs L0 hS => ?_)
  refine lv_aload_n hx hb dL_law_464 rfl (lv_at hl 2 rfl) ?_
  refine lc_m (r := r) (As := []) (na := 0) (rest := [.int r]) E0 L0 (c_X8_home l (G := G) e2) w_957 w_958 w_959 w_9 w_960 (by decide +kernel) ⟨Nat.le_of_ble_eq_true rfl, Nat.le_of_ble_eq_true rfl⟩ rfl hl rfl (Nat.le_of_ble_eq_true rfl) dL_law_465 hf hS (fun H locs L0 hS => ?_)
  refine lv_icmp_eq (tgt := 972) hx hb dL_law_468 (by decide) (fun _ => ?_) (fun z => absurd rfl z)
  exact kk _ _ _ H locs I1 L0 hS
set_option maxHeartbeats 2000000 in
theorem lwc_draw (E0 : Cx p s m #[Value.ref b] meth c cL_law ret 4 "PenStrikeLaw" G) (I : INV ns M S) (L0 : LW G ns M S s H) (hX : va_X b L xs s s.heap) (hbl : b < s.heap.size) (hbA : ¬ AO G.2.2.2 b) (hS : va_S (AO G.2.2.2) s.heap H locs) (h1 : vp_in (x3 + zI ((1 : Nat) : Int)) L) (h2 : vp_in (x3 + zI ((2 : Nat) : Int)) L) (h3 : vp_in (x3 + zI ((3 : Nat) : Int)) L) (h4 : vp_in (x3 + zI ((4 : Nat) : Int)) L) (hf : cells + 21 ≤ room_1.cells ∧ slots + 228 ≤ room_1.slots) (hl : lv_has ls 4 [(0, .ref b), (1, .ref (adC G 0 0)), (2, .ref (adM G 0 0)), (3, .int x3)])
    (kk : ∀ (ns1 : Nat) (M1 S1 : Mem) (H1 : Heap) (locs1 : List Loc), INV ns1 M1 S1 → LW G ns1 M1 S1 s H1 → va_S (AO G.2.2.2) s.heap H1 locs1 → W p l e room_1 s m #[Value.ref b] below meth c H1 locs1 (cells + 21) (slots + 228) Q (F0 m 972 ls [])) : W p l e room_1 s m #[Value.ref b] below meth c H locs cells slots Q (F0 m 473 ls []) := by
  obtain ⟨hx, hb, hr, hlocks, hml, hown, hts, hK⟩ := id E0
  have hf0 : cells ≤ room_1.cells ∧ slots ≤ room_1.slots := ⟨Nat.le_trans (Nat.le_add_right cells 21) hf.1, Nat.le_trans (Nat.le_add_right slots 228) hf.2⟩
  obtain ⟨r, ns1, N, T, e1, e2, I1⟩ : CH (f_X7_draw ns (xs (x3 + zI (1 : Nat)).toNatClampNeg) (xs (x3 + zI (2 : Nat)).toNatClampNeg) M) (f_X8_draw (xs (x3 + zI (1 : Nat)).toNatClampNeg) (xs (x3 + zI (2 : Nat)).toNatClampNeg) S) := ch_draw I (xs (x3 + zI (1 : Nat)).toNatClampNeg) (xs (x3 + zI (2 : Nat)).toNatClampNeg)
  refine lv_aload_n hx hb dL_law_473 rfl (lv_at hl 1 rfl) ?_
  refine lv_aload_n hx hb dL_law_474 rfl (lv_at hl 0 rfl) ?_
  refine lv_iload_n hx hb dL_law_475 rfl (lv_at hl 3 rfl) ?_
  refine lv_iconst (v := zI (1 : Nat)) hx hb dL_law_476 rfl ?_
  refine lv_iadd hx hb dL_law_477 ?_
  refine va_sld hx hb hX hbl hbA hS h1 dL_law_478 ?_
  refine lv_aload_n hx hb dL_law_479 rfl (lv_at hl 0 rfl) ?_
  refine lv_iload_n hx hb dL_law_480 rfl (lv_at hl 3 rfl) ?_
  refine lv_iconst (v := zI (2 : Nat)) hx hb dL_law_481 rfl ?_
  refine lv_iadd hx hb dL_law_482 ?_
  refine va_sld hx hb hX hbl hbA hS h2 dL_law_483 ?_
  refine lc_c (r := r) (As := [.int (xs (x3 + zI (1 : Nat)).toNatClampNeg), .int (xs (x3 + zI (2 : Nat)).toNatClampNeg)]) (na := 2) (rest := []) (ns' := ns1) E0 L0 (c_X7_draw l (G := G) e1) w_499 w_500 w_501 w_1 w_502 (by decide +kernel) ⟨Nat.le_of_ble_eq_true rfl, Nat.le_of_ble_eq_true rfl⟩ rfl hl rfl (Nat.le_of_ble_eq_true rfl) dL_law_484 hf hS (fun H locs L0 hS => ?_)
  refine lv_aload_n hx hb dL_law_487 rfl (lv_at hl 2 rfl) ?_
  refine lv_aload_n hx hb dL_law_488 rfl (lv_at hl 0 rfl) ?_
  refine lv_iload_n hx hb dL_law_489 rfl (lv_at hl 3 rfl) ?_
  refine lv_iconst (v := zI (1 : Nat)) hx hb dL_law_490 rfl ?_
  refine lv_iadd hx hb dL_law_491 ?_
  refine va_sld hx hb hX hbl hbA hS h1 dL_law_492 ?_
  refine lv_aload_n hx hb dL_law_493 rfl (lv_at hl 0 rfl) ?_
  refine lv_iload_n hx hb dL_law_494 rfl (lv_at hl 3 rfl) ?_
  refine lv_iconst (v := zI (2 : Nat)) hx hb dL_law_495 rfl ?_
  refine lv_iadd hx hb dL_law_496 ?_
  refine va_sld hx hb hX hbl hbA hS h2 dL_law_497 ?_
  refine lc_m (r := r) (As := [.int (xs (x3 + zI (1 : Nat)).toNatClampNeg), .int (xs (x3 + zI (2 : Nat)).toNatClampNeg)]) (na := 2) (rest := [.int r]) E0 L0 (c_X8_draw l (G := G) e2) w_965 w_966 w_967 w_9 w_968 (by decide +kernel) ⟨Nat.le_of_ble_eq_true rfl, Nat.le_of_ble_eq_true rfl⟩ rfl hl rfl (Nat.le_of_ble_eq_true rfl) dL_law_498 hf hS (fun H locs L0 hS => ?_)
  refine lv_icmp_eq (tgt := 972) hx hb dL_law_501 (by decide) (fun _ => ?_) (fun z => absurd rfl z)
  exact kk _ _ _ H locs I1 L0 hS
set_option maxHeartbeats 2000000 in
theorem lwc_erase (E0 : Cx p s m #[Value.ref b] meth c cL_law ret 4 "PenStrikeLaw" G) (I : INV ns M S) (L0 : LW G ns M S s H) (hX : va_X b L xs s s.heap) (hbl : b < s.heap.size) (hbA : ¬ AO G.2.2.2 b) (hS : va_S (AO G.2.2.2) s.heap H locs) (h1 : vp_in (x3 + zI ((1 : Nat) : Int)) L) (h2 : vp_in (x3 + zI ((2 : Nat) : Int)) L) (h3 : vp_in (x3 + zI ((3 : Nat) : Int)) L) (h4 : vp_in (x3 + zI ((4 : Nat) : Int)) L) (hf : cells + 21 ≤ room_1.cells ∧ slots + 228 ≤ room_1.slots) (hl : lv_has ls 4 [(0, .ref b), (1, .ref (adC G 0 0)), (2, .ref (adM G 0 0)), (3, .int x3)])
    (kk : ∀ (ns1 : Nat) (M1 S1 : Mem) (H1 : Heap) (locs1 : List Loc), INV ns1 M1 S1 → LW G ns1 M1 S1 s H1 → va_S (AO G.2.2.2) s.heap H1 locs1 → W p l e room_1 s m #[Value.ref b] below meth c H1 locs1 (cells + 21) (slots + 228) Q (F0 m 972 ls [])) : W p l e room_1 s m #[Value.ref b] below meth c H locs cells slots Q (F0 m 506 ls []) := by
  obtain ⟨hx, hb, hr, hlocks, hml, hown, hts, hK⟩ := id E0
  have hf0 : cells ≤ room_1.cells ∧ slots ≤ room_1.slots := ⟨Nat.le_trans (Nat.le_add_right cells 21) hf.1, Nat.le_trans (Nat.le_add_right slots 228) hf.2⟩
  obtain ⟨r, ns1, N, T, e1, e2, I1⟩ : CH (f_X7_erase ns (xs (x3 + zI (1 : Nat)).toNatClampNeg) M) (f_X8_erase (xs (x3 + zI (1 : Nat)).toNatClampNeg) S) := ch_erase I (xs (x3 + zI (1 : Nat)).toNatClampNeg)
  refine lv_aload_n hx hb dL_law_506 rfl (lv_at hl 1 rfl) ?_
  refine lv_aload_n hx hb dL_law_507 rfl (lv_at hl 0 rfl) ?_
  refine lv_iload_n hx hb dL_law_508 rfl (lv_at hl 3 rfl) ?_
  refine lv_iconst (v := zI (1 : Nat)) hx hb dL_law_509 rfl ?_
  refine lv_iadd hx hb dL_law_510 ?_
  refine va_sld hx hb hX hbl hbA hS h1 dL_law_511 ?_
  refine lc_c (r := r) (As := [.int (xs (x3 + zI (1 : Nat)).toNatClampNeg)]) (na := 1) (rest := []) (ns' := ns1) E0 L0 (c_X7_erase l (G := G) e1) w_538 w_539 w_540 w_1 w_541 (by decide +kernel) ⟨Nat.le_of_ble_eq_true rfl, Nat.le_of_ble_eq_true rfl⟩ rfl hl rfl (Nat.le_of_ble_eq_true rfl) dL_law_512 hf hS (fun H locs L0 hS => ?_)
  refine lv_aload_n hx hb dL_law_515 rfl (lv_at hl 2 rfl) ?_
  refine lv_aload_n hx hb dL_law_516 rfl (lv_at hl 0 rfl) ?_
  refine lv_iload_n hx hb dL_law_517 rfl (lv_at hl 3 rfl) ?_
  refine lv_iconst (v := zI (1 : Nat)) hx hb dL_law_518 rfl ?_
  refine lv_iadd hx hb dL_law_519 ?_
  refine va_sld hx hb hX hbl hbA hS h1 dL_law_520 ?_
  refine lc_m (r := r) (As := [.int (xs (x3 + zI (1 : Nat)).toNatClampNeg)]) (na := 1) (rest := [.int r]) E0 L0 (c_X8_erase l (G := G) e2) w_1010 w_1011 w_1012 w_9 w_1013 (by decide +kernel) ⟨Nat.le_of_ble_eq_true rfl, Nat.le_of_ble_eq_true rfl⟩ rfl hl rfl (Nat.le_of_ble_eq_true rfl) dL_law_521 hf hS (fun H locs L0 hS => ?_)
  refine lv_icmp_eq (tgt := 972) hx hb dL_law_524 (by decide) (fun _ => ?_) (fun z => absurd rfl z)
  exact kk _ _ _ H locs I1 L0 hS
set_option maxHeartbeats 2000000 in
theorem lwc_waits (E0 : Cx p s m #[Value.ref b] meth c cL_law ret 4 "PenStrikeLaw" G) (I : INV ns M S) (L0 : LW G ns M S s H) (hX : va_X b L xs s s.heap) (hbl : b < s.heap.size) (hbA : ¬ AO G.2.2.2 b) (hS : va_S (AO G.2.2.2) s.heap H locs) (h1 : vp_in (x3 + zI ((1 : Nat) : Int)) L) (h2 : vp_in (x3 + zI ((2 : Nat) : Int)) L) (h3 : vp_in (x3 + zI ((3 : Nat) : Int)) L) (h4 : vp_in (x3 + zI ((4 : Nat) : Int)) L) (hf : cells + 21 ≤ room_1.cells ∧ slots + 228 ≤ room_1.slots) (hl : lv_has ls 4 [(0, .ref b), (1, .ref (adC G 0 0)), (2, .ref (adM G 0 0)), (3, .int x3)])
    (kk : ∀ (ns1 : Nat) (M1 S1 : Mem) (H1 : Heap) (locs1 : List Loc), INV ns1 M1 S1 → LW G ns1 M1 S1 s H1 → va_S (AO G.2.2.2) s.heap H1 locs1 → W p l e room_1 s m #[Value.ref b] below meth c H1 locs1 (cells + 21) (slots + 228) Q (F0 m 972 ls [])) : W p l e room_1 s m #[Value.ref b] below meth c H locs cells slots Q (F0 m 529 ls []) := by
  obtain ⟨hx, hb, hr, hlocks, hml, hown, hts, hK⟩ := id E0
  have hf0 : cells ≤ room_1.cells ∧ slots ≤ room_1.slots := ⟨Nat.le_trans (Nat.le_add_right cells 21) hf.1, Nat.le_trans (Nat.le_add_right slots 228) hf.2⟩
  obtain ⟨r, ns1, N, T, e1, e2, I1⟩ : CH (f_X7_waits ns (xs (x3 + zI (1 : Nat)).toNatClampNeg) M) (f_X8_waits (xs (x3 + zI (1 : Nat)).toNatClampNeg) S) := ch_waits I (xs (x3 + zI (1 : Nat)).toNatClampNeg)
  refine lv_aload_n hx hb dL_law_529 rfl (lv_at hl 1 rfl) ?_
  refine lv_aload_n hx hb dL_law_530 rfl (lv_at hl 0 rfl) ?_
  refine lv_iload_n hx hb dL_law_531 rfl (lv_at hl 3 rfl) ?_
  refine lv_iconst (v := zI (1 : Nat)) hx hb dL_law_532 rfl ?_
  refine lv_iadd hx hb dL_law_533 ?_
  refine va_sld hx hb hX hbl hbA hS h1 dL_law_534 ?_
  refine lc_c (r := r) (As := [.int (xs (x3 + zI (1 : Nat)).toNatClampNeg)]) (na := 1) (rest := []) (ns' := ns1) E0 L0 (c_X7_waits l (G := G) e1) w_542 w_543 w_544 w_1 w_545 (by decide +kernel) ⟨Nat.le_of_ble_eq_true rfl, Nat.le_of_ble_eq_true rfl⟩ rfl hl rfl (Nat.le_of_ble_eq_true rfl) dL_law_535 hf hS (fun H locs L0 hS => ?_)
  refine lv_aload_n hx hb dL_law_538 rfl (lv_at hl 2 rfl) ?_
  refine lv_aload_n hx hb dL_law_539 rfl (lv_at hl 0 rfl) ?_
  refine lv_iload_n hx hb dL_law_540 rfl (lv_at hl 3 rfl) ?_
  refine lv_iconst (v := zI (1 : Nat)) hx hb dL_law_541 rfl ?_
  refine lv_iadd hx hb dL_law_542 ?_
  refine va_sld hx hb hX hbl hbA hS h1 dL_law_543 ?_
  refine lc_m (r := r) (As := [.int (xs (x3 + zI (1 : Nat)).toNatClampNeg)]) (na := 1) (rest := [.int r]) E0 L0 (c_X8_waits l (G := G) e2) w_1014 w_1015 w_1016 w_9 w_1017 (by decide +kernel) ⟨Nat.le_of_ble_eq_true rfl, Nat.le_of_ble_eq_true rfl⟩ rfl hl rfl (Nat.le_of_ble_eq_true rfl) dL_law_544 hf hS (fun H locs L0 hS => ?_)
  refine lv_icmp_eq (tgt := 972) hx hb dL_law_547 (by decide) (fun _ => ?_) (fun z => absurd rfl z)
  exact kk _ _ _ H locs I1 L0 hS
set_option maxHeartbeats 2000000 in
theorem lwc_clean (E0 : Cx p s m #[Value.ref b] meth c cL_law ret 4 "PenStrikeLaw" G) (I : INV ns M S) (L0 : LW G ns M S s H) (hX : va_X b L xs s s.heap) (hbl : b < s.heap.size) (hbA : ¬ AO G.2.2.2 b) (hS : va_S (AO G.2.2.2) s.heap H locs) (h1 : vp_in (x3 + zI ((1 : Nat) : Int)) L) (h2 : vp_in (x3 + zI ((2 : Nat) : Int)) L) (h3 : vp_in (x3 + zI ((3 : Nat) : Int)) L) (h4 : vp_in (x3 + zI ((4 : Nat) : Int)) L) (hf : cells + 21 ≤ room_1.cells ∧ slots + 228 ≤ room_1.slots) (hl : lv_has ls 4 [(0, .ref b), (1, .ref (adC G 0 0)), (2, .ref (adM G 0 0)), (3, .int x3)])
    (kk : ∀ (ns1 : Nat) (M1 S1 : Mem) (H1 : Heap) (locs1 : List Loc), INV ns1 M1 S1 → LW G ns1 M1 S1 s H1 → va_S (AO G.2.2.2) s.heap H1 locs1 → W p l e room_1 s m #[Value.ref b] below meth c H1 locs1 (cells + 21) (slots + 228) Q (F0 m 972 ls [])) : W p l e room_1 s m #[Value.ref b] below meth c H locs cells slots Q (F0 m 552 ls []) := by
  obtain ⟨hx, hb, hr, hlocks, hml, hown, hts, hK⟩ := id E0
  have hf0 : cells ≤ room_1.cells ∧ slots ≤ room_1.slots := ⟨Nat.le_trans (Nat.le_add_right cells 21) hf.1, Nat.le_trans (Nat.le_add_right slots 228) hf.2⟩
  obtain ⟨r, ns1, N, T, e1, e2, I1⟩ : CH (f_X7_clean ns M) (f_X8_clean S) := ch_clean I
  refine lv_aload_n hx hb dL_law_552 rfl (lv_at hl 1 rfl) ?_
  refine lc_c (r := r) (As := []) (na := 0) (rest := []) (ns' := ns1) E0 L0 (c_X7_clean l (G := G) e1) w_553 w_554 w_555 w_1 w_556 (by decide +kernel) ⟨Nat.le_of_ble_eq_true rfl, Nat.le_of_ble_eq_true rfl⟩ rfl hl rfl (Nat.le_of_ble_eq_true rfl) dL_law_553 hf hS (fun H locs L0 hS => ?_)
  refine lv_aload_n hx hb dL_law_556 rfl (lv_at hl 2 rfl) ?_
  refine lc_m (r := r) (As := []) (na := 0) (rest := [.int r]) E0 L0 (c_X8_clean l (G := G) e2) w_1022 w_1023 w_1024 w_9 w_1025 (by decide +kernel) ⟨Nat.le_of_ble_eq_true rfl, Nat.le_of_ble_eq_true rfl⟩ rfl hl rfl (Nat.le_of_ble_eq_true rfl) dL_law_557 hf hS (fun H locs L0 hS => ?_)
  refine lv_icmp_eq (tgt := 972) hx hb dL_law_560 (by decide) (fun _ => ?_) (fun z => absurd rfl z)
  exact kk _ _ _ H locs I1 L0 hS
set_option maxHeartbeats 2000000 in
theorem lwc_whyNot (E0 : Cx p s m #[Value.ref b] meth c cL_law ret 4 "PenStrikeLaw" G) (I : INV ns M S) (L0 : LW G ns M S s H) (hX : va_X b L xs s s.heap) (hbl : b < s.heap.size) (hbA : ¬ AO G.2.2.2 b) (hS : va_S (AO G.2.2.2) s.heap H locs) (h1 : vp_in (x3 + zI ((1 : Nat) : Int)) L) (h2 : vp_in (x3 + zI ((2 : Nat) : Int)) L) (h3 : vp_in (x3 + zI ((3 : Nat) : Int)) L) (h4 : vp_in (x3 + zI ((4 : Nat) : Int)) L) (hf : cells + 21 ≤ room_1.cells ∧ slots + 228 ≤ room_1.slots) (hl : lv_has ls 4 [(0, .ref b), (1, .ref (adC G 0 0)), (2, .ref (adM G 0 0)), (3, .int x3)])
    (kk : ∀ (ns1 : Nat) (M1 S1 : Mem) (H1 : Heap) (locs1 : List Loc), INV ns1 M1 S1 → LW G ns1 M1 S1 s H1 → va_S (AO G.2.2.2) s.heap H1 locs1 → W p l e room_1 s m #[Value.ref b] below meth c H1 locs1 (cells + 21) (slots + 228) Q (F0 m 972 ls [])) : W p l e room_1 s m #[Value.ref b] below meth c H locs cells slots Q (F0 m 565 ls []) := by
  obtain ⟨hx, hb, hr, hlocks, hml, hown, hts, hK⟩ := id E0
  have hf0 : cells ≤ room_1.cells ∧ slots ≤ room_1.slots := ⟨Nat.le_trans (Nat.le_add_right cells 21) hf.1, Nat.le_trans (Nat.le_add_right slots 228) hf.2⟩
  obtain ⟨r, N, T, e1, e2, I1⟩ : C0 ns (f_X7_whyNot (xs (x3 + zI (1 : Nat)).toNatClampNeg) (xs (x3 + zI (2 : Nat)).toNatClampNeg) M) (f_X8_whyNot (xs (x3 + zI (1 : Nat)).toNatClampNeg) (xs (x3 + zI (2 : Nat)).toNatClampNeg) S) := q2c I (fun a W R Q u1 u2 => q_whyNot W R Q (xs (x3 + zI (1 : Nat)).toNatClampNeg) (xs (x3 + zI (2 : Nat)).toNatClampNeg))
  refine lv_aload_n hx hb dL_law_565 rfl (lv_at hl 1 rfl) ?_
  refine lv_aload_n hx hb dL_law_566 rfl (lv_at hl 0 rfl) ?_
  refine lv_iload_n hx hb dL_law_567 rfl (lv_at hl 3 rfl) ?_
  refine lv_iconst (v := zI (1 : Nat)) hx hb dL_law_568 rfl ?_
  refine lv_iadd hx hb dL_law_569 ?_
  refine va_sld hx hb hX hbl hbA hS h1 dL_law_570 ?_
  refine lv_aload_n hx hb dL_law_571 rfl (lv_at hl 0 rfl) ?_
  refine lv_iload_n hx hb dL_law_572 rfl (lv_at hl 3 rfl) ?_
  refine lv_iconst (v := zI (2 : Nat)) hx hb dL_law_573 rfl ?_
  refine lv_iadd hx hb dL_law_574 ?_
  refine va_sld hx hb hX hbl hbA hS h2 dL_law_575 ?_
  refine lc_c (r := r) (As := [.int (xs (x3 + zI (1 : Nat)).toNatClampNeg), .int (xs (x3 + zI (2 : Nat)).toNatClampNeg)]) (na := 2) (rest := []) (ns' := ns) E0 L0 (c_X7_whyNot l (G := G) e1) w_565 w_566 w_567 w_1 w_568 (by decide +kernel) ⟨Nat.le_of_ble_eq_true rfl, Nat.le_of_ble_eq_true rfl⟩ rfl hl rfl (Nat.le_of_ble_eq_true rfl) dL_law_576 hf0 hS (fun H locs L0 hS => ?_)
  refine lv_aload_n hx hb dL_law_579 rfl (lv_at hl 2 rfl) ?_
  refine lv_aload_n hx hb dL_law_580 rfl (lv_at hl 0 rfl) ?_
  refine lv_iload_n hx hb dL_law_581 rfl (lv_at hl 3 rfl) ?_
  refine lv_iconst (v := zI (1 : Nat)) hx hb dL_law_582 rfl ?_
  refine lv_iadd hx hb dL_law_583 ?_
  refine va_sld hx hb hX hbl hbA hS h1 dL_law_584 ?_
  refine lv_aload_n hx hb dL_law_585 rfl (lv_at hl 0 rfl) ?_
  refine lv_iload_n hx hb dL_law_586 rfl (lv_at hl 3 rfl) ?_
  refine lv_iconst (v := zI (2 : Nat)) hx hb dL_law_587 rfl ?_
  refine lv_iadd hx hb dL_law_588 ?_
  refine va_sld hx hb hX hbl hbA hS h2 dL_law_589 ?_
  refine lc_m (r := r) (As := [.int (xs (x3 + zI (1 : Nat)).toNatClampNeg), .int (xs (x3 + zI (2 : Nat)).toNatClampNeg)]) (na := 2) (rest := [.int r]) E0 L0 (c_X8_whyNot l (G := G) e2) w_1030 w_1031 w_1032 w_9 w_1033 (by decide +kernel) ⟨Nat.le_of_ble_eq_true rfl, Nat.le_of_ble_eq_true rfl⟩ rfl hl rfl (Nat.le_of_ble_eq_true rfl) dL_law_590 hf0 hS (fun H locs L0 hS => ?_)
  refine lv_icmp_eq (tgt := 972) hx hb dL_law_593 (by decide) (fun _ => ?_) (fun z => absurd rfl z)
  refine W.widen (k := cells + 21) (n := slots + 228) (Nat.le_add_right cells 21) (Nat.le_add_right slots 228) ?_
  exact kk _ _ _ H locs I1 L0 hS
set_option maxHeartbeats 2000000 in
theorem lwc_waitFor (E0 : Cx p s m #[Value.ref b] meth c cL_law ret 4 "PenStrikeLaw" G) (I : INV ns M S) (L0 : LW G ns M S s H) (hX : va_X b L xs s s.heap) (hbl : b < s.heap.size) (hbA : ¬ AO G.2.2.2 b) (hS : va_S (AO G.2.2.2) s.heap H locs) (h1 : vp_in (x3 + zI ((1 : Nat) : Int)) L) (h2 : vp_in (x3 + zI ((2 : Nat) : Int)) L) (h3 : vp_in (x3 + zI ((3 : Nat) : Int)) L) (h4 : vp_in (x3 + zI ((4 : Nat) : Int)) L) (hf : cells + 21 ≤ room_1.cells ∧ slots + 228 ≤ room_1.slots) (hl : lv_has ls 4 [(0, .ref b), (1, .ref (adC G 0 0)), (2, .ref (adM G 0 0)), (3, .int x3)])
    (kk : ∀ (ns1 : Nat) (M1 S1 : Mem) (H1 : Heap) (locs1 : List Loc), INV ns1 M1 S1 → LW G ns1 M1 S1 s H1 → va_S (AO G.2.2.2) s.heap H1 locs1 → W p l e room_1 s m #[Value.ref b] below meth c H1 locs1 (cells + 21) (slots + 228) Q (F0 m 972 ls [])) : W p l e room_1 s m #[Value.ref b] below meth c H locs cells slots Q (F0 m 598 ls []) := by
  obtain ⟨hx, hb, hr, hlocks, hml, hown, hts, hK⟩ := id E0
  have hf0 : cells ≤ room_1.cells ∧ slots ≤ room_1.slots := ⟨Nat.le_trans (Nat.le_add_right cells 21) hf.1, Nat.le_trans (Nat.le_add_right slots 228) hf.2⟩
  obtain ⟨r, N, T, e1, e2, I1⟩ : C0 ns (f_X7_waitFor (xs (x3 + zI (1 : Nat)).toNatClampNeg) (xs (x3 + zI (2 : Nat)).toNatClampNeg) M) (f_X8_waitFor (xs (x3 + zI (1 : Nat)).toNatClampNeg) (xs (x3 + zI (2 : Nat)).toNatClampNeg) S) := q2c I (fun a W R Q u1 u2 => q_waitFor W R Q (xs (x3 + zI (1 : Nat)).toNatClampNeg) (xs (x3 + zI (2 : Nat)).toNatClampNeg))
  refine lv_aload_n hx hb dL_law_598 rfl (lv_at hl 1 rfl) ?_
  refine lv_aload_n hx hb dL_law_599 rfl (lv_at hl 0 rfl) ?_
  refine lv_iload_n hx hb dL_law_600 rfl (lv_at hl 3 rfl) ?_
  refine lv_iconst (v := zI (1 : Nat)) hx hb dL_law_601 rfl ?_
  refine lv_iadd hx hb dL_law_602 ?_
  refine va_sld hx hb hX hbl hbA hS h1 dL_law_603 ?_
  refine lv_aload_n hx hb dL_law_604 rfl (lv_at hl 0 rfl) ?_
  refine lv_iload_n hx hb dL_law_605 rfl (lv_at hl 3 rfl) ?_
  refine lv_iconst (v := zI (2 : Nat)) hx hb dL_law_606 rfl ?_
  refine lv_iadd hx hb dL_law_607 ?_
  refine va_sld hx hb hX hbl hbA hS h2 dL_law_608 ?_
  refine lc_c (r := r) (As := [.int (xs (x3 + zI (1 : Nat)).toNatClampNeg), .int (xs (x3 + zI (2 : Nat)).toNatClampNeg)]) (na := 2) (rest := []) (ns' := ns) E0 L0 (c_X7_waitFor l (G := G) e1) w_569 w_570 w_571 w_1 w_572 (by decide +kernel) ⟨Nat.le_of_ble_eq_true rfl, Nat.le_of_ble_eq_true rfl⟩ rfl hl rfl (Nat.le_of_ble_eq_true rfl) dL_law_609 hf0 hS (fun H locs L0 hS => ?_)
  refine lv_aload_n hx hb dL_law_612 rfl (lv_at hl 2 rfl) ?_
  refine lv_aload_n hx hb dL_law_613 rfl (lv_at hl 0 rfl) ?_
  refine lv_iload_n hx hb dL_law_614 rfl (lv_at hl 3 rfl) ?_
  refine lv_iconst (v := zI (1 : Nat)) hx hb dL_law_615 rfl ?_
  refine lv_iadd hx hb dL_law_616 ?_
  refine va_sld hx hb hX hbl hbA hS h1 dL_law_617 ?_
  refine lv_aload_n hx hb dL_law_618 rfl (lv_at hl 0 rfl) ?_
  refine lv_iload_n hx hb dL_law_619 rfl (lv_at hl 3 rfl) ?_
  refine lv_iconst (v := zI (2 : Nat)) hx hb dL_law_620 rfl ?_
  refine lv_iadd hx hb dL_law_621 ?_
  refine va_sld hx hb hX hbl hbA hS h2 dL_law_622 ?_
  refine lc_m (r := r) (As := [.int (xs (x3 + zI (1 : Nat)).toNatClampNeg), .int (xs (x3 + zI (2 : Nat)).toNatClampNeg)]) (na := 2) (rest := [.int r]) E0 L0 (c_X8_waitFor l (G := G) e2) w_1034 w_1035 w_1036 w_9 w_1037 (by decide +kernel) ⟨Nat.le_of_ble_eq_true rfl, Nat.le_of_ble_eq_true rfl⟩ rfl hl rfl (Nat.le_of_ble_eq_true rfl) dL_law_623 hf0 hS (fun H locs L0 hS => ?_)
  refine lv_icmp_eq (tgt := 972) hx hb dL_law_626 (by decide) (fun _ => ?_) (fun z => absurd rfl z)
  refine W.widen (k := cells + 21) (n := slots + 228) (Nat.le_add_right cells 21) (Nat.le_add_right slots 228) ?_
  exact kk _ _ _ H locs I1 L0 hS
set_option maxHeartbeats 2000000 in
theorem lwc_strikers (E0 : Cx p s m #[Value.ref b] meth c cL_law ret 4 "PenStrikeLaw" G) (I : INV ns M S) (L0 : LW G ns M S s H) (hX : va_X b L xs s s.heap) (hbl : b < s.heap.size) (hbA : ¬ AO G.2.2.2 b) (hS : va_S (AO G.2.2.2) s.heap H locs) (h1 : vp_in (x3 + zI ((1 : Nat) : Int)) L) (h2 : vp_in (x3 + zI ((2 : Nat) : Int)) L) (h3 : vp_in (x3 + zI ((3 : Nat) : Int)) L) (h4 : vp_in (x3 + zI ((4 : Nat) : Int)) L) (hf : cells + 21 ≤ room_1.cells ∧ slots + 228 ≤ room_1.slots) (hl : lv_has ls 4 [(0, .ref b), (1, .ref (adC G 0 0)), (2, .ref (adM G 0 0)), (3, .int x3)])
    (kk : ∀ (ns1 : Nat) (M1 S1 : Mem) (H1 : Heap) (locs1 : List Loc), INV ns1 M1 S1 → LW G ns1 M1 S1 s H1 → va_S (AO G.2.2.2) s.heap H1 locs1 → W p l e room_1 s m #[Value.ref b] below meth c H1 locs1 (cells + 21) (slots + 228) Q (F0 m 972 ls [])) : W p l e room_1 s m #[Value.ref b] below meth c H locs cells slots Q (F0 m 631 ls []) := by
  obtain ⟨hx, hb, hr, hlocks, hml, hown, hts, hK⟩ := id E0
  have hf0 : cells ≤ room_1.cells ∧ slots ≤ room_1.slots := ⟨Nat.le_trans (Nat.le_add_right cells 21) hf.1, Nat.le_trans (Nat.le_add_right slots 228) hf.2⟩
  obtain ⟨r, N, T, e1, e2, I1⟩ : C0 ns (f_X7_strikers M) (f_X8_strikers S) := q2c I (fun a W R Q u1 u2 => q_strikers W R Q)
  refine lv_aload_n hx hb dL_law_631 rfl (lv_at hl 1 rfl) ?_
  refine lc_c (r := r) (As := []) (na := 0) (rest := []) (ns' := ns) E0 L0 (c_X7_strikers l (G := G) e1) w_575 w_576 w_577 w_1 w_578 (by decide +kernel) ⟨Nat.le_of_ble_eq_true rfl, Nat.le_of_ble_eq_true rfl⟩ rfl hl rfl (Nat.le_of_ble_eq_true rfl) dL_law_632 hf0 hS (fun H locs L0 hS => ?_)
  refine lv_aload_n hx hb dL_law_635 rfl (lv_at hl 2 rfl) ?_
  refine lc_m (r := r) (As := []) (na := 0) (rest := [.int r]) E0 L0 (c_X8_strikers l (G := G) e2) w_1038 w_1039 w_1040 w_9 w_1041 (by decide +kernel) ⟨Nat.le_of_ble_eq_true rfl, Nat.le_of_ble_eq_true rfl⟩ rfl hl rfl (Nat.le_of_ble_eq_true rfl) dL_law_636 hf0 hS (fun H locs L0 hS => ?_)
  refine lv_icmp_eq (tgt := 972) hx hb dL_law_639 (by decide) (fun _ => ?_) (fun z => absurd rfl z)
  refine W.widen (k := cells + 21) (n := slots + 228) (Nat.le_add_right cells 21) (Nat.le_add_right slots 228) ?_
  exact kk _ _ _ H locs I1 L0 hS
set_option maxHeartbeats 2000000 in
theorem lwc_room (E0 : Cx p s m #[Value.ref b] meth c cL_law ret 4 "PenStrikeLaw" G) (I : INV ns M S) (L0 : LW G ns M S s H) (hX : va_X b L xs s s.heap) (hbl : b < s.heap.size) (hbA : ¬ AO G.2.2.2 b) (hS : va_S (AO G.2.2.2) s.heap H locs) (h1 : vp_in (x3 + zI ((1 : Nat) : Int)) L) (h2 : vp_in (x3 + zI ((2 : Nat) : Int)) L) (h3 : vp_in (x3 + zI ((3 : Nat) : Int)) L) (h4 : vp_in (x3 + zI ((4 : Nat) : Int)) L) (hf : cells + 21 ≤ room_1.cells ∧ slots + 228 ≤ room_1.slots) (hl : lv_has ls 4 [(0, .ref b), (1, .ref (adC G 0 0)), (2, .ref (adM G 0 0)), (3, .int x3)])
    (kk : ∀ (ns1 : Nat) (M1 S1 : Mem) (H1 : Heap) (locs1 : List Loc), INV ns1 M1 S1 → LW G ns1 M1 S1 s H1 → va_S (AO G.2.2.2) s.heap H1 locs1 → W p l e room_1 s m #[Value.ref b] below meth c H1 locs1 (cells + 21) (slots + 228) Q (F0 m 972 ls [])) : W p l e room_1 s m #[Value.ref b] below meth c H locs cells slots Q (F0 m 644 ls []) := by
  obtain ⟨hx, hb, hr, hlocks, hml, hown, hts, hK⟩ := id E0
  have hf0 : cells ≤ room_1.cells ∧ slots ≤ room_1.slots := ⟨Nat.le_trans (Nat.le_add_right cells 21) hf.1, Nat.le_trans (Nat.le_add_right slots 228) hf.2⟩
  obtain ⟨r, N, T, e1, e2, I1⟩ : C0 ns (f_X7_room (xs (x3 + zI (1 : Nat)).toNatClampNeg) M) (f_X8_room (xs (x3 + zI (1 : Nat)).toNatClampNeg) S) := q2c I (fun a W R Q u1 u2 => q_room W R Q (xs (x3 + zI (1 : Nat)).toNatClampNeg))
  refine lv_aload_n hx hb dL_law_644 rfl (lv_at hl 1 rfl) ?_
  refine lv_aload_n hx hb dL_law_645 rfl (lv_at hl 0 rfl) ?_
  refine lv_iload_n hx hb dL_law_646 rfl (lv_at hl 3 rfl) ?_
  refine lv_iconst (v := zI (1 : Nat)) hx hb dL_law_647 rfl ?_
  refine lv_iadd hx hb dL_law_648 ?_
  refine va_sld hx hb hX hbl hbA hS h1 dL_law_649 ?_
  refine lc_c (r := r) (As := [.int (xs (x3 + zI (1 : Nat)).toNatClampNeg)]) (na := 1) (rest := []) (ns' := ns) E0 L0 (c_X7_room l (G := G) e1) w_579 w_580 w_581 w_1 w_582 (by decide +kernel) ⟨Nat.le_of_ble_eq_true rfl, Nat.le_of_ble_eq_true rfl⟩ rfl hl rfl (Nat.le_of_ble_eq_true rfl) dL_law_650 hf0 hS (fun H locs L0 hS => ?_)
  refine lv_aload_n hx hb dL_law_653 rfl (lv_at hl 2 rfl) ?_
  refine lv_aload_n hx hb dL_law_654 rfl (lv_at hl 0 rfl) ?_
  refine lv_iload_n hx hb dL_law_655 rfl (lv_at hl 3 rfl) ?_
  refine lv_iconst (v := zI (1 : Nat)) hx hb dL_law_656 rfl ?_
  refine lv_iadd hx hb dL_law_657 ?_
  refine va_sld hx hb hX hbl hbA hS h1 dL_law_658 ?_
  refine lc_m (r := r) (As := [.int (xs (x3 + zI (1 : Nat)).toNatClampNeg)]) (na := 1) (rest := [.int r]) E0 L0 (c_X8_room l (G := G) e2) w_1042 w_1043 w_1044 w_9 w_1045 (by decide +kernel) ⟨Nat.le_of_ble_eq_true rfl, Nat.le_of_ble_eq_true rfl⟩ rfl hl rfl (Nat.le_of_ble_eq_true rfl) dL_law_659 hf0 hS (fun H locs L0 hS => ?_)
  refine lv_icmp_eq (tgt := 972) hx hb dL_law_662 (by decide) (fun _ => ?_) (fun z => absurd rfl z)
  refine W.widen (k := cells + 21) (n := slots + 228) (Nat.le_add_right cells 21) (Nat.le_add_right slots 228) ?_
  exact kk _ _ _ H locs I1 L0 hS
set_option maxHeartbeats 2000000 in
theorem lwc_spread (E0 : Cx p s m #[Value.ref b] meth c cL_law ret 4 "PenStrikeLaw" G) (I : INV ns M S) (L0 : LW G ns M S s H) (hX : va_X b L xs s s.heap) (hbl : b < s.heap.size) (hbA : ¬ AO G.2.2.2 b) (hS : va_S (AO G.2.2.2) s.heap H locs) (h1 : vp_in (x3 + zI ((1 : Nat) : Int)) L) (h2 : vp_in (x3 + zI ((2 : Nat) : Int)) L) (h3 : vp_in (x3 + zI ((3 : Nat) : Int)) L) (h4 : vp_in (x3 + zI ((4 : Nat) : Int)) L) (hf : cells + 21 ≤ room_1.cells ∧ slots + 228 ≤ room_1.slots) (hl : lv_has ls 4 [(0, .ref b), (1, .ref (adC G 0 0)), (2, .ref (adM G 0 0)), (3, .int x3)])
    (kk : ∀ (ns1 : Nat) (M1 S1 : Mem) (H1 : Heap) (locs1 : List Loc), INV ns1 M1 S1 → LW G ns1 M1 S1 s H1 → va_S (AO G.2.2.2) s.heap H1 locs1 → W p l e room_1 s m #[Value.ref b] below meth c H1 locs1 (cells + 21) (slots + 228) Q (F0 m 972 ls [])) : W p l e room_1 s m #[Value.ref b] below meth c H locs cells slots Q (F0 m 667 ls []) := by
  obtain ⟨hx, hb, hr, hlocks, hml, hown, hts, hK⟩ := id E0
  have hf0 : cells ≤ room_1.cells ∧ slots ≤ room_1.slots := ⟨Nat.le_trans (Nat.le_add_right cells 21) hf.1, Nat.le_trans (Nat.le_add_right slots 228) hf.2⟩
  obtain ⟨r, N, T, e1, e2, I1⟩ : C0 ns (f_X7_spread M) (f_X8_spread S) := q2c I (fun a W R Q u1 u2 => q_spread W R Q)
  refine lv_aload_n hx hb dL_law_667 rfl (lv_at hl 1 rfl) ?_
  refine lc_c (r := r) (As := []) (na := 0) (rest := []) (ns' := ns) E0 L0 (c_X7_spread l (G := G) e1) w_585 w_586 w_587 w_1 w_588 (by decide +kernel) ⟨Nat.le_of_ble_eq_true rfl, Nat.le_of_ble_eq_true rfl⟩ rfl hl rfl (Nat.le_of_ble_eq_true rfl) dL_law_668 hf0 hS (fun H locs L0 hS => ?_)
  refine lv_aload_n hx hb dL_law_671 rfl (lv_at hl 2 rfl) ?_
  refine lc_m (r := r) (As := []) (na := 0) (rest := [.int r]) E0 L0 (c_X8_spread l (G := G) e2) w_1046 w_1047 w_1048 w_9 w_1049 (by decide +kernel) ⟨Nat.le_of_ble_eq_true rfl, Nat.le_of_ble_eq_true rfl⟩ rfl hl rfl (Nat.le_of_ble_eq_true rfl) dL_law_672 hf0 hS (fun H locs L0 hS => ?_)
  refine lv_icmp_eq (tgt := 972) hx hb dL_law_675 (by decide) (fun _ => ?_) (fun z => absurd rfl z)
  refine W.widen (k := cells + 21) (n := slots + 228) (Nat.le_add_right cells 21) (Nat.le_add_right slots 228) ?_
  exact kk _ _ _ H locs I1 L0 hS
set_option maxHeartbeats 2000000 in
theorem lwc_touch (E0 : Cx p s m #[Value.ref b] meth c cL_law ret 4 "PenStrikeLaw" G) (I : INV ns M S) (L0 : LW G ns M S s H) (hX : va_X b L xs s s.heap) (hbl : b < s.heap.size) (hbA : ¬ AO G.2.2.2 b) (hS : va_S (AO G.2.2.2) s.heap H locs) (h1 : vp_in (x3 + zI ((1 : Nat) : Int)) L) (h2 : vp_in (x3 + zI ((2 : Nat) : Int)) L) (h3 : vp_in (x3 + zI ((3 : Nat) : Int)) L) (h4 : vp_in (x3 + zI ((4 : Nat) : Int)) L) (hf : cells + 21 ≤ room_1.cells ∧ slots + 228 ≤ room_1.slots) (hl : lv_has ls 4 [(0, .ref b), (1, .ref (adC G 0 0)), (2, .ref (adM G 0 0)), (3, .int x3)])
    (kk : ∀ (ns1 : Nat) (M1 S1 : Mem) (H1 : Heap) (locs1 : List Loc), INV ns1 M1 S1 → LW G ns1 M1 S1 s H1 → va_S (AO G.2.2.2) s.heap H1 locs1 → W p l e room_1 s m #[Value.ref b] below meth c H1 locs1 (cells + 21) (slots + 228) Q (F0 m 972 ls [])) : W p l e room_1 s m #[Value.ref b] below meth c H locs cells slots Q (F0 m 680 ls []) := by
  obtain ⟨hx, hb, hr, hlocks, hml, hown, hts, hK⟩ := id E0
  have hf0 : cells ≤ room_1.cells ∧ slots ≤ room_1.slots := ⟨Nat.le_trans (Nat.le_add_right cells 21) hf.1, Nat.le_trans (Nat.le_add_right slots 228) hf.2⟩
  obtain ⟨r, N, T, e1, e2, I1⟩ : C0 ns (f_X7_touch (xs (x3 + zI (1 : Nat)).toNatClampNeg) (xs (x3 + zI (2 : Nat)).toNatClampNeg) M) (f_X8_touch (xs (x3 + zI (1 : Nat)).toNatClampNeg) (xs (x3 + zI (2 : Nat)).toNatClampNeg) S) := q2c I (fun a W R Q u1 u2 => q_touch W R Q (xs (x3 + zI (1 : Nat)).toNatClampNeg) (xs (x3 + zI (2 : Nat)).toNatClampNeg))
  refine lv_aload_n hx hb dL_law_680 rfl (lv_at hl 1 rfl) ?_
  refine lv_aload_n hx hb dL_law_681 rfl (lv_at hl 0 rfl) ?_
  refine lv_iload_n hx hb dL_law_682 rfl (lv_at hl 3 rfl) ?_
  refine lv_iconst (v := zI (1 : Nat)) hx hb dL_law_683 rfl ?_
  refine lv_iadd hx hb dL_law_684 ?_
  refine va_sld hx hb hX hbl hbA hS h1 dL_law_685 ?_
  refine lv_aload_n hx hb dL_law_686 rfl (lv_at hl 0 rfl) ?_
  refine lv_iload_n hx hb dL_law_687 rfl (lv_at hl 3 rfl) ?_
  refine lv_iconst (v := zI (2 : Nat)) hx hb dL_law_688 rfl ?_
  refine lv_iadd hx hb dL_law_689 ?_
  refine va_sld hx hb hX hbl hbA hS h2 dL_law_690 ?_
  refine lc_c (r := r) (As := [.int (xs (x3 + zI (1 : Nat)).toNatClampNeg), .int (xs (x3 + zI (2 : Nat)).toNatClampNeg)]) (na := 2) (rest := []) (ns' := ns) E0 L0 (c_X7_touch l (G := G) e1) w_596 w_597 w_598 w_1 w_599 (by decide +kernel) ⟨Nat.le_of_ble_eq_true rfl, Nat.le_of_ble_eq_true rfl⟩ rfl hl rfl (Nat.le_of_ble_eq_true rfl) dL_law_691 hf0 hS (fun H locs L0 hS => ?_)
  refine lv_aload_n hx hb dL_law_694 rfl (lv_at hl 2 rfl) ?_
  refine lv_aload_n hx hb dL_law_695 rfl (lv_at hl 0 rfl) ?_
  refine lv_iload_n hx hb dL_law_696 rfl (lv_at hl 3 rfl) ?_
  refine lv_iconst (v := zI (1 : Nat)) hx hb dL_law_697 rfl ?_
  refine lv_iadd hx hb dL_law_698 ?_
  refine va_sld hx hb hX hbl hbA hS h1 dL_law_699 ?_
  refine lv_aload_n hx hb dL_law_700 rfl (lv_at hl 0 rfl) ?_
  refine lv_iload_n hx hb dL_law_701 rfl (lv_at hl 3 rfl) ?_
  refine lv_iconst (v := zI (2 : Nat)) hx hb dL_law_702 rfl ?_
  refine lv_iadd hx hb dL_law_703 ?_
  refine va_sld hx hb hX hbl hbA hS h2 dL_law_704 ?_
  refine lc_m (r := r) (As := [.int (xs (x3 + zI (1 : Nat)).toNatClampNeg), .int (xs (x3 + zI (2 : Nat)).toNatClampNeg)]) (na := 2) (rest := [.int r]) E0 L0 (c_X8_touch l (G := G) e2) w_1050 w_1051 w_1052 w_9 w_1053 (by decide +kernel) ⟨Nat.le_of_ble_eq_true rfl, Nat.le_of_ble_eq_true rfl⟩ rfl hl rfl (Nat.le_of_ble_eq_true rfl) dL_law_705 hf0 hS (fun H locs L0 hS => ?_)
  refine lv_icmp_eq (tgt := 972) hx hb dL_law_708 (by decide) (fun _ => ?_) (fun z => absurd rfl z)
  refine W.widen (k := cells + 21) (n := slots + 228) (Nat.le_add_right cells 21) (Nat.le_add_right slots 228) ?_
  exact kk _ _ _ H locs I1 L0 hS
set_option maxHeartbeats 2000000 in
theorem lwc_touching (E0 : Cx p s m #[Value.ref b] meth c cL_law ret 4 "PenStrikeLaw" G) (I : INV ns M S) (L0 : LW G ns M S s H) (hX : va_X b L xs s s.heap) (hbl : b < s.heap.size) (hbA : ¬ AO G.2.2.2 b) (hS : va_S (AO G.2.2.2) s.heap H locs) (h1 : vp_in (x3 + zI ((1 : Nat) : Int)) L) (h2 : vp_in (x3 + zI ((2 : Nat) : Int)) L) (h3 : vp_in (x3 + zI ((3 : Nat) : Int)) L) (h4 : vp_in (x3 + zI ((4 : Nat) : Int)) L) (hf : cells + 21 ≤ room_1.cells ∧ slots + 228 ≤ room_1.slots) (hl : lv_has ls 4 [(0, .ref b), (1, .ref (adC G 0 0)), (2, .ref (adM G 0 0)), (3, .int x3)])
    (kk : ∀ (ns1 : Nat) (M1 S1 : Mem) (H1 : Heap) (locs1 : List Loc), INV ns1 M1 S1 → LW G ns1 M1 S1 s H1 → va_S (AO G.2.2.2) s.heap H1 locs1 → W p l e room_1 s m #[Value.ref b] below meth c H1 locs1 (cells + 21) (slots + 228) Q (F0 m 972 ls [])) : W p l e room_1 s m #[Value.ref b] below meth c H locs cells slots Q (F0 m 713 ls []) := by
  obtain ⟨hx, hb, hr, hlocks, hml, hown, hts, hK⟩ := id E0
  have hf0 : cells ≤ room_1.cells ∧ slots ≤ room_1.slots := ⟨Nat.le_trans (Nat.le_add_right cells 21) hf.1, Nat.le_trans (Nat.le_add_right slots 228) hf.2⟩
  obtain ⟨r, N, T, e1, e2, I1⟩ : C0 ns (f_X7_touching (xs (x3 + zI (1 : Nat)).toNatClampNeg) M) (f_X8_touching (xs (x3 + zI (1 : Nat)).toNatClampNeg) S) := q2c I (fun a W R Q u1 u2 => q_touching W R Q (xs (x3 + zI (1 : Nat)).toNatClampNeg))
  refine lv_aload_n hx hb dL_law_713 rfl (lv_at hl 1 rfl) ?_
  refine lv_aload_n hx hb dL_law_714 rfl (lv_at hl 0 rfl) ?_
  refine lv_iload_n hx hb dL_law_715 rfl (lv_at hl 3 rfl) ?_
  refine lv_iconst (v := zI (1 : Nat)) hx hb dL_law_716 rfl ?_
  refine lv_iadd hx hb dL_law_717 ?_
  refine va_sld hx hb hX hbl hbA hS h1 dL_law_718 ?_
  refine lc_c (r := r) (As := [.int (xs (x3 + zI (1 : Nat)).toNatClampNeg)]) (na := 1) (rest := []) (ns' := ns) E0 L0 (c_X7_touching l (G := G) e1) w_601 w_602 w_603 w_1 w_604 (by decide +kernel) ⟨Nat.le_of_ble_eq_true rfl, Nat.le_of_ble_eq_true rfl⟩ rfl hl rfl (Nat.le_of_ble_eq_true rfl) dL_law_719 hf0 hS (fun H locs L0 hS => ?_)
  refine lv_aload_n hx hb dL_law_722 rfl (lv_at hl 2 rfl) ?_
  refine lv_aload_n hx hb dL_law_723 rfl (lv_at hl 0 rfl) ?_
  refine lv_iload_n hx hb dL_law_724 rfl (lv_at hl 3 rfl) ?_
  refine lv_iconst (v := zI (1 : Nat)) hx hb dL_law_725 rfl ?_
  refine lv_iadd hx hb dL_law_726 ?_
  refine va_sld hx hb hX hbl hbA hS h1 dL_law_727 ?_
  refine lc_m (r := r) (As := [.int (xs (x3 + zI (1 : Nat)).toNatClampNeg)]) (na := 1) (rest := [.int r]) E0 L0 (c_X8_touching l (G := G) e2) w_1054 w_1055 w_1056 w_9 w_1057 (by decide +kernel) ⟨Nat.le_of_ble_eq_true rfl, Nat.le_of_ble_eq_true rfl⟩ rfl hl rfl (Nat.le_of_ble_eq_true rfl) dL_law_728 hf0 hS (fun H locs L0 hS => ?_)
  refine lv_icmp_eq (tgt := 972) hx hb dL_law_731 (by decide) (fun _ => ?_) (fun z => absurd rfl z)
  refine W.widen (k := cells + 21) (n := slots + 228) (Nat.le_add_right cells 21) (Nat.le_add_right slots 228) ?_
  exact kk _ _ _ H locs I1 L0 hS
set_option maxHeartbeats 2000000 in
theorem lwc_seams (E0 : Cx p s m #[Value.ref b] meth c cL_law ret 4 "PenStrikeLaw" G) (I : INV ns M S) (L0 : LW G ns M S s H) (hX : va_X b L xs s s.heap) (hbl : b < s.heap.size) (hbA : ¬ AO G.2.2.2 b) (hS : va_S (AO G.2.2.2) s.heap H locs) (h1 : vp_in (x3 + zI ((1 : Nat) : Int)) L) (h2 : vp_in (x3 + zI ((2 : Nat) : Int)) L) (h3 : vp_in (x3 + zI ((3 : Nat) : Int)) L) (h4 : vp_in (x3 + zI ((4 : Nat) : Int)) L) (hf : cells + 21 ≤ room_1.cells ∧ slots + 228 ≤ room_1.slots) (hl : lv_has ls 4 [(0, .ref b), (1, .ref (adC G 0 0)), (2, .ref (adM G 0 0)), (3, .int x3)])
    (kk : ∀ (ns1 : Nat) (M1 S1 : Mem) (H1 : Heap) (locs1 : List Loc), INV ns1 M1 S1 → LW G ns1 M1 S1 s H1 → va_S (AO G.2.2.2) s.heap H1 locs1 → W p l e room_1 s m #[Value.ref b] below meth c H1 locs1 (cells + 21) (slots + 228) Q (F0 m 972 ls [])) : W p l e room_1 s m #[Value.ref b] below meth c H locs cells slots Q (F0 m 736 ls []) := by
  obtain ⟨hx, hb, hr, hlocks, hml, hown, hts, hK⟩ := id E0
  have hf0 : cells ≤ room_1.cells ∧ slots ≤ room_1.slots := ⟨Nat.le_trans (Nat.le_add_right cells 21) hf.1, Nat.le_trans (Nat.le_add_right slots 228) hf.2⟩
  obtain ⟨r, N, T, e1, e2, I1⟩ : C0 ns (f_X7_seams M) (f_X8_seams S) := q2c I (fun a W R Q u1 u2 => q_seams W R Q)
  refine lv_aload_n hx hb dL_law_736 rfl (lv_at hl 1 rfl) ?_
  refine lc_c (r := r) (As := []) (na := 0) (rest := []) (ns' := ns) E0 L0 (c_X7_seams l (G := G) e1) w_605 w_606 w_607 w_1 w_608 (by decide +kernel) ⟨Nat.le_of_ble_eq_true rfl, Nat.le_of_ble_eq_true rfl⟩ rfl hl rfl (Nat.le_of_ble_eq_true rfl) dL_law_737 hf0 hS (fun H locs L0 hS => ?_)
  refine lv_aload_n hx hb dL_law_740 rfl (lv_at hl 2 rfl) ?_
  refine lc_m (r := r) (As := []) (na := 0) (rest := [.int r]) E0 L0 (c_X8_seams l (G := G) e2) w_1058 w_1059 w_1060 w_9 w_1061 (by decide +kernel) ⟨Nat.le_of_ble_eq_true rfl, Nat.le_of_ble_eq_true rfl⟩ rfl hl rfl (Nat.le_of_ble_eq_true rfl) dL_law_741 hf0 hS (fun H locs L0 hS => ?_)
  refine lv_icmp_eq (tgt := 972) hx hb dL_law_744 (by decide) (fun _ => ?_) (fun z => absurd rfl z)
  refine W.widen (k := cells + 21) (n := slots + 228) (Nat.le_add_right cells 21) (Nat.le_add_right slots 228) ?_
  exact kk _ _ _ H locs I1 L0 hS
set_option maxHeartbeats 2000000 in
theorem lwc_seamsBy (E0 : Cx p s m #[Value.ref b] meth c cL_law ret 4 "PenStrikeLaw" G) (I : INV ns M S) (L0 : LW G ns M S s H) (hX : va_X b L xs s s.heap) (hbl : b < s.heap.size) (hbA : ¬ AO G.2.2.2 b) (hS : va_S (AO G.2.2.2) s.heap H locs) (h1 : vp_in (x3 + zI ((1 : Nat) : Int)) L) (h2 : vp_in (x3 + zI ((2 : Nat) : Int)) L) (h3 : vp_in (x3 + zI ((3 : Nat) : Int)) L) (h4 : vp_in (x3 + zI ((4 : Nat) : Int)) L) (hf : cells + 21 ≤ room_1.cells ∧ slots + 228 ≤ room_1.slots) (hl : lv_has ls 4 [(0, .ref b), (1, .ref (adC G 0 0)), (2, .ref (adM G 0 0)), (3, .int x3)])
    (kk : ∀ (ns1 : Nat) (M1 S1 : Mem) (H1 : Heap) (locs1 : List Loc), INV ns1 M1 S1 → LW G ns1 M1 S1 s H1 → va_S (AO G.2.2.2) s.heap H1 locs1 → W p l e room_1 s m #[Value.ref b] below meth c H1 locs1 (cells + 21) (slots + 228) Q (F0 m 972 ls [])) : W p l e room_1 s m #[Value.ref b] below meth c H locs cells slots Q (F0 m 749 ls []) := by
  obtain ⟨hx, hb, hr, hlocks, hml, hown, hts, hK⟩ := id E0
  have hf0 : cells ≤ room_1.cells ∧ slots ≤ room_1.slots := ⟨Nat.le_trans (Nat.le_add_right cells 21) hf.1, Nat.le_trans (Nat.le_add_right slots 228) hf.2⟩
  obtain ⟨r, N, T, e1, e2, I1⟩ : C0 ns (f_X7_seamsBy (xs (x3 + zI (1 : Nat)).toNatClampNeg) (xs (x3 + zI (2 : Nat)).toNatClampNeg) M) (f_X8_seamsBy (xs (x3 + zI (1 : Nat)).toNatClampNeg) (xs (x3 + zI (2 : Nat)).toNatClampNeg) S) := q2c I (fun a W R Q u1 u2 => q_seamsBy W R Q (xs (x3 + zI (1 : Nat)).toNatClampNeg) (xs (x3 + zI (2 : Nat)).toNatClampNeg))
  refine lv_aload_n hx hb dL_law_749 rfl (lv_at hl 1 rfl) ?_
  refine lv_aload_n hx hb dL_law_750 rfl (lv_at hl 0 rfl) ?_
  refine lv_iload_n hx hb dL_law_751 rfl (lv_at hl 3 rfl) ?_
  refine lv_iconst (v := zI (1 : Nat)) hx hb dL_law_752 rfl ?_
  refine lv_iadd hx hb dL_law_753 ?_
  refine va_sld hx hb hX hbl hbA hS h1 dL_law_754 ?_
  refine lv_aload_n hx hb dL_law_755 rfl (lv_at hl 0 rfl) ?_
  refine lv_iload_n hx hb dL_law_756 rfl (lv_at hl 3 rfl) ?_
  refine lv_iconst (v := zI (2 : Nat)) hx hb dL_law_757 rfl ?_
  refine lv_iadd hx hb dL_law_758 ?_
  refine va_sld hx hb hX hbl hbA hS h2 dL_law_759 ?_
  refine lc_c (r := r) (As := [.int (xs (x3 + zI (1 : Nat)).toNatClampNeg), .int (xs (x3 + zI (2 : Nat)).toNatClampNeg)]) (na := 2) (rest := []) (ns' := ns) E0 L0 (c_X7_seamsBy l (G := G) e1) w_630 w_631 w_632 w_1 w_633 (by decide +kernel) ⟨Nat.le_of_ble_eq_true rfl, Nat.le_of_ble_eq_true rfl⟩ rfl hl rfl (Nat.le_of_ble_eq_true rfl) dL_law_760 hf0 hS (fun H locs L0 hS => ?_)
  refine lv_aload_n hx hb dL_law_763 rfl (lv_at hl 2 rfl) ?_
  refine lv_aload_n hx hb dL_law_764 rfl (lv_at hl 0 rfl) ?_
  refine lv_iload_n hx hb dL_law_765 rfl (lv_at hl 3 rfl) ?_
  refine lv_iconst (v := zI (1 : Nat)) hx hb dL_law_766 rfl ?_
  refine lv_iadd hx hb dL_law_767 ?_
  refine va_sld hx hb hX hbl hbA hS h1 dL_law_768 ?_
  refine lv_aload_n hx hb dL_law_769 rfl (lv_at hl 0 rfl) ?_
  refine lv_iload_n hx hb dL_law_770 rfl (lv_at hl 3 rfl) ?_
  refine lv_iconst (v := zI (2 : Nat)) hx hb dL_law_771 rfl ?_
  refine lv_iadd hx hb dL_law_772 ?_
  refine va_sld hx hb hX hbl hbA hS h2 dL_law_773 ?_
  refine lc_m (r := r) (As := [.int (xs (x3 + zI (1 : Nat)).toNatClampNeg), .int (xs (x3 + zI (2 : Nat)).toNatClampNeg)]) (na := 2) (rest := [.int r]) E0 L0 (c_X8_seamsBy l (G := G) e2) w_1069 w_1070 w_1071 w_9 w_1072 (by decide +kernel) ⟨Nat.le_of_ble_eq_true rfl, Nat.le_of_ble_eq_true rfl⟩ rfl hl rfl (Nat.le_of_ble_eq_true rfl) dL_law_774 hf0 hS (fun H locs L0 hS => ?_)
  refine lv_icmp_eq (tgt := 972) hx hb dL_law_777 (by decide) (fun _ => ?_) (fun z => absurd rfl z)
  refine W.widen (k := cells + 21) (n := slots + 228) (Nat.le_add_right cells 21) (Nat.le_add_right slots 228) ?_
  exact kk _ _ _ H locs I1 L0 hS
set_option maxHeartbeats 2000000 in
theorem lwc_meanShade (E0 : Cx p s m #[Value.ref b] meth c cL_law ret 4 "PenStrikeLaw" G) (I : INV ns M S) (L0 : LW G ns M S s H) (hX : va_X b L xs s s.heap) (hbl : b < s.heap.size) (hbA : ¬ AO G.2.2.2 b) (hS : va_S (AO G.2.2.2) s.heap H locs) (h1 : vp_in (x3 + zI ((1 : Nat) : Int)) L) (h2 : vp_in (x3 + zI ((2 : Nat) : Int)) L) (h3 : vp_in (x3 + zI ((3 : Nat) : Int)) L) (h4 : vp_in (x3 + zI ((4 : Nat) : Int)) L) (hf : cells + 21 ≤ room_1.cells ∧ slots + 228 ≤ room_1.slots) (hl : lv_has ls 4 [(0, .ref b), (1, .ref (adC G 0 0)), (2, .ref (adM G 0 0)), (3, .int x3)])
    (kk : ∀ (ns1 : Nat) (M1 S1 : Mem) (H1 : Heap) (locs1 : List Loc), INV ns1 M1 S1 → LW G ns1 M1 S1 s H1 → va_S (AO G.2.2.2) s.heap H1 locs1 → W p l e room_1 s m #[Value.ref b] below meth c H1 locs1 (cells + 21) (slots + 228) Q (F0 m 972 ls [])) : W p l e room_1 s m #[Value.ref b] below meth c H locs cells slots Q (F0 m 782 ls []) := by
  obtain ⟨hx, hb, hr, hlocks, hml, hown, hts, hK⟩ := id E0
  have hf0 : cells ≤ room_1.cells ∧ slots ≤ room_1.slots := ⟨Nat.le_trans (Nat.le_add_right cells 21) hf.1, Nat.le_trans (Nat.le_add_right slots 228) hf.2⟩
  obtain ⟨r, N, T, e1, e2, I1⟩ : C0 ns (f_X7_meanShade M) (f_X8_meanShade S) := q2c I (fun a W R Q u1 u2 => q_meanShade W R Q)
  refine lv_aload_n hx hb dL_law_782 rfl (lv_at hl 1 rfl) ?_
  refine lc_c (r := r) (As := []) (na := 0) (rest := []) (ns' := ns) E0 L0 (c_X7_meanShade l (G := G) e1) w_638 w_639 w_640 w_1 w_641 (by decide +kernel) ⟨Nat.le_of_ble_eq_true rfl, Nat.le_of_ble_eq_true rfl⟩ rfl hl rfl (Nat.le_of_ble_eq_true rfl) dL_law_783 hf0 hS (fun H locs L0 hS => ?_)
  refine lv_aload_n hx hb dL_law_786 rfl (lv_at hl 2 rfl) ?_
  refine lc_m (r := r) (As := []) (na := 0) (rest := [.int r]) E0 L0 (c_X8_meanShade l (G := G) e2) w_1073 w_1074 w_1075 w_9 w_1076 (by decide +kernel) ⟨Nat.le_of_ble_eq_true rfl, Nat.le_of_ble_eq_true rfl⟩ rfl hl rfl (Nat.le_of_ble_eq_true rfl) dL_law_787 hf0 hS (fun H locs L0 hS => ?_)
  refine lv_icmp_eq (tgt := 972) hx hb dL_law_790 (by decide) (fun _ => ?_) (fun z => absurd rfl z)
  refine W.widen (k := cells + 21) (n := slots + 228) (Nat.le_add_right cells 21) (Nat.le_add_right slots 228) ?_
  exact kk _ _ _ H locs I1 L0 hS
set_option maxHeartbeats 2000000 in
theorem lwc_fair (E0 : Cx p s m #[Value.ref b] meth c cL_law ret 4 "PenStrikeLaw" G) (I : INV ns M S) (L0 : LW G ns M S s H) (hX : va_X b L xs s s.heap) (hbl : b < s.heap.size) (hbA : ¬ AO G.2.2.2 b) (hS : va_S (AO G.2.2.2) s.heap H locs) (h1 : vp_in (x3 + zI ((1 : Nat) : Int)) L) (h2 : vp_in (x3 + zI ((2 : Nat) : Int)) L) (h3 : vp_in (x3 + zI ((3 : Nat) : Int)) L) (h4 : vp_in (x3 + zI ((4 : Nat) : Int)) L) (hf : cells + 21 ≤ room_1.cells ∧ slots + 228 ≤ room_1.slots) (hl : lv_has ls 4 [(0, .ref b), (1, .ref (adC G 0 0)), (2, .ref (adM G 0 0)), (3, .int x3)])
    (kk : ∀ (ns1 : Nat) (M1 S1 : Mem) (H1 : Heap) (locs1 : List Loc), INV ns1 M1 S1 → LW G ns1 M1 S1 s H1 → va_S (AO G.2.2.2) s.heap H1 locs1 → W p l e room_1 s m #[Value.ref b] below meth c H1 locs1 (cells + 21) (slots + 228) Q (F0 m 972 ls [])) : W p l e room_1 s m #[Value.ref b] below meth c H locs cells slots Q (F0 m 795 ls []) := by
  obtain ⟨hx, hb, hr, hlocks, hml, hown, hts, hK⟩ := id E0
  have hf0 : cells ≤ room_1.cells ∧ slots ≤ room_1.slots := ⟨Nat.le_trans (Nat.le_add_right cells 21) hf.1, Nat.le_trans (Nat.le_add_right slots 228) hf.2⟩
  obtain ⟨r, N, T, e1, e2, I1⟩ : C0 ns (f_X7_fair (xs (x3 + zI (1 : Nat)).toNatClampNeg) M) (f_X8_fair (xs (x3 + zI (1 : Nat)).toNatClampNeg) S) := q3c I (fun a W R Q => q_fair W R Q (xs (x3 + zI (1 : Nat)).toNatClampNeg))
  refine lv_aload_n hx hb dL_law_795 rfl (lv_at hl 1 rfl) ?_
  refine lv_aload_n hx hb dL_law_796 rfl (lv_at hl 0 rfl) ?_
  refine lv_iload_n hx hb dL_law_797 rfl (lv_at hl 3 rfl) ?_
  refine lv_iconst (v := zI (1 : Nat)) hx hb dL_law_798 rfl ?_
  refine lv_iadd hx hb dL_law_799 ?_
  refine va_sld hx hb hX hbl hbA hS h1 dL_law_800 ?_
  refine lc_c (r := r) (As := [.int (xs (x3 + zI (1 : Nat)).toNatClampNeg)]) (na := 1) (rest := []) (ns' := ns) E0 L0 (c_X7_fair l (G := G) e1) w_642 w_643 w_644 w_1 w_645 (by decide +kernel) ⟨Nat.le_of_ble_eq_true rfl, Nat.le_of_ble_eq_true rfl⟩ rfl hl rfl (Nat.le_of_ble_eq_true rfl) dL_law_801 hf0 hS (fun H locs L0 hS => ?_)
  refine lv_aload_n hx hb dL_law_804 rfl (lv_at hl 2 rfl) ?_
  refine lv_aload_n hx hb dL_law_805 rfl (lv_at hl 0 rfl) ?_
  refine lv_iload_n hx hb dL_law_806 rfl (lv_at hl 3 rfl) ?_
  refine lv_iconst (v := zI (1 : Nat)) hx hb dL_law_807 rfl ?_
  refine lv_iadd hx hb dL_law_808 ?_
  refine va_sld hx hb hX hbl hbA hS h1 dL_law_809 ?_
  refine lc_m (r := r) (As := [.int (xs (x3 + zI (1 : Nat)).toNatClampNeg)]) (na := 1) (rest := [.int r]) E0 L0 (c_X8_fair l (G := G) e2) w_1080 w_1081 w_1082 w_9 w_1083 (by decide +kernel) ⟨Nat.le_of_ble_eq_true rfl, Nat.le_of_ble_eq_true rfl⟩ rfl hl rfl (Nat.le_of_ble_eq_true rfl) dL_law_810 hf0 hS (fun H locs L0 hS => ?_)
  refine lv_icmp_eq (tgt := 972) hx hb dL_law_813 (by decide) (fun _ => ?_) (fun z => absurd rfl z)
  refine W.widen (k := cells + 21) (n := slots + 228) (Nat.le_add_right cells 21) (Nat.le_add_right slots 228) ?_
  exact kk _ _ _ H locs I1 L0 hS
set_option maxHeartbeats 2000000 in
theorem lwc_fairSpread (E0 : Cx p s m #[Value.ref b] meth c cL_law ret 4 "PenStrikeLaw" G) (I : INV ns M S) (L0 : LW G ns M S s H) (hX : va_X b L xs s s.heap) (hbl : b < s.heap.size) (hbA : ¬ AO G.2.2.2 b) (hS : va_S (AO G.2.2.2) s.heap H locs) (h1 : vp_in (x3 + zI ((1 : Nat) : Int)) L) (h2 : vp_in (x3 + zI ((2 : Nat) : Int)) L) (h3 : vp_in (x3 + zI ((3 : Nat) : Int)) L) (h4 : vp_in (x3 + zI ((4 : Nat) : Int)) L) (hf : cells + 21 ≤ room_1.cells ∧ slots + 228 ≤ room_1.slots) (hl : lv_has ls 4 [(0, .ref b), (1, .ref (adC G 0 0)), (2, .ref (adM G 0 0)), (3, .int x3)])
    (kk : ∀ (ns1 : Nat) (M1 S1 : Mem) (H1 : Heap) (locs1 : List Loc), INV ns1 M1 S1 → LW G ns1 M1 S1 s H1 → va_S (AO G.2.2.2) s.heap H1 locs1 → W p l e room_1 s m #[Value.ref b] below meth c H1 locs1 (cells + 21) (slots + 228) Q (F0 m 972 ls [])) : W p l e room_1 s m #[Value.ref b] below meth c H locs cells slots Q (F0 m 818 ls []) := by
  obtain ⟨hx, hb, hr, hlocks, hml, hown, hts, hK⟩ := id E0
  have hf0 : cells ≤ room_1.cells ∧ slots ≤ room_1.slots := ⟨Nat.le_trans (Nat.le_add_right cells 21) hf.1, Nat.le_trans (Nat.le_add_right slots 228) hf.2⟩
  obtain ⟨r, N, T, e1, e2, I1⟩ : C0 ns (f_X7_fairSpread M) (f_X8_fairSpread S) := q3c I (fun a W R Q => q_fairSpread W R Q)
  refine lv_aload_n hx hb dL_law_818 rfl (lv_at hl 1 rfl) ?_
  refine lc_c (r := r) (As := []) (na := 0) (rest := []) (ns' := ns) E0 L0 (c_X7_fairSpread l (G := G) e1) w_661 w_662 w_663 w_1 w_664 (by decide +kernel) ⟨Nat.le_of_ble_eq_true rfl, Nat.le_of_ble_eq_true rfl⟩ rfl hl rfl (Nat.le_of_ble_eq_true rfl) dL_law_819 hf0 hS (fun H locs L0 hS => ?_)
  refine lv_aload_n hx hb dL_law_822 rfl (lv_at hl 2 rfl) ?_
  refine lc_m (r := r) (As := []) (na := 0) (rest := [.int r]) E0 L0 (c_X8_fairSpread l (G := G) e2) w_1088 w_1089 w_1090 w_9 w_1091 (by decide +kernel) ⟨Nat.le_of_ble_eq_true rfl, Nat.le_of_ble_eq_true rfl⟩ rfl hl rfl (Nat.le_of_ble_eq_true rfl) dL_law_823 hf0 hS (fun H locs L0 hS => ?_)
  refine lv_icmp_eq (tgt := 972) hx hb dL_law_826 (by decide) (fun _ => ?_) (fun z => absurd rfl z)
  refine W.widen (k := cells + 21) (n := slots + 228) (Nat.le_add_right cells 21) (Nat.le_add_right slots 228) ?_
  exact kk _ _ _ H locs I1 L0 hS
set_option maxHeartbeats 2000000 in
theorem lwc_tour (E0 : Cx p s m #[Value.ref b] meth c cL_law ret 4 "PenStrikeLaw" G) (I : INV ns M S) (L0 : LW G ns M S s H) (hX : va_X b L xs s s.heap) (hbl : b < s.heap.size) (hbA : ¬ AO G.2.2.2 b) (hS : va_S (AO G.2.2.2) s.heap H locs) (h1 : vp_in (x3 + zI ((1 : Nat) : Int)) L) (h2 : vp_in (x3 + zI ((2 : Nat) : Int)) L) (h3 : vp_in (x3 + zI ((3 : Nat) : Int)) L) (h4 : vp_in (x3 + zI ((4 : Nat) : Int)) L) (hf : cells + 21 ≤ room_1.cells ∧ slots + 228 ≤ room_1.slots) (hl : lv_has ls 4 [(0, .ref b), (1, .ref (adC G 0 0)), (2, .ref (adM G 0 0)), (3, .int x3)])
    (kk : ∀ (ns1 : Nat) (M1 S1 : Mem) (H1 : Heap) (locs1 : List Loc), INV ns1 M1 S1 → LW G ns1 M1 S1 s H1 → va_S (AO G.2.2.2) s.heap H1 locs1 → W p l e room_1 s m #[Value.ref b] below meth c H1 locs1 (cells + 21) (slots + 228) Q (F0 m 972 ls [])) : W p l e room_1 s m #[Value.ref b] below meth c H locs cells slots Q (F0 m 831 ls []) := by
  obtain ⟨hx, hb, hr, hlocks, hml, hown, hts, hK⟩ := id E0
  have hf0 : cells ≤ room_1.cells ∧ slots ≤ room_1.slots := ⟨Nat.le_trans (Nat.le_add_right cells 21) hf.1, Nat.le_trans (Nat.le_add_right slots 228) hf.2⟩
  obtain ⟨r, N, T, e1, e2, I1⟩ : C0 ns (f_X7_tour (xs (x3 + zI (1 : Nat)).toNatClampNeg) (xs (x3 + zI (2 : Nat)).toNatClampNeg) M) (f_X8_tour (xs (x3 + zI (1 : Nat)).toNatClampNeg) (xs (x3 + zI (2 : Nat)).toNatClampNeg) S) := q3c I (fun a W R Q => q_tour W R Q (xs (x3 + zI (1 : Nat)).toNatClampNeg) (xs (x3 + zI (2 : Nat)).toNatClampNeg))
  refine lv_aload_n hx hb dL_law_831 rfl (lv_at hl 1 rfl) ?_
  refine lv_aload_n hx hb dL_law_832 rfl (lv_at hl 0 rfl) ?_
  refine lv_iload_n hx hb dL_law_833 rfl (lv_at hl 3 rfl) ?_
  refine lv_iconst (v := zI (1 : Nat)) hx hb dL_law_834 rfl ?_
  refine lv_iadd hx hb dL_law_835 ?_
  refine va_sld hx hb hX hbl hbA hS h1 dL_law_836 ?_
  refine lv_aload_n hx hb dL_law_837 rfl (lv_at hl 0 rfl) ?_
  refine lv_iload_n hx hb dL_law_838 rfl (lv_at hl 3 rfl) ?_
  refine lv_iconst (v := zI (2 : Nat)) hx hb dL_law_839 rfl ?_
  refine lv_iadd hx hb dL_law_840 ?_
  refine va_sld hx hb hX hbl hbA hS h2 dL_law_841 ?_
  refine lc_c (r := r) (As := [.int (xs (x3 + zI (1 : Nat)).toNatClampNeg), .int (xs (x3 + zI (2 : Nat)).toNatClampNeg)]) (na := 2) (rest := []) (ns' := ns) E0 L0 (c_X7_tour l (G := G) e1) w_665 w_666 w_667 w_1 w_668 (by decide +kernel) ⟨Nat.le_of_ble_eq_true rfl, Nat.le_of_ble_eq_true rfl⟩ rfl hl rfl (Nat.le_of_ble_eq_true rfl) dL_law_842 hf0 hS (fun H locs L0 hS => ?_)
  refine lv_aload_n hx hb dL_law_845 rfl (lv_at hl 2 rfl) ?_
  refine lv_aload_n hx hb dL_law_846 rfl (lv_at hl 0 rfl) ?_
  refine lv_iload_n hx hb dL_law_847 rfl (lv_at hl 3 rfl) ?_
  refine lv_iconst (v := zI (1 : Nat)) hx hb dL_law_848 rfl ?_
  refine lv_iadd hx hb dL_law_849 ?_
  refine va_sld hx hb hX hbl hbA hS h1 dL_law_850 ?_
  refine lv_aload_n hx hb dL_law_851 rfl (lv_at hl 0 rfl) ?_
  refine lv_iload_n hx hb dL_law_852 rfl (lv_at hl 3 rfl) ?_
  refine lv_iconst (v := zI (2 : Nat)) hx hb dL_law_853 rfl ?_
  refine lv_iadd hx hb dL_law_854 ?_
  refine va_sld hx hb hX hbl hbA hS h2 dL_law_855 ?_
  refine lc_m (r := r) (As := [.int (xs (x3 + zI (1 : Nat)).toNatClampNeg), .int (xs (x3 + zI (2 : Nat)).toNatClampNeg)]) (na := 2) (rest := [.int r]) E0 L0 (c_X8_tour l (G := G) e2) w_1092 w_1093 w_1094 w_9 w_1095 (by decide +kernel) ⟨Nat.le_of_ble_eq_true rfl, Nat.le_of_ble_eq_true rfl⟩ rfl hl rfl (Nat.le_of_ble_eq_true rfl) dL_law_856 hf0 hS (fun H locs L0 hS => ?_)
  refine lv_icmp_eq (tgt := 972) hx hb dL_law_859 (by decide) (fun _ => ?_) (fun z => absurd rfl z)
  refine W.widen (k := cells + 21) (n := slots + 228) (Nat.le_add_right cells 21) (Nat.le_add_right slots 228) ?_
  exact kk _ _ _ H locs I1 L0 hS
set_option maxHeartbeats 2000000 in
theorem lwc_count (E0 : Cx p s m #[Value.ref b] meth c cL_law ret 4 "PenStrikeLaw" G) (I : INV ns M S) (L0 : LW G ns M S s H) (hX : va_X b L xs s s.heap) (hbl : b < s.heap.size) (hbA : ¬ AO G.2.2.2 b) (hS : va_S (AO G.2.2.2) s.heap H locs) (h1 : vp_in (x3 + zI ((1 : Nat) : Int)) L) (h2 : vp_in (x3 + zI ((2 : Nat) : Int)) L) (h3 : vp_in (x3 + zI ((3 : Nat) : Int)) L) (h4 : vp_in (x3 + zI ((4 : Nat) : Int)) L) (hf : cells + 21 ≤ room_1.cells ∧ slots + 228 ≤ room_1.slots) (hl : lv_has ls 4 [(0, .ref b), (1, .ref (adC G 0 0)), (2, .ref (adM G 0 0)), (3, .int x3)])
    (kk : ∀ (ns1 : Nat) (M1 S1 : Mem) (H1 : Heap) (locs1 : List Loc), INV ns1 M1 S1 → LW G ns1 M1 S1 s H1 → va_S (AO G.2.2.2) s.heap H1 locs1 → W p l e room_1 s m #[Value.ref b] below meth c H1 locs1 (cells + 21) (slots + 228) Q (F0 m 972 ls [])) : W p l e room_1 s m #[Value.ref b] below meth c H locs cells slots Q (F0 m 864 ls []) := by
  obtain ⟨hx, hb, hr, hlocks, hml, hown, hts, hK⟩ := id E0
  have hf0 : cells ≤ room_1.cells ∧ slots ≤ room_1.slots := ⟨Nat.le_trans (Nat.le_add_right cells 21) hf.1, Nat.le_trans (Nat.le_add_right slots 228) hf.2⟩
  obtain ⟨r, N, T, e1, e2, I1⟩ : C0 ns (f_X7_count (xs (x3 + zI (1 : Nat)).toNatClampNeg) M) (f_X8_count (xs (x3 + zI (1 : Nat)).toNatClampNeg) S) := q2c I (fun a W R Q u1 u2 => q_count W R Q u1 u2 (xs (x3 + zI (1 : Nat)).toNatClampNeg))
  refine lv_aload_n hx hb dL_law_864 rfl (lv_at hl 1 rfl) ?_
  refine lv_aload_n hx hb dL_law_865 rfl (lv_at hl 0 rfl) ?_
  refine lv_iload_n hx hb dL_law_866 rfl (lv_at hl 3 rfl) ?_
  refine lv_iconst (v := zI (1 : Nat)) hx hb dL_law_867 rfl ?_
  refine lv_iadd hx hb dL_law_868 ?_
  refine va_sld hx hb hX hbl hbA hS h1 dL_law_869 ?_
  refine lc_c (r := r) (As := [.int (xs (x3 + zI (1 : Nat)).toNatClampNeg)]) (na := 1) (rest := []) (ns' := ns) E0 L0 (c_X7_count l (G := G) e1) w_689 w_690 w_691 w_1 w_692 (by decide +kernel) ⟨Nat.le_of_ble_eq_true rfl, Nat.le_of_ble_eq_true rfl⟩ rfl hl rfl (Nat.le_of_ble_eq_true rfl) dL_law_870 hf0 hS (fun H locs L0 hS => ?_)
  refine lv_aload_n hx hb dL_law_873 rfl (lv_at hl 2 rfl) ?_
  refine lv_aload_n hx hb dL_law_874 rfl (lv_at hl 0 rfl) ?_
  refine lv_iload_n hx hb dL_law_875 rfl (lv_at hl 3 rfl) ?_
  refine lv_iconst (v := zI (1 : Nat)) hx hb dL_law_876 rfl ?_
  refine lv_iadd hx hb dL_law_877 ?_
  refine va_sld hx hb hX hbl hbA hS h1 dL_law_878 ?_
  refine lc_m (r := r) (As := [.int (xs (x3 + zI (1 : Nat)).toNatClampNeg)]) (na := 1) (rest := [.int r]) E0 L0 (c_X8_count l (G := G) e2) w_1100 w_1101 w_1102 w_9 w_1103 (by decide +kernel) ⟨Nat.le_of_ble_eq_true rfl, Nat.le_of_ble_eq_true rfl⟩ rfl hl rfl (Nat.le_of_ble_eq_true rfl) dL_law_879 hf0 hS (fun H locs L0 hS => ?_)
  refine lv_icmp_eq (tgt := 972) hx hb dL_law_882 (by decide) (fun _ => ?_) (fun z => absurd rfl z)
  refine W.widen (k := cells + 21) (n := slots + 228) (Nat.le_add_right cells 21) (Nat.le_add_right slots 228) ?_
  exact kk _ _ _ H locs I1 L0 hS
set_option maxHeartbeats 2000000 in
theorem lwc_undo (E0 : Cx p s m #[Value.ref b] meth c cL_law ret 4 "PenStrikeLaw" G) (I : INV ns M S) (L0 : LW G ns M S s H) (hX : va_X b L xs s s.heap) (hbl : b < s.heap.size) (hbA : ¬ AO G.2.2.2 b) (hS : va_S (AO G.2.2.2) s.heap H locs) (h1 : vp_in (x3 + zI ((1 : Nat) : Int)) L) (h2 : vp_in (x3 + zI ((2 : Nat) : Int)) L) (h3 : vp_in (x3 + zI ((3 : Nat) : Int)) L) (h4 : vp_in (x3 + zI ((4 : Nat) : Int)) L) (hf : cells + 21 ≤ room_1.cells ∧ slots + 228 ≤ room_1.slots) (hl : lv_has ls 4 [(0, .ref b), (1, .ref (adC G 0 0)), (2, .ref (adM G 0 0)), (3, .int x3)])
    (kk : ∀ (ns1 : Nat) (M1 S1 : Mem) (H1 : Heap) (locs1 : List Loc), INV ns1 M1 S1 → LW G ns1 M1 S1 s H1 → va_S (AO G.2.2.2) s.heap H1 locs1 → W p l e room_1 s m #[Value.ref b] below meth c H1 locs1 (cells + 21) (slots + 228) Q (F0 m 972 ls [])) : W p l e room_1 s m #[Value.ref b] below meth c H locs cells slots Q (F0 m 887 ls []) := by
  obtain ⟨hx, hb, hr, hlocks, hml, hown, hts, hK⟩ := id E0
  have hf0 : cells ≤ room_1.cells ∧ slots ≤ room_1.slots := ⟨Nat.le_trans (Nat.le_add_right cells 21) hf.1, Nat.le_trans (Nat.le_add_right slots 228) hf.2⟩
  obtain ⟨r, N, T, e1, e2, I1⟩ : C0 ns (f_X7_undo ns M) (f_X8_undo S) := ch_undo I
  refine lv_aload_n hx hb dL_law_887 rfl (lv_at hl 1 rfl) ?_
  refine lc_c (r := r) (As := []) (na := 0) (rest := []) (ns' := ns) E0 L0 (c_X7_undo l (G := G) e1) w_707 w_708 w_709 w_1 w_710 (by decide +kernel) ⟨Nat.le_of_ble_eq_true rfl, Nat.le_of_ble_eq_true rfl⟩ rfl hl rfl (Nat.le_of_ble_eq_true rfl) dL_law_888 hf0 hS (fun H locs L0 hS => ?_)
  refine lv_aload_n hx hb dL_law_891 rfl (lv_at hl 2 rfl) ?_
  refine lc_m (r := r) (As := []) (na := 0) (rest := [.int r]) E0 L0 (c_X8_undo l (G := G) e2) w_1104 w_1105 w_1106 w_9 w_1107 (by decide +kernel) ⟨Nat.le_of_ble_eq_true rfl, Nat.le_of_ble_eq_true rfl⟩ rfl hl rfl (Nat.le_of_ble_eq_true rfl) dL_law_892 hf0 hS (fun H locs L0 hS => ?_)
  refine lv_icmp_eq (tgt := 972) hx hb dL_law_895 (by decide) (fun _ => ?_) (fun z => absurd rfl z)
  refine W.widen (k := cells + 21) (n := slots + 228) (Nat.le_add_right cells 21) (Nat.le_add_right slots 228) ?_
  exact kk _ _ _ H locs I1 L0 hS
set_option maxHeartbeats 2000000 in
theorem lwc_type (E0 : Cx p s m #[Value.ref b] meth c cL_law ret 4 "PenStrikeLaw" G) (I : INV ns M S) (L0 : LW G ns M S s H) (hX : va_X b L xs s s.heap) (hbl : b < s.heap.size) (hbA : ¬ AO G.2.2.2 b) (hS : va_S (AO G.2.2.2) s.heap H locs) (h1 : vp_in (x3 + zI ((1 : Nat) : Int)) L) (h2 : vp_in (x3 + zI ((2 : Nat) : Int)) L) (h3 : vp_in (x3 + zI ((3 : Nat) : Int)) L) (h4 : vp_in (x3 + zI ((4 : Nat) : Int)) L) (hf : cells + 21 ≤ room_1.cells ∧ slots + 228 ≤ room_1.slots) (hl : lv_has ls 4 [(0, .ref b), (1, .ref (adC G 0 0)), (2, .ref (adM G 0 0)), (3, .int x3)])
    (kk : ∀ (ns1 : Nat) (M1 S1 : Mem) (H1 : Heap) (locs1 : List Loc), INV ns1 M1 S1 → LW G ns1 M1 S1 s H1 → va_S (AO G.2.2.2) s.heap H1 locs1 → W p l e room_1 s m #[Value.ref b] below meth c H1 locs1 (cells + 21) (slots + 228) Q (F0 m 972 ls [])) : W p l e room_1 s m #[Value.ref b] below meth c H locs cells slots Q (F0 m 900 ls []) := by
  obtain ⟨hx, hb, hr, hlocks, hml, hown, hts, hK⟩ := id E0
  have hf0 : cells ≤ room_1.cells ∧ slots ≤ room_1.slots := ⟨Nat.le_trans (Nat.le_add_right cells 21) hf.1, Nat.le_trans (Nat.le_add_right slots 228) hf.2⟩
  obtain ⟨r, N, T, e1, e2, I1⟩ : C0 ns (f_X7_type (xs (x3 + zI (1 : Nat)).toNatClampNeg) M) (f_X8_type (xs (x3 + zI (1 : Nat)).toNatClampNeg) S) := ch_type I (xs (x3 + zI (1 : Nat)).toNatClampNeg)
  refine lv_aload_n hx hb dL_law_900 rfl (lv_at hl 1 rfl) ?_
  refine lv_aload_n hx hb dL_law_901 rfl (lv_at hl 0 rfl) ?_
  refine lv_iload_n hx hb dL_law_902 rfl (lv_at hl 3 rfl) ?_
  refine lv_iconst (v := zI (1 : Nat)) hx hb dL_law_903 rfl ?_
  refine lv_iadd hx hb dL_law_904 ?_
  refine va_sld hx hb hX hbl hbA hS h1 dL_law_905 ?_
  refine lc_c (r := r) (As := [.int (xs (x3 + zI (1 : Nat)).toNatClampNeg)]) (na := 1) (rest := []) (ns' := ns) E0 L0 (c_X7_type l (G := G) e1) w_715 w_716 w_717 w_1 w_718 (by decide +kernel) ⟨Nat.le_of_ble_eq_true rfl, Nat.le_of_ble_eq_true rfl⟩ rfl hl rfl (Nat.le_of_ble_eq_true rfl) dL_law_906 hf0 hS (fun H locs L0 hS => ?_)
  refine lv_aload_n hx hb dL_law_909 rfl (lv_at hl 2 rfl) ?_
  refine lv_aload_n hx hb dL_law_910 rfl (lv_at hl 0 rfl) ?_
  refine lv_iload_n hx hb dL_law_911 rfl (lv_at hl 3 rfl) ?_
  refine lv_iconst (v := zI (1 : Nat)) hx hb dL_law_912 rfl ?_
  refine lv_iadd hx hb dL_law_913 ?_
  refine va_sld hx hb hX hbl hbA hS h1 dL_law_914 ?_
  refine lc_m (r := r) (As := [.int (xs (x3 + zI (1 : Nat)).toNatClampNeg)]) (na := 1) (rest := [.int r]) E0 L0 (c_X8_type l (G := G) e2) w_1108 w_1109 w_1110 w_9 w_1111 (by decide +kernel) ⟨Nat.le_of_ble_eq_true rfl, Nat.le_of_ble_eq_true rfl⟩ rfl hl rfl (Nat.le_of_ble_eq_true rfl) dL_law_915 hf0 hS (fun H locs L0 hS => ?_)
  refine lv_icmp_eq (tgt := 972) hx hb dL_law_918 (by decide) (fun _ => ?_) (fun z => absurd rfl z)
  refine W.widen (k := cells + 21) (n := slots + 228) (Nat.le_add_right cells 21) (Nat.le_add_right slots 228) ?_
  exact kk _ _ _ H locs I1 L0 hS
set_option maxHeartbeats 2000000 in
theorem lwc_clearText (E0 : Cx p s m #[Value.ref b] meth c cL_law ret 4 "PenStrikeLaw" G) (I : INV ns M S) (L0 : LW G ns M S s H) (hX : va_X b L xs s s.heap) (hbl : b < s.heap.size) (hbA : ¬ AO G.2.2.2 b) (hS : va_S (AO G.2.2.2) s.heap H locs) (h1 : vp_in (x3 + zI ((1 : Nat) : Int)) L) (h2 : vp_in (x3 + zI ((2 : Nat) : Int)) L) (h3 : vp_in (x3 + zI ((3 : Nat) : Int)) L) (h4 : vp_in (x3 + zI ((4 : Nat) : Int)) L) (hf : cells + 21 ≤ room_1.cells ∧ slots + 228 ≤ room_1.slots) (hl : lv_has ls 4 [(0, .ref b), (1, .ref (adC G 0 0)), (2, .ref (adM G 0 0)), (3, .int x3)])
    (kk : ∀ (ns1 : Nat) (M1 S1 : Mem) (H1 : Heap) (locs1 : List Loc), INV ns1 M1 S1 → LW G ns1 M1 S1 s H1 → va_S (AO G.2.2.2) s.heap H1 locs1 → W p l e room_1 s m #[Value.ref b] below meth c H1 locs1 (cells + 21) (slots + 228) Q (F0 m 972 ls [])) : W p l e room_1 s m #[Value.ref b] below meth c H locs cells slots Q (F0 m 923 ls []) := by
  obtain ⟨hx, hb, hr, hlocks, hml, hown, hts, hK⟩ := id E0
  have hf0 : cells ≤ room_1.cells ∧ slots ≤ room_1.slots := ⟨Nat.le_trans (Nat.le_add_right cells 21) hf.1, Nat.le_trans (Nat.le_add_right slots 228) hf.2⟩
  obtain ⟨r, N, T, e1, e2, I1⟩ : C0 ns (f_X7_clearText M) (f_X8_clearText S) := ch_clearText I
  refine lv_aload_n hx hb dL_law_923 rfl (lv_at hl 1 rfl) ?_
  refine lc_c (r := r) (As := []) (na := 0) (rest := []) (ns' := ns) E0 L0 (c_X7_clearText l (G := G) e1) w_723 w_724 w_725 w_1 w_726 (by decide +kernel) ⟨Nat.le_of_ble_eq_true rfl, Nat.le_of_ble_eq_true rfl⟩ rfl hl rfl (Nat.le_of_ble_eq_true rfl) dL_law_924 hf0 hS (fun H locs L0 hS => ?_)
  refine lv_aload_n hx hb dL_law_927 rfl (lv_at hl 2 rfl) ?_
  refine lc_m (r := r) (As := []) (na := 0) (rest := [.int r]) E0 L0 (c_X8_clearText l (G := G) e2) w_1112 w_1113 w_1114 w_9 w_1115 (by decide +kernel) ⟨Nat.le_of_ble_eq_true rfl, Nat.le_of_ble_eq_true rfl⟩ rfl hl rfl (Nat.le_of_ble_eq_true rfl) dL_law_928 hf0 hS (fun H locs L0 hS => ?_)
  refine lv_icmp_eq (tgt := 972) hx hb dL_law_931 (by decide) (fun _ => ?_) (fun z => absurd rfl z)
  refine W.widen (k := cells + 21) (n := slots + 228) (Nat.le_add_right cells 21) (Nat.le_add_right slots 228) ?_
  exact kk _ _ _ H locs I1 L0 hS
set_option maxHeartbeats 2000000 in
theorem lwc_fault (E0 : Cx p s m #[Value.ref b] meth c cL_law ret 4 "PenStrikeLaw" G) (I : INV ns M S) (L0 : LW G ns M S s H) (hX : va_X b L xs s s.heap) (hbl : b < s.heap.size) (hbA : ¬ AO G.2.2.2 b) (hS : va_S (AO G.2.2.2) s.heap H locs) (h1 : vp_in (x3 + zI ((1 : Nat) : Int)) L) (h2 : vp_in (x3 + zI ((2 : Nat) : Int)) L) (h3 : vp_in (x3 + zI ((3 : Nat) : Int)) L) (h4 : vp_in (x3 + zI ((4 : Nat) : Int)) L) (hf : cells + 21 ≤ room_1.cells ∧ slots + 228 ≤ room_1.slots) (hl : lv_has ls 4 [(0, .ref b), (1, .ref (adC G 0 0)), (2, .ref (adM G 0 0)), (3, .int x3)])
    (kk : ∀ (ns1 : Nat) (M1 S1 : Mem) (H1 : Heap) (locs1 : List Loc), INV ns1 M1 S1 → LW G ns1 M1 S1 s H1 → va_S (AO G.2.2.2) s.heap H1 locs1 → W p l e room_1 s m #[Value.ref b] below meth c H1 locs1 (cells + 21) (slots + 228) Q (F0 m 972 ls [])) : W p l e room_1 s m #[Value.ref b] below meth c H locs cells slots Q (F0 m 936 ls []) := by
  obtain ⟨hx, hb, hr, hlocks, hml, hown, hts, hK⟩ := id E0
  have hf0 : cells ≤ room_1.cells ∧ slots ≤ room_1.slots := ⟨Nat.le_trans (Nat.le_add_right cells 21) hf.1, Nat.le_trans (Nat.le_add_right slots 228) hf.2⟩
  obtain ⟨r, N, T, e1, e2, I1⟩ : C0 ns (f_X7_fault (xs (x3 + zI (1 : Nat)).toNatClampNeg) M) (f_X8_fault (xs (x3 + zI (1 : Nat)).toNatClampNeg) S) := ch_fault I (xs (x3 + zI (1 : Nat)).toNatClampNeg)
  refine lv_aload_n hx hb dL_law_936 rfl (lv_at hl 1 rfl) ?_
  refine lv_aload_n hx hb dL_law_937 rfl (lv_at hl 0 rfl) ?_
  refine lv_iload_n hx hb dL_law_938 rfl (lv_at hl 3 rfl) ?_
  refine lv_iconst (v := zI (1 : Nat)) hx hb dL_law_939 rfl ?_
  refine lv_iadd hx hb dL_law_940 ?_
  refine va_sld hx hb hX hbl hbA hS h1 dL_law_941 ?_
  refine lc_c (r := r) (As := [.int (xs (x3 + zI (1 : Nat)).toNatClampNeg)]) (na := 1) (rest := []) (ns' := ns) E0 L0 (c_X7_fault l (G := G) e1) w_727 w_728 w_729 w_1 w_730 (by decide +kernel) ⟨Nat.le_of_ble_eq_true rfl, Nat.le_of_ble_eq_true rfl⟩ rfl hl rfl (Nat.le_of_ble_eq_true rfl) dL_law_942 hf0 hS (fun H locs L0 hS => ?_)
  refine lv_aload_n hx hb dL_law_945 rfl (lv_at hl 2 rfl) ?_
  refine lv_aload_n hx hb dL_law_946 rfl (lv_at hl 0 rfl) ?_
  refine lv_iload_n hx hb dL_law_947 rfl (lv_at hl 3 rfl) ?_
  refine lv_iconst (v := zI (1 : Nat)) hx hb dL_law_948 rfl ?_
  refine lv_iadd hx hb dL_law_949 ?_
  refine va_sld hx hb hX hbl hbA hS h1 dL_law_950 ?_
  refine lc_m (r := r) (As := [.int (xs (x3 + zI (1 : Nat)).toNatClampNeg)]) (na := 1) (rest := [.int r]) E0 L0 (c_X8_fault l (G := G) e2) w_1116 w_1117 w_1118 w_9 w_1119 (by decide +kernel) ⟨Nat.le_of_ble_eq_true rfl, Nat.le_of_ble_eq_true rfl⟩ rfl hl rfl (Nat.le_of_ble_eq_true rfl) dL_law_951 hf0 hS (fun H locs L0 hS => ?_)
  refine lv_icmp_eq (tgt := 972) hx hb dL_law_954 (by decide) (fun _ => ?_) (fun z => absurd rfl z)
  refine W.widen (k := cells + 21) (n := slots + 228) (Nat.le_add_right cells 21) (Nat.le_add_right slots 228) ?_
  exact kk _ _ _ H locs I1 L0 hS
set_option maxHeartbeats 2000000 in
theorem lwc_play (E0 : Cx p s m #[Value.ref b] meth c cL_law ret 4 "PenStrikeLaw" G) (I : INV ns M S) (L0 : LW G ns M S s H) (hX : va_X b L xs s s.heap) (hbl : b < s.heap.size) (hbA : ¬ AO G.2.2.2 b) (hS : va_S (AO G.2.2.2) s.heap H locs) (h1 : vp_in (x3 + zI ((1 : Nat) : Int)) L) (h2 : vp_in (x3 + zI ((2 : Nat) : Int)) L) (h3 : vp_in (x3 + zI ((3 : Nat) : Int)) L) (h4 : vp_in (x3 + zI ((4 : Nat) : Int)) L) (hf : cells + 21 ≤ room_1.cells ∧ slots + 228 ≤ room_1.slots) (hl : lv_has ls 4 [(0, .ref b), (1, .ref (adC G 0 0)), (2, .ref (adM G 0 0)), (3, .int x3)])
    (kk : ∀ (ns1 : Nat) (M1 S1 : Mem) (H1 : Heap) (locs1 : List Loc), INV ns1 M1 S1 → LW G ns1 M1 S1 s H1 → va_S (AO G.2.2.2) s.heap H1 locs1 → W p l e room_1 s m #[Value.ref b] below meth c H1 locs1 (cells + 21) (slots + 228) Q (F0 m 972 ls [])) : W p l e room_1 s m #[Value.ref b] below meth c H locs cells slots Q (F0 m 959 ls []) := by
  obtain ⟨hx, hb, hr, hlocks, hml, hown, hts, hK⟩ := id E0
  have hf0 : cells ≤ room_1.cells ∧ slots ≤ room_1.slots := ⟨Nat.le_trans (Nat.le_add_right cells 21) hf.1, Nat.le_trans (Nat.le_add_right slots 228) hf.2⟩
  obtain ⟨r, ns1, N, T, e1, e2, I1⟩ : CH (f_X7_play ns M) (f_X8_play S) := ch_play I
  refine lv_aload_n hx hb dL_law_959 rfl (lv_at hl 1 rfl) ?_
  refine lc_c (r := r) (As := []) (na := 0) (rest := []) (ns' := ns1) E0 L0 (c_X7_play l (G := G) e1) w_787 w_788 w_789 w_1 w_790 (by decide +kernel) ⟨Nat.le_of_ble_eq_true rfl, Nat.le_of_ble_eq_true rfl⟩ rfl hl rfl (Nat.le_of_ble_eq_true rfl) dL_law_960 hf hS (fun H locs L0 hS => ?_)
  refine lv_aload_n hx hb dL_law_963 rfl (lv_at hl 2 rfl) ?_
  refine lc_m (r := r) (As := []) (na := 0) (rest := [.int r]) E0 L0 (c_X8_play l (G := G) e2) w_1140 w_1141 w_1142 w_9 w_1143 (by decide +kernel) ⟨Nat.le_of_ble_eq_true rfl, Nat.le_of_ble_eq_true rfl⟩ rfl hl rfl (Nat.le_of_ble_eq_true rfl) dL_law_964 hf hS (fun H locs L0 hS => ?_)
  refine lv_icmp_eq (tgt := 972) hx hb dL_law_967 (by decide) (fun _ => ?_) (fun z => absurd rfl z)
  exact kk _ _ _ H locs I1 L0 hS
end LAWC
