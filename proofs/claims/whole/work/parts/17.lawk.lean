section LWK
variable {p : Program} {l : Launch} {e : Env} {R : Room} {s : State} {m : MethodId} {below : List Frame} {meth : Method} {c : Code} {b L i : Nat} {xs : Nat → Int32} {ρ : Nat → Nat} {cA : Nat → ClassId} {D : va_G} {cells slots : Nat} {Q : State → Prop} {Inv : am_W → Prop}
set_option maxHeartbeats 4000000 in
set_option maxRecDepth 100000 in
theorem law_0 (X : lw_cx p s m c b L xs ρ cA D) (hR : 62 ≤ R.frames ∧ 64 * 62 ≤ R.locals ∧ cells ≤ R.cells ∧ slots ≤ R.slots) (hI : am_ag Inv jX10_reckon jX11_reckon 4) (hi : i + 6 ≤ L) (hL : L ≤ 3072) {g : am_W} {H : Heap} {locs : List Loc} {ls : Array Slot} (hg0 : g.length = 107) (hInv : Inv g) (hP0 : va_P D am_cl (am_lay ρ cA g) H) (hS0 : va_S (fun q => s.heap.size ≤ q) s.heap H locs) (hl : lv_has ls 4 [(0, .ref b), (1, .ref (ρ 0)), (2, .ref (ρ 88)), (3, .int (nI i))])
    (kk : ∀ (g2 : am_W) (H2 : Heap) (locs2 : List Loc), g2.length = 107 → Inv g2 → va_P D am_cl (am_lay ρ cA g2) H2 → va_S (fun q => s.heap.size ≤ q) s.heap H2 locs2 → W p l e R s m #[Value.ref b] below meth c H2 locs2 cells slots Q (F0 m 1513 ls [])) : W p l e R s m #[Value.ref b] below meth c H locs cells slots Q (F0 m 188 ls []) := by
  obtain ⟨v, g1, g2, c1, c2, hI2⟩ := hI g [xs (nI i + 1).toNatClampNeg, xs (nI i + 2).toNatClampNeg, xs (nI i + 3).toNatClampNeg, xs (nI i + 4).toNatClampNeg] rfl hg0 hInv
  have hg1 : g1.length = 107 := (am_cal_kp am_mt 60 _ _ _ _ c1).trans hg0
  have hg2 : g2.length = 107 := (am_cal_kp am_mt 60 _ _ _ _ c2).trans hg1
  have hx := X.1
  have hb := X.2.1
  have hX := X.2.2.2.2.2.2.2.1
  have hbl := X.2.2.2.2.2.2.2.2.1
  have hbA : ¬ (fun q : Nat => s.heap.size ≤ q) b := Nat.not_le.mpr hbl
  refine lv_aload_n hx hb dL_188 rfl (lv_at hl 1 rfl) ?_
  refine lv_aload_n hx hb dL_189 rfl (lv_at hl 0 rfl) ?_
  refine lv_iload_n hx hb dL_190 rfl (lv_at hl 3 rfl) ?_
  refine lv_iconst (v := 1) hx hb dL_191 (by decide) ?_
  refine lv_iadd hx hb dL_192 ?_
  refine va_sld hx hb hX hbl hbA hS0 (lw_in (k := 1) rfl hi hL (by decide)) dL_193 ?_
  refine lv_aload_n hx hb dL_194 rfl (lv_at hl 0 rfl) ?_
  refine lv_iload_n hx hb dL_195 rfl (lv_at hl 3 rfl) ?_
  refine lv_iconst (v := 2) hx hb dL_196 (by decide) ?_
  refine lv_iadd hx hb dL_197 ?_
  refine va_sld hx hb hX hbl hbA hS0 (lw_in (k := 2) rfl hi hL (by decide)) dL_198 ?_
  refine lv_aload_n hx hb dL_199 rfl (lv_at hl 0 rfl) ?_
  refine lv_iload_n hx hb dL_200 rfl (lv_at hl 3 rfl) ?_
  refine lv_iconst (v := 3) hx hb dL_201 (by decide) ?_
  refine lv_iadd hx hb dL_202 ?_
  refine va_sld hx hb hX hbl hbA hS0 (lw_in (k := 3) rfl hi hL (by decide)) dL_203 ?_
  refine lv_aload_n hx hb dL_204 rfl (lv_at hl 0 rfl) ?_
  refine lv_iload_n hx hb dL_205 rfl (lv_at hl 3 rfl) ?_
  refine lv_iconst (v := 4) hx hb dL_206 (by decide) ?_
  refine lv_iadd hx hb dL_207 ?_
  refine va_sld hx hb hX hbl hbA hS0 (lw_in (k := 4) rfl hi hL (by decide)) dL_208 ?_
  refine am_callL X hR hP0 hg0 hS0 hl.1 (j := jX10_reckon) (N := mX10_reckon) (q := 0) (rest := []) (hh := 366) rfl c1 (by decide +kernel) (by decide) (show am_npar mX10_reckon.1 = some 4 by decide +kernel) (Nat.zero_le _) rfl dL_209 (fun H1 locs1 hP1 hS1 => ?_)
  refine lv_aload_n hx hb dL_212 rfl (lv_at hl 2 rfl) ?_
  refine lv_aload_n hx hb dL_213 rfl (lv_at hl 0 rfl) ?_
  refine lv_iload_n hx hb dL_214 rfl (lv_at hl 3 rfl) ?_
  refine lv_iconst (v := 1) hx hb dL_215 (by decide) ?_
  refine lv_iadd hx hb dL_216 ?_
  refine va_sld hx hb hX hbl hbA hS1 (lw_in (k := 1) rfl hi hL (by decide)) dL_217 ?_
  refine lv_aload_n hx hb dL_218 rfl (lv_at hl 0 rfl) ?_
  refine lv_iload_n hx hb dL_219 rfl (lv_at hl 3 rfl) ?_
  refine lv_iconst (v := 2) hx hb dL_220 (by decide) ?_
  refine lv_iadd hx hb dL_221 ?_
  refine va_sld hx hb hX hbl hbA hS1 (lw_in (k := 2) rfl hi hL (by decide)) dL_222 ?_
  refine lv_aload_n hx hb dL_223 rfl (lv_at hl 0 rfl) ?_
  refine lv_iload_n hx hb dL_224 rfl (lv_at hl 3 rfl) ?_
  refine lv_iconst (v := 3) hx hb dL_225 (by decide) ?_
  refine lv_iadd hx hb dL_226 ?_
  refine va_sld hx hb hX hbl hbA hS1 (lw_in (k := 3) rfl hi hL (by decide)) dL_227 ?_
  refine lv_aload_n hx hb dL_228 rfl (lv_at hl 0 rfl) ?_
  refine lv_iload_n hx hb dL_229 rfl (lv_at hl 3 rfl) ?_
  refine lv_iconst (v := 4) hx hb dL_230 (by decide) ?_
  refine lv_iadd hx hb dL_231 ?_
  refine va_sld hx hb hX hbl hbA hS1 (lw_in (k := 4) rfl hi hL (by decide)) dL_232 ?_
  refine am_callL X hR hP1 hg1 hS1 hl.1 (j := jX11_reckon) (N := mX11_reckon) (q := 88) (rest := [.int v]) (hh := 966) rfl c2 (by decide +kernel) (by decide) (show am_npar mX11_reckon.1 = some 4 by decide +kernel) (show 1 ≤ 8 by decide) rfl dL_233 (fun H2 locs2 hP2 hS2 => ?_)
  exact lv_icmp_eq (tgt := 1513) hx hb dL_236 (by decide) (fun _ => kk g2 H2 locs2 hg2 hI2 hP2 hS2) (fun cz => absurd rfl cz)
set_option maxHeartbeats 4000000 in
set_option maxRecDepth 100000 in
theorem law_1 (X : lw_cx p s m c b L xs ρ cA D) (hR : 62 ≤ R.frames ∧ 64 * 62 ≤ R.locals ∧ cells ≤ R.cells ∧ slots ≤ R.slots) (hI : am_ag Inv jX10_uniform jX11_uniform 3) (hi : i + 6 ≤ L) (hL : L ≤ 3072) {g : am_W} {H : Heap} {locs : List Loc} {ls : Array Slot} (hg0 : g.length = 107) (hInv : Inv g) (hP0 : va_P D am_cl (am_lay ρ cA g) H) (hS0 : va_S (fun q => s.heap.size ≤ q) s.heap H locs) (hl : lv_has ls 4 [(0, .ref b), (1, .ref (ρ 0)), (2, .ref (ρ 88)), (3, .int (nI i))])
    (kk : ∀ (g2 : am_W) (H2 : Heap) (locs2 : List Loc), g2.length = 107 → Inv g2 → va_P D am_cl (am_lay ρ cA g2) H2 → va_S (fun q => s.heap.size ≤ q) s.heap H2 locs2 → W p l e R s m #[Value.ref b] below meth c H2 locs2 cells slots Q (F0 m 1513 ls [])) : W p l e R s m #[Value.ref b] below meth c H locs cells slots Q (F0 m 241 ls []) := by
  obtain ⟨v, g1, g2, c1, c2, hI2⟩ := hI g [xs (nI i + 1).toNatClampNeg, xs (nI i + 2).toNatClampNeg, xs (nI i + 3).toNatClampNeg] rfl hg0 hInv
  have hg1 : g1.length = 107 := (am_cal_kp am_mt 60 _ _ _ _ c1).trans hg0
  have hg2 : g2.length = 107 := (am_cal_kp am_mt 60 _ _ _ _ c2).trans hg1
  have hx := X.1
  have hb := X.2.1
  have hX := X.2.2.2.2.2.2.2.1
  have hbl := X.2.2.2.2.2.2.2.2.1
  have hbA : ¬ (fun q : Nat => s.heap.size ≤ q) b := Nat.not_le.mpr hbl
  refine lv_aload_n hx hb dL_241 rfl (lv_at hl 1 rfl) ?_
  refine lv_aload_n hx hb dL_242 rfl (lv_at hl 0 rfl) ?_
  refine lv_iload_n hx hb dL_243 rfl (lv_at hl 3 rfl) ?_
  refine lv_iconst (v := 1) hx hb dL_244 (by decide) ?_
  refine lv_iadd hx hb dL_245 ?_
  refine va_sld hx hb hX hbl hbA hS0 (lw_in (k := 1) rfl hi hL (by decide)) dL_246 ?_
  refine lv_aload_n hx hb dL_247 rfl (lv_at hl 0 rfl) ?_
  refine lv_iload_n hx hb dL_248 rfl (lv_at hl 3 rfl) ?_
  refine lv_iconst (v := 2) hx hb dL_249 (by decide) ?_
  refine lv_iadd hx hb dL_250 ?_
  refine va_sld hx hb hX hbl hbA hS0 (lw_in (k := 2) rfl hi hL (by decide)) dL_251 ?_
  refine lv_aload_n hx hb dL_252 rfl (lv_at hl 0 rfl) ?_
  refine lv_iload_n hx hb dL_253 rfl (lv_at hl 3 rfl) ?_
  refine lv_iconst (v := 3) hx hb dL_254 (by decide) ?_
  refine lv_iadd hx hb dL_255 ?_
  refine va_sld hx hb hX hbl hbA hS0 (lw_in (k := 3) rfl hi hL (by decide)) dL_256 ?_
  refine am_callL X hR hP0 hg0 hS0 hl.1 (j := jX10_uniform) (N := mX10_uniform) (q := 0) (rest := []) (hh := 391) rfl c1 (by decide +kernel) (by decide) (show am_npar mX10_uniform.1 = some 3 by decide +kernel) (Nat.zero_le _) rfl dL_257 (fun H1 locs1 hP1 hS1 => ?_)
  refine lv_aload_n hx hb dL_260 rfl (lv_at hl 2 rfl) ?_
  refine lv_aload_n hx hb dL_261 rfl (lv_at hl 0 rfl) ?_
  refine lv_iload_n hx hb dL_262 rfl (lv_at hl 3 rfl) ?_
  refine lv_iconst (v := 1) hx hb dL_263 (by decide) ?_
  refine lv_iadd hx hb dL_264 ?_
  refine va_sld hx hb hX hbl hbA hS1 (lw_in (k := 1) rfl hi hL (by decide)) dL_265 ?_
  refine lv_aload_n hx hb dL_266 rfl (lv_at hl 0 rfl) ?_
  refine lv_iload_n hx hb dL_267 rfl (lv_at hl 3 rfl) ?_
  refine lv_iconst (v := 2) hx hb dL_268 (by decide) ?_
  refine lv_iadd hx hb dL_269 ?_
  refine va_sld hx hb hX hbl hbA hS1 (lw_in (k := 2) rfl hi hL (by decide)) dL_270 ?_
  refine lv_aload_n hx hb dL_271 rfl (lv_at hl 0 rfl) ?_
  refine lv_iload_n hx hb dL_272 rfl (lv_at hl 3 rfl) ?_
  refine lv_iconst (v := 3) hx hb dL_273 (by decide) ?_
  refine lv_iadd hx hb dL_274 ?_
  refine va_sld hx hb hX hbl hbA hS1 (lw_in (k := 3) rfl hi hL (by decide)) dL_275 ?_
  refine am_callL X hR hP1 hg1 hS1 hl.1 (j := jX11_uniform) (N := mX11_uniform) (q := 88) (rest := [.int v]) (hh := 992) rfl c2 (by decide +kernel) (by decide) (show am_npar mX11_uniform.1 = some 3 by decide +kernel) (show 1 ≤ 8 by decide) rfl dL_276 (fun H2 locs2 hP2 hS2 => ?_)
  exact lv_icmp_eq (tgt := 1513) hx hb dL_279 (by decide) (fun _ => kk g2 H2 locs2 hg2 hI2 hP2 hS2) (fun cz => absurd rfl cz)
set_option maxHeartbeats 4000000 in
set_option maxRecDepth 100000 in
theorem law_2 (X : lw_cx p s m c b L xs ρ cA D) (hR : 62 ≤ R.frames ∧ 64 * 62 ≤ R.locals ∧ cells ≤ R.cells ∧ slots ≤ R.slots) (hI : am_ag Inv jX10_columns jX11_columns 4) (hi : i + 6 ≤ L) (hL : L ≤ 3072) {g : am_W} {H : Heap} {locs : List Loc} {ls : Array Slot} (hg0 : g.length = 107) (hInv : Inv g) (hP0 : va_P D am_cl (am_lay ρ cA g) H) (hS0 : va_S (fun q => s.heap.size ≤ q) s.heap H locs) (hl : lv_has ls 4 [(0, .ref b), (1, .ref (ρ 0)), (2, .ref (ρ 88)), (3, .int (nI i))])
    (kk : ∀ (g2 : am_W) (H2 : Heap) (locs2 : List Loc), g2.length = 107 → Inv g2 → va_P D am_cl (am_lay ρ cA g2) H2 → va_S (fun q => s.heap.size ≤ q) s.heap H2 locs2 → W p l e R s m #[Value.ref b] below meth c H2 locs2 cells slots Q (F0 m 1513 ls [])) : W p l e R s m #[Value.ref b] below meth c H locs cells slots Q (F0 m 284 ls []) := by
  obtain ⟨v, g1, g2, c1, c2, hI2⟩ := hI g [xs (nI i + 1).toNatClampNeg, xs (nI i + 2).toNatClampNeg, xs (nI i + 3).toNatClampNeg, xs (nI i + 4).toNatClampNeg] rfl hg0 hInv
  have hg1 : g1.length = 107 := (am_cal_kp am_mt 60 _ _ _ _ c1).trans hg0
  have hg2 : g2.length = 107 := (am_cal_kp am_mt 60 _ _ _ _ c2).trans hg1
  have hx := X.1
  have hb := X.2.1
  have hX := X.2.2.2.2.2.2.2.1
  have hbl := X.2.2.2.2.2.2.2.2.1
  have hbA : ¬ (fun q : Nat => s.heap.size ≤ q) b := Nat.not_le.mpr hbl
  refine lv_aload_n hx hb dL_284 rfl (lv_at hl 1 rfl) ?_
  refine lv_aload_n hx hb dL_285 rfl (lv_at hl 0 rfl) ?_
  refine lv_iload_n hx hb dL_286 rfl (lv_at hl 3 rfl) ?_
  refine lv_iconst (v := 1) hx hb dL_287 (by decide) ?_
  refine lv_iadd hx hb dL_288 ?_
  refine va_sld hx hb hX hbl hbA hS0 (lw_in (k := 1) rfl hi hL (by decide)) dL_289 ?_
  refine lv_aload_n hx hb dL_290 rfl (lv_at hl 0 rfl) ?_
  refine lv_iload_n hx hb dL_291 rfl (lv_at hl 3 rfl) ?_
  refine lv_iconst (v := 2) hx hb dL_292 (by decide) ?_
  refine lv_iadd hx hb dL_293 ?_
  refine va_sld hx hb hX hbl hbA hS0 (lw_in (k := 2) rfl hi hL (by decide)) dL_294 ?_
  refine lv_aload_n hx hb dL_295 rfl (lv_at hl 0 rfl) ?_
  refine lv_iload_n hx hb dL_296 rfl (lv_at hl 3 rfl) ?_
  refine lv_iconst (v := 3) hx hb dL_297 (by decide) ?_
  refine lv_iadd hx hb dL_298 ?_
  refine va_sld hx hb hX hbl hbA hS0 (lw_in (k := 3) rfl hi hL (by decide)) dL_299 ?_
  refine lv_aload_n hx hb dL_300 rfl (lv_at hl 0 rfl) ?_
  refine lv_iload_n hx hb dL_301 rfl (lv_at hl 3 rfl) ?_
  refine lv_iconst (v := 4) hx hb dL_302 (by decide) ?_
  refine lv_iadd hx hb dL_303 ?_
  refine va_sld hx hb hX hbl hbA hS0 (lw_in (k := 4) rfl hi hL (by decide)) dL_304 ?_
  refine am_callL X hR hP0 hg0 hS0 hl.1 (j := jX10_columns) (N := mX10_columns) (q := 0) (rest := []) (hh := 415) rfl c1 (by decide +kernel) (by decide) (show am_npar mX10_columns.1 = some 4 by decide +kernel) (Nat.zero_le _) rfl dL_305 (fun H1 locs1 hP1 hS1 => ?_)
  refine lv_aload_n hx hb dL_308 rfl (lv_at hl 2 rfl) ?_
  refine lv_aload_n hx hb dL_309 rfl (lv_at hl 0 rfl) ?_
  refine lv_iload_n hx hb dL_310 rfl (lv_at hl 3 rfl) ?_
  refine lv_iconst (v := 1) hx hb dL_311 (by decide) ?_
  refine lv_iadd hx hb dL_312 ?_
  refine va_sld hx hb hX hbl hbA hS1 (lw_in (k := 1) rfl hi hL (by decide)) dL_313 ?_
  refine lv_aload_n hx hb dL_314 rfl (lv_at hl 0 rfl) ?_
  refine lv_iload_n hx hb dL_315 rfl (lv_at hl 3 rfl) ?_
  refine lv_iconst (v := 2) hx hb dL_316 (by decide) ?_
  refine lv_iadd hx hb dL_317 ?_
  refine va_sld hx hb hX hbl hbA hS1 (lw_in (k := 2) rfl hi hL (by decide)) dL_318 ?_
  refine lv_aload_n hx hb dL_319 rfl (lv_at hl 0 rfl) ?_
  refine lv_iload_n hx hb dL_320 rfl (lv_at hl 3 rfl) ?_
  refine lv_iconst (v := 3) hx hb dL_321 (by decide) ?_
  refine lv_iadd hx hb dL_322 ?_
  refine va_sld hx hb hX hbl hbA hS1 (lw_in (k := 3) rfl hi hL (by decide)) dL_323 ?_
  refine lv_aload_n hx hb dL_324 rfl (lv_at hl 0 rfl) ?_
  refine lv_iload_n hx hb dL_325 rfl (lv_at hl 3 rfl) ?_
  refine lv_iconst (v := 4) hx hb dL_326 (by decide) ?_
  refine lv_iadd hx hb dL_327 ?_
  refine va_sld hx hb hX hbl hbA hS1 (lw_in (k := 4) rfl hi hL (by decide)) dL_328 ?_
  refine am_callL X hR hP1 hg1 hS1 hl.1 (j := jX11_columns) (N := mX11_columns) (q := 88) (rest := [.int v]) (hh := 1006) rfl c2 (by decide +kernel) (by decide) (show am_npar mX11_columns.1 = some 4 by decide +kernel) (show 1 ≤ 8 by decide) rfl dL_329 (fun H2 locs2 hP2 hS2 => ?_)
  exact lv_icmp_eq (tgt := 1513) hx hb dL_332 (by decide) (fun _ => kk g2 H2 locs2 hg2 hI2 hP2 hS2) (fun cz => absurd rfl cz)
set_option maxHeartbeats 4000000 in
set_option maxRecDepth 100000 in
theorem law_3 (X : lw_cx p s m c b L xs ρ cA D) (hR : 62 ≤ R.frames ∧ 64 * 62 ≤ R.locals ∧ cells ≤ R.cells ∧ slots ≤ R.slots) (hI : am_ag Inv jX10_tell jX11_tell 3) (hi : i + 6 ≤ L) (hL : L ≤ 3072) {g : am_W} {H : Heap} {locs : List Loc} {ls : Array Slot} (hg0 : g.length = 107) (hInv : Inv g) (hP0 : va_P D am_cl (am_lay ρ cA g) H) (hS0 : va_S (fun q => s.heap.size ≤ q) s.heap H locs) (hl : lv_has ls 4 [(0, .ref b), (1, .ref (ρ 0)), (2, .ref (ρ 88)), (3, .int (nI i))])
    (kk : ∀ (g2 : am_W) (H2 : Heap) (locs2 : List Loc), g2.length = 107 → Inv g2 → va_P D am_cl (am_lay ρ cA g2) H2 → va_S (fun q => s.heap.size ≤ q) s.heap H2 locs2 → W p l e R s m #[Value.ref b] below meth c H2 locs2 cells slots Q (F0 m 1513 ls [])) : W p l e R s m #[Value.ref b] below meth c H locs cells slots Q (F0 m 337 ls []) := by
  obtain ⟨v, g1, g2, c1, c2, hI2⟩ := hI g [xs (nI i + 1).toNatClampNeg, xs (nI i + 2).toNatClampNeg, xs (nI i + 3).toNatClampNeg] rfl hg0 hInv
  have hg1 : g1.length = 107 := (am_cal_kp am_mt 60 _ _ _ _ c1).trans hg0
  have hg2 : g2.length = 107 := (am_cal_kp am_mt 60 _ _ _ _ c2).trans hg1
  have hx := X.1
  have hb := X.2.1
  have hX := X.2.2.2.2.2.2.2.1
  have hbl := X.2.2.2.2.2.2.2.2.1
  have hbA : ¬ (fun q : Nat => s.heap.size ≤ q) b := Nat.not_le.mpr hbl
  refine lv_aload_n hx hb dL_337 rfl (lv_at hl 1 rfl) ?_
  refine lv_aload_n hx hb dL_338 rfl (lv_at hl 0 rfl) ?_
  refine lv_iload_n hx hb dL_339 rfl (lv_at hl 3 rfl) ?_
  refine lv_iconst (v := 1) hx hb dL_340 (by decide) ?_
  refine lv_iadd hx hb dL_341 ?_
  refine va_sld hx hb hX hbl hbA hS0 (lw_in (k := 1) rfl hi hL (by decide)) dL_342 ?_
  refine lv_aload_n hx hb dL_343 rfl (lv_at hl 0 rfl) ?_
  refine lv_iload_n hx hb dL_344 rfl (lv_at hl 3 rfl) ?_
  refine lv_iconst (v := 2) hx hb dL_345 (by decide) ?_
  refine lv_iadd hx hb dL_346 ?_
  refine va_sld hx hb hX hbl hbA hS0 (lw_in (k := 2) rfl hi hL (by decide)) dL_347 ?_
  refine lv_aload_n hx hb dL_348 rfl (lv_at hl 0 rfl) ?_
  refine lv_iload_n hx hb dL_349 rfl (lv_at hl 3 rfl) ?_
  refine lv_iconst (v := 3) hx hb dL_350 (by decide) ?_
  refine lv_iadd hx hb dL_351 ?_
  refine va_sld hx hb hX hbl hbA hS0 (lw_in (k := 3) rfl hi hL (by decide)) dL_352 ?_
  refine am_callL X hR hP0 hg0 hS0 hl.1 (j := jX10_tell) (N := mX10_tell) (q := 0) (rest := []) (hh := 486) rfl c1 (by decide +kernel) (by decide) (show am_npar mX10_tell.1 = some 3 by decide +kernel) (Nat.zero_le _) rfl dL_353 (fun H1 locs1 hP1 hS1 => ?_)
  refine lv_aload_n hx hb dL_356 rfl (lv_at hl 2 rfl) ?_
  refine lv_aload_n hx hb dL_357 rfl (lv_at hl 0 rfl) ?_
  refine lv_iload_n hx hb dL_358 rfl (lv_at hl 3 rfl) ?_
  refine lv_iconst (v := 1) hx hb dL_359 (by decide) ?_
  refine lv_iadd hx hb dL_360 ?_
  refine va_sld hx hb hX hbl hbA hS1 (lw_in (k := 1) rfl hi hL (by decide)) dL_361 ?_
  refine lv_aload_n hx hb dL_362 rfl (lv_at hl 0 rfl) ?_
  refine lv_iload_n hx hb dL_363 rfl (lv_at hl 3 rfl) ?_
  refine lv_iconst (v := 2) hx hb dL_364 (by decide) ?_
  refine lv_iadd hx hb dL_365 ?_
  refine va_sld hx hb hX hbl hbA hS1 (lw_in (k := 2) rfl hi hL (by decide)) dL_366 ?_
  refine lv_aload_n hx hb dL_367 rfl (lv_at hl 0 rfl) ?_
  refine lv_iload_n hx hb dL_368 rfl (lv_at hl 3 rfl) ?_
  refine lv_iconst (v := 3) hx hb dL_369 (by decide) ?_
  refine lv_iadd hx hb dL_370 ?_
  refine va_sld hx hb hX hbl hbA hS1 (lw_in (k := 3) rfl hi hL (by decide)) dL_371 ?_
  refine am_callL X hR hP1 hg1 hS1 hl.1 (j := jX11_tell) (N := mX11_tell) (q := 88) (rest := [.int v]) (hh := 1032) rfl c2 (by decide +kernel) (by decide) (show am_npar mX11_tell.1 = some 3 by decide +kernel) (show 1 ≤ 8 by decide) rfl dL_372 (fun H2 locs2 hP2 hS2 => ?_)
  exact lv_icmp_eq (tgt := 1513) hx hb dL_375 (by decide) (fun _ => kk g2 H2 locs2 hg2 hI2 hP2 hS2) (fun cz => absurd rfl cz)
set_option maxHeartbeats 4000000 in
set_option maxRecDepth 100000 in
theorem law_4 (X : lw_cx p s m c b L xs ρ cA D) (hR : 62 ≤ R.frames ∧ 64 * 62 ≤ R.locals ∧ cells ≤ R.cells ∧ slots ≤ R.slots) (hI : am_ag Inv jX10_cause jX11_cause 1) (hi : i + 6 ≤ L) (hL : L ≤ 3072) {g : am_W} {H : Heap} {locs : List Loc} {ls : Array Slot} (hg0 : g.length = 107) (hInv : Inv g) (hP0 : va_P D am_cl (am_lay ρ cA g) H) (hS0 : va_S (fun q => s.heap.size ≤ q) s.heap H locs) (hl : lv_has ls 4 [(0, .ref b), (1, .ref (ρ 0)), (2, .ref (ρ 88)), (3, .int (nI i))])
    (kk : ∀ (g2 : am_W) (H2 : Heap) (locs2 : List Loc), g2.length = 107 → Inv g2 → va_P D am_cl (am_lay ρ cA g2) H2 → va_S (fun q => s.heap.size ≤ q) s.heap H2 locs2 → W p l e R s m #[Value.ref b] below meth c H2 locs2 cells slots Q (F0 m 1513 ls [])) : W p l e R s m #[Value.ref b] below meth c H locs cells slots Q (F0 m 380 ls []) := by
  obtain ⟨v, g1, g2, c1, c2, hI2⟩ := hI g [xs (nI i + 1).toNatClampNeg] rfl hg0 hInv
  have hg1 : g1.length = 107 := (am_cal_kp am_mt 60 _ _ _ _ c1).trans hg0
  have hg2 : g2.length = 107 := (am_cal_kp am_mt 60 _ _ _ _ c2).trans hg1
  have hx := X.1
  have hb := X.2.1
  have hX := X.2.2.2.2.2.2.2.1
  have hbl := X.2.2.2.2.2.2.2.2.1
  have hbA : ¬ (fun q : Nat => s.heap.size ≤ q) b := Nat.not_le.mpr hbl
  refine lv_aload_n hx hb dL_380 rfl (lv_at hl 1 rfl) ?_
  refine lv_aload_n hx hb dL_381 rfl (lv_at hl 0 rfl) ?_
  refine lv_iload_n hx hb dL_382 rfl (lv_at hl 3 rfl) ?_
  refine lv_iconst (v := 1) hx hb dL_383 (by decide) ?_
  refine lv_iadd hx hb dL_384 ?_
  refine va_sld hx hb hX hbl hbA hS0 (lw_in (k := 1) rfl hi hL (by decide)) dL_385 ?_
  refine am_callL X hR hP0 hg0 hS0 hl.1 (j := jX10_cause) (N := mX10_cause) (q := 0) (rest := []) (hh := 519) rfl c1 (by decide +kernel) (by decide) (show am_npar mX10_cause.1 = some 1 by decide +kernel) (Nat.zero_le _) rfl dL_386 (fun H1 locs1 hP1 hS1 => ?_)
  refine lv_aload_n hx hb dL_389 rfl (lv_at hl 2 rfl) ?_
  refine lv_aload_n hx hb dL_390 rfl (lv_at hl 0 rfl) ?_
  refine lv_iload_n hx hb dL_391 rfl (lv_at hl 3 rfl) ?_
  refine lv_iconst (v := 1) hx hb dL_392 (by decide) ?_
  refine lv_iadd hx hb dL_393 ?_
  refine va_sld hx hb hX hbl hbA hS1 (lw_in (k := 1) rfl hi hL (by decide)) dL_394 ?_
  refine am_callL X hR hP1 hg1 hS1 hl.1 (j := jX11_cause) (N := mX11_cause) (q := 88) (rest := [.int v]) (hh := 1048) rfl c2 (by decide +kernel) (by decide) (show am_npar mX11_cause.1 = some 1 by decide +kernel) (show 1 ≤ 8 by decide) rfl dL_395 (fun H2 locs2 hP2 hS2 => ?_)
  exact lv_icmp_eq (tgt := 1513) hx hb dL_398 (by decide) (fun _ => kk g2 H2 locs2 hg2 hI2 hP2 hS2) (fun cz => absurd rfl cz)
set_option maxHeartbeats 4000000 in
set_option maxRecDepth 100000 in
theorem law_5 (X : lw_cx p s m c b L xs ρ cA D) (hR : 62 ≤ R.frames ∧ 64 * 62 ≤ R.locals ∧ cells ≤ R.cells ∧ slots ≤ R.slots) (hI : am_ag Inv jX10_rank jX11_rank 2) (hi : i + 6 ≤ L) (hL : L ≤ 3072) {g : am_W} {H : Heap} {locs : List Loc} {ls : Array Slot} (hg0 : g.length = 107) (hInv : Inv g) (hP0 : va_P D am_cl (am_lay ρ cA g) H) (hS0 : va_S (fun q => s.heap.size ≤ q) s.heap H locs) (hl : lv_has ls 4 [(0, .ref b), (1, .ref (ρ 0)), (2, .ref (ρ 88)), (3, .int (nI i))])
    (kk : ∀ (g2 : am_W) (H2 : Heap) (locs2 : List Loc), g2.length = 107 → Inv g2 → va_P D am_cl (am_lay ρ cA g2) H2 → va_S (fun q => s.heap.size ≤ q) s.heap H2 locs2 → W p l e R s m #[Value.ref b] below meth c H2 locs2 cells slots Q (F0 m 1513 ls [])) : W p l e R s m #[Value.ref b] below meth c H locs cells slots Q (F0 m 403 ls []) := by
  obtain ⟨v, g1, g2, c1, c2, hI2⟩ := hI g [xs (nI i + 1).toNatClampNeg, xs (nI i + 2).toNatClampNeg] rfl hg0 hInv
  have hg1 : g1.length = 107 := (am_cal_kp am_mt 60 _ _ _ _ c1).trans hg0
  have hg2 : g2.length = 107 := (am_cal_kp am_mt 60 _ _ _ _ c2).trans hg1
  have hx := X.1
  have hb := X.2.1
  have hX := X.2.2.2.2.2.2.2.1
  have hbl := X.2.2.2.2.2.2.2.2.1
  have hbA : ¬ (fun q : Nat => s.heap.size ≤ q) b := Nat.not_le.mpr hbl
  refine lv_aload_n hx hb dL_403 rfl (lv_at hl 1 rfl) ?_
  refine lv_aload_n hx hb dL_404 rfl (lv_at hl 0 rfl) ?_
  refine lv_iload_n hx hb dL_405 rfl (lv_at hl 3 rfl) ?_
  refine lv_iconst (v := 1) hx hb dL_406 (by decide) ?_
  refine lv_iadd hx hb dL_407 ?_
  refine va_sld hx hb hX hbl hbA hS0 (lw_in (k := 1) rfl hi hL (by decide)) dL_408 ?_
  refine lv_aload_n hx hb dL_409 rfl (lv_at hl 0 rfl) ?_
  refine lv_iload_n hx hb dL_410 rfl (lv_at hl 3 rfl) ?_
  refine lv_iconst (v := 2) hx hb dL_411 (by decide) ?_
  refine lv_iadd hx hb dL_412 ?_
  refine va_sld hx hb hX hbl hbA hS0 (lw_in (k := 2) rfl hi hL (by decide)) dL_413 ?_
  refine am_callL X hR hP0 hg0 hS0 hl.1 (j := jX10_rank) (N := mX10_rank) (q := 0) (rest := []) (hh := 523) rfl c1 (by decide +kernel) (by decide) (show am_npar mX10_rank.1 = some 2 by decide +kernel) (Nat.zero_le _) rfl dL_414 (fun H1 locs1 hP1 hS1 => ?_)
  refine lv_aload_n hx hb dL_417 rfl (lv_at hl 2 rfl) ?_
  refine lv_aload_n hx hb dL_418 rfl (lv_at hl 0 rfl) ?_
  refine lv_iload_n hx hb dL_419 rfl (lv_at hl 3 rfl) ?_
  refine lv_iconst (v := 1) hx hb dL_420 (by decide) ?_
  refine lv_iadd hx hb dL_421 ?_
  refine va_sld hx hb hX hbl hbA hS1 (lw_in (k := 1) rfl hi hL (by decide)) dL_422 ?_
  refine lv_aload_n hx hb dL_423 rfl (lv_at hl 0 rfl) ?_
  refine lv_iload_n hx hb dL_424 rfl (lv_at hl 3 rfl) ?_
  refine lv_iconst (v := 2) hx hb dL_425 (by decide) ?_
  refine lv_iadd hx hb dL_426 ?_
  refine va_sld hx hb hX hbl hbA hS1 (lw_in (k := 2) rfl hi hL (by decide)) dL_427 ?_
  refine am_callL X hR hP1 hg1 hS1 hl.1 (j := jX11_rank) (N := mX11_rank) (q := 88) (rest := [.int v]) (hh := 1052) rfl c2 (by decide +kernel) (by decide) (show am_npar mX11_rank.1 = some 2 by decide +kernel) (show 1 ≤ 8 by decide) rfl dL_428 (fun H2 locs2 hP2 hS2 => ?_)
  exact lv_icmp_eq (tgt := 1513) hx hb dL_431 (by decide) (fun _ => kk g2 H2 locs2 hg2 hI2 hP2 hS2) (fun cz => absurd rfl cz)
set_option maxHeartbeats 4000000 in
set_option maxRecDepth 100000 in
theorem law_6 (X : lw_cx p s m c b L xs ρ cA D) (hR : 62 ≤ R.frames ∧ 64 * 62 ≤ R.locals ∧ cells ≤ R.cells ∧ slots ≤ R.slots) (hI : am_ag Inv jX10_span jX11_span 2) (hi : i + 6 ≤ L) (hL : L ≤ 3072) {g : am_W} {H : Heap} {locs : List Loc} {ls : Array Slot} (hg0 : g.length = 107) (hInv : Inv g) (hP0 : va_P D am_cl (am_lay ρ cA g) H) (hS0 : va_S (fun q => s.heap.size ≤ q) s.heap H locs) (hl : lv_has ls 4 [(0, .ref b), (1, .ref (ρ 0)), (2, .ref (ρ 88)), (3, .int (nI i))])
    (kk : ∀ (g2 : am_W) (H2 : Heap) (locs2 : List Loc), g2.length = 107 → Inv g2 → va_P D am_cl (am_lay ρ cA g2) H2 → va_S (fun q => s.heap.size ≤ q) s.heap H2 locs2 → W p l e R s m #[Value.ref b] below meth c H2 locs2 cells slots Q (F0 m 1513 ls [])) : W p l e R s m #[Value.ref b] below meth c H locs cells slots Q (F0 m 436 ls []) := by
  obtain ⟨v, g1, g2, c1, c2, hI2⟩ := hI g [xs (nI i + 1).toNatClampNeg, xs (nI i + 2).toNatClampNeg] rfl hg0 hInv
  have hg1 : g1.length = 107 := (am_cal_kp am_mt 60 _ _ _ _ c1).trans hg0
  have hg2 : g2.length = 107 := (am_cal_kp am_mt 60 _ _ _ _ c2).trans hg1
  have hx := X.1
  have hb := X.2.1
  have hX := X.2.2.2.2.2.2.2.1
  have hbl := X.2.2.2.2.2.2.2.2.1
  have hbA : ¬ (fun q : Nat => s.heap.size ≤ q) b := Nat.not_le.mpr hbl
  refine lv_aload_n hx hb dL_436 rfl (lv_at hl 1 rfl) ?_
  refine lv_aload_n hx hb dL_437 rfl (lv_at hl 0 rfl) ?_
  refine lv_iload_n hx hb dL_438 rfl (lv_at hl 3 rfl) ?_
  refine lv_iconst (v := 1) hx hb dL_439 (by decide) ?_
  refine lv_iadd hx hb dL_440 ?_
  refine va_sld hx hb hX hbl hbA hS0 (lw_in (k := 1) rfl hi hL (by decide)) dL_441 ?_
  refine lv_aload_n hx hb dL_442 rfl (lv_at hl 0 rfl) ?_
  refine lv_iload_n hx hb dL_443 rfl (lv_at hl 3 rfl) ?_
  refine lv_iconst (v := 2) hx hb dL_444 (by decide) ?_
  refine lv_iadd hx hb dL_445 ?_
  refine va_sld hx hb hX hbl hbA hS0 (lw_in (k := 2) rfl hi hL (by decide)) dL_446 ?_
  refine am_callL X hR hP0 hg0 hS0 hl.1 (j := jX10_span) (N := mX10_span) (q := 0) (rest := []) (hh := 533) rfl c1 (by decide +kernel) (by decide) (show am_npar mX10_span.1 = some 2 by decide +kernel) (Nat.zero_le _) rfl dL_447 (fun H1 locs1 hP1 hS1 => ?_)
  refine lv_aload_n hx hb dL_450 rfl (lv_at hl 2 rfl) ?_
  refine lv_aload_n hx hb dL_451 rfl (lv_at hl 0 rfl) ?_
  refine lv_iload_n hx hb dL_452 rfl (lv_at hl 3 rfl) ?_
  refine lv_iconst (v := 1) hx hb dL_453 (by decide) ?_
  refine lv_iadd hx hb dL_454 ?_
  refine va_sld hx hb hX hbl hbA hS1 (lw_in (k := 1) rfl hi hL (by decide)) dL_455 ?_
  refine lv_aload_n hx hb dL_456 rfl (lv_at hl 0 rfl) ?_
  refine lv_iload_n hx hb dL_457 rfl (lv_at hl 3 rfl) ?_
  refine lv_iconst (v := 2) hx hb dL_458 (by decide) ?_
  refine lv_iadd hx hb dL_459 ?_
  refine va_sld hx hb hX hbl hbA hS1 (lw_in (k := 2) rfl hi hL (by decide)) dL_460 ?_
  refine am_callL X hR hP1 hg1 hS1 hl.1 (j := jX11_span) (N := mX11_span) (q := 88) (rest := [.int v]) (hh := 1060) rfl c2 (by decide +kernel) (by decide) (show am_npar mX11_span.1 = some 2 by decide +kernel) (show 1 ≤ 8 by decide) rfl dL_461 (fun H2 locs2 hP2 hS2 => ?_)
  exact lv_icmp_eq (tgt := 1513) hx hb dL_464 (by decide) (fun _ => kk g2 H2 locs2 hg2 hI2 hP2 hS2) (fun cz => absurd rfl cz)
set_option maxHeartbeats 4000000 in
set_option maxRecDepth 100000 in
theorem law_7 (X : lw_cx p s m c b L xs ρ cA D) (hR : 62 ≤ R.frames ∧ 64 * 62 ≤ R.locals ∧ cells ≤ R.cells ∧ slots ≤ R.slots) (hI : am_ag Inv jX10_sorts jX11_sorts 2) (hi : i + 6 ≤ L) (hL : L ≤ 3072) {g : am_W} {H : Heap} {locs : List Loc} {ls : Array Slot} (hg0 : g.length = 107) (hInv : Inv g) (hP0 : va_P D am_cl (am_lay ρ cA g) H) (hS0 : va_S (fun q => s.heap.size ≤ q) s.heap H locs) (hl : lv_has ls 4 [(0, .ref b), (1, .ref (ρ 0)), (2, .ref (ρ 88)), (3, .int (nI i))])
    (kk : ∀ (g2 : am_W) (H2 : Heap) (locs2 : List Loc), g2.length = 107 → Inv g2 → va_P D am_cl (am_lay ρ cA g2) H2 → va_S (fun q => s.heap.size ≤ q) s.heap H2 locs2 → W p l e R s m #[Value.ref b] below meth c H2 locs2 cells slots Q (F0 m 1513 ls [])) : W p l e R s m #[Value.ref b] below meth c H locs cells slots Q (F0 m 469 ls []) := by
  obtain ⟨v, g1, g2, c1, c2, hI2⟩ := hI g [xs (nI i + 1).toNatClampNeg, xs (nI i + 2).toNatClampNeg] rfl hg0 hInv
  have hg1 : g1.length = 107 := (am_cal_kp am_mt 60 _ _ _ _ c1).trans hg0
  have hg2 : g2.length = 107 := (am_cal_kp am_mt 60 _ _ _ _ c2).trans hg1
  have hx := X.1
  have hb := X.2.1
  have hX := X.2.2.2.2.2.2.2.1
  have hbl := X.2.2.2.2.2.2.2.2.1
  have hbA : ¬ (fun q : Nat => s.heap.size ≤ q) b := Nat.not_le.mpr hbl
  refine lv_aload_n hx hb dL_469 rfl (lv_at hl 1 rfl) ?_
  refine lv_aload_n hx hb dL_470 rfl (lv_at hl 0 rfl) ?_
  refine lv_iload_n hx hb dL_471 rfl (lv_at hl 3 rfl) ?_
  refine lv_iconst (v := 1) hx hb dL_472 (by decide) ?_
  refine lv_iadd hx hb dL_473 ?_
  refine va_sld hx hb hX hbl hbA hS0 (lw_in (k := 1) rfl hi hL (by decide)) dL_474 ?_
  refine lv_aload_n hx hb dL_475 rfl (lv_at hl 0 rfl) ?_
  refine lv_iload_n hx hb dL_476 rfl (lv_at hl 3 rfl) ?_
  refine lv_iconst (v := 2) hx hb dL_477 (by decide) ?_
  refine lv_iadd hx hb dL_478 ?_
  refine va_sld hx hb hX hbl hbA hS0 (lw_in (k := 2) rfl hi hL (by decide)) dL_479 ?_
  refine am_callL X hR hP0 hg0 hS0 hl.1 (j := jX10_sorts) (N := mX10_sorts) (q := 0) (rest := []) (hh := 541) rfl c1 (by decide +kernel) (by decide) (show am_npar mX10_sorts.1 = some 2 by decide +kernel) (Nat.zero_le _) rfl dL_480 (fun H1 locs1 hP1 hS1 => ?_)
  refine lv_aload_n hx hb dL_483 rfl (lv_at hl 2 rfl) ?_
  refine lv_aload_n hx hb dL_484 rfl (lv_at hl 0 rfl) ?_
  refine lv_iload_n hx hb dL_485 rfl (lv_at hl 3 rfl) ?_
  refine lv_iconst (v := 1) hx hb dL_486 (by decide) ?_
  refine lv_iadd hx hb dL_487 ?_
  refine va_sld hx hb hX hbl hbA hS1 (lw_in (k := 1) rfl hi hL (by decide)) dL_488 ?_
  refine lv_aload_n hx hb dL_489 rfl (lv_at hl 0 rfl) ?_
  refine lv_iload_n hx hb dL_490 rfl (lv_at hl 3 rfl) ?_
  refine lv_iconst (v := 2) hx hb dL_491 (by decide) ?_
  refine lv_iadd hx hb dL_492 ?_
  refine va_sld hx hb hX hbl hbA hS1 (lw_in (k := 2) rfl hi hL (by decide)) dL_493 ?_
  refine am_callL X hR hP1 hg1 hS1 hl.1 (j := jX11_sorts) (N := mX11_sorts) (q := 88) (rest := [.int v]) (hh := 1068) rfl c2 (by decide +kernel) (by decide) (show am_npar mX11_sorts.1 = some 2 by decide +kernel) (show 1 ≤ 8 by decide) rfl dL_494 (fun H2 locs2 hP2 hS2 => ?_)
  exact lv_icmp_eq (tgt := 1513) hx hb dL_497 (by decide) (fun _ => kk g2 H2 locs2 hg2 hI2 hP2 hS2) (fun cz => absurd rfl cz)
set_option maxHeartbeats 4000000 in
set_option maxRecDepth 100000 in
theorem law_8 (X : lw_cx p s m c b L xs ρ cA D) (hR : 62 ≤ R.frames ∧ 64 * 62 ≤ R.locals ∧ cells ≤ R.cells ∧ slots ≤ R.slots) (hI : am_ag Inv jX10_many jX11_many 2) (hi : i + 6 ≤ L) (hL : L ≤ 3072) {g : am_W} {H : Heap} {locs : List Loc} {ls : Array Slot} (hg0 : g.length = 107) (hInv : Inv g) (hP0 : va_P D am_cl (am_lay ρ cA g) H) (hS0 : va_S (fun q => s.heap.size ≤ q) s.heap H locs) (hl : lv_has ls 4 [(0, .ref b), (1, .ref (ρ 0)), (2, .ref (ρ 88)), (3, .int (nI i))])
    (kk : ∀ (g2 : am_W) (H2 : Heap) (locs2 : List Loc), g2.length = 107 → Inv g2 → va_P D am_cl (am_lay ρ cA g2) H2 → va_S (fun q => s.heap.size ≤ q) s.heap H2 locs2 → W p l e R s m #[Value.ref b] below meth c H2 locs2 cells slots Q (F0 m 1513 ls [])) : W p l e R s m #[Value.ref b] below meth c H locs cells slots Q (F0 m 502 ls []) := by
  obtain ⟨v, g1, g2, c1, c2, hI2⟩ := hI g [xs (nI i + 1).toNatClampNeg, xs (nI i + 2).toNatClampNeg] rfl hg0 hInv
  have hg1 : g1.length = 107 := (am_cal_kp am_mt 60 _ _ _ _ c1).trans hg0
  have hg2 : g2.length = 107 := (am_cal_kp am_mt 60 _ _ _ _ c2).trans hg1
  have hx := X.1
  have hb := X.2.1
  have hX := X.2.2.2.2.2.2.2.1
  have hbl := X.2.2.2.2.2.2.2.2.1
  have hbA : ¬ (fun q : Nat => s.heap.size ≤ q) b := Nat.not_le.mpr hbl
  refine lv_aload_n hx hb dL_502 rfl (lv_at hl 1 rfl) ?_
  refine lv_aload_n hx hb dL_503 rfl (lv_at hl 0 rfl) ?_
  refine lv_iload_n hx hb dL_504 rfl (lv_at hl 3 rfl) ?_
  refine lv_iconst (v := 1) hx hb dL_505 (by decide) ?_
  refine lv_iadd hx hb dL_506 ?_
  refine va_sld hx hb hX hbl hbA hS0 (lw_in (k := 1) rfl hi hL (by decide)) dL_507 ?_
  refine lv_aload_n hx hb dL_508 rfl (lv_at hl 0 rfl) ?_
  refine lv_iload_n hx hb dL_509 rfl (lv_at hl 3 rfl) ?_
  refine lv_iconst (v := 2) hx hb dL_510 (by decide) ?_
  refine lv_iadd hx hb dL_511 ?_
  refine va_sld hx hb hX hbl hbA hS0 (lw_in (k := 2) rfl hi hL (by decide)) dL_512 ?_
  refine am_callL X hR hP0 hg0 hS0 hl.1 (j := jX10_many) (N := mX10_many) (q := 0) (rest := []) (hh := 563) rfl c1 (by decide +kernel) (by decide) (show am_npar mX10_many.1 = some 2 by decide +kernel) (Nat.zero_le _) rfl dL_513 (fun H1 locs1 hP1 hS1 => ?_)
  refine lv_aload_n hx hb dL_516 rfl (lv_at hl 2 rfl) ?_
  refine lv_aload_n hx hb dL_517 rfl (lv_at hl 0 rfl) ?_
  refine lv_iload_n hx hb dL_518 rfl (lv_at hl 3 rfl) ?_
  refine lv_iconst (v := 1) hx hb dL_519 (by decide) ?_
  refine lv_iadd hx hb dL_520 ?_
  refine va_sld hx hb hX hbl hbA hS1 (lw_in (k := 1) rfl hi hL (by decide)) dL_521 ?_
  refine lv_aload_n hx hb dL_522 rfl (lv_at hl 0 rfl) ?_
  refine lv_iload_n hx hb dL_523 rfl (lv_at hl 3 rfl) ?_
  refine lv_iconst (v := 2) hx hb dL_524 (by decide) ?_
  refine lv_iadd hx hb dL_525 ?_
  refine va_sld hx hb hX hbl hbA hS1 (lw_in (k := 2) rfl hi hL (by decide)) dL_526 ?_
  refine am_callL X hR hP1 hg1 hS1 hl.1 (j := jX11_many) (N := mX11_many) (q := 88) (rest := [.int v]) (hh := 1080) rfl c2 (by decide +kernel) (by decide) (show am_npar mX11_many.1 = some 2 by decide +kernel) (show 1 ≤ 8 by decide) rfl dL_527 (fun H2 locs2 hP2 hS2 => ?_)
  exact lv_icmp_eq (tgt := 1513) hx hb dL_530 (by decide) (fun _ => kk g2 H2 locs2 hg2 hI2 hP2 hS2) (fun cz => absurd rfl cz)
set_option maxHeartbeats 4000000 in
set_option maxRecDepth 100000 in
theorem law_9 (X : lw_cx p s m c b L xs ρ cA D) (hR : 62 ≤ R.frames ∧ 64 * 62 ≤ R.locals ∧ cells ≤ R.cells ∧ slots ≤ R.slots) (hI : am_ag Inv jX10_at jX11_at 3) (hi : i + 6 ≤ L) (hL : L ≤ 3072) {g : am_W} {H : Heap} {locs : List Loc} {ls : Array Slot} (hg0 : g.length = 107) (hInv : Inv g) (hP0 : va_P D am_cl (am_lay ρ cA g) H) (hS0 : va_S (fun q => s.heap.size ≤ q) s.heap H locs) (hl : lv_has ls 4 [(0, .ref b), (1, .ref (ρ 0)), (2, .ref (ρ 88)), (3, .int (nI i))])
    (kk : ∀ (g2 : am_W) (H2 : Heap) (locs2 : List Loc), g2.length = 107 → Inv g2 → va_P D am_cl (am_lay ρ cA g2) H2 → va_S (fun q => s.heap.size ≤ q) s.heap H2 locs2 → W p l e R s m #[Value.ref b] below meth c H2 locs2 cells slots Q (F0 m 1513 ls [])) : W p l e R s m #[Value.ref b] below meth c H locs cells slots Q (F0 m 535 ls []) := by
  obtain ⟨v, g1, g2, c1, c2, hI2⟩ := hI g [xs (nI i + 1).toNatClampNeg, xs (nI i + 2).toNatClampNeg, xs (nI i + 3).toNatClampNeg] rfl hg0 hInv
  have hg1 : g1.length = 107 := (am_cal_kp am_mt 60 _ _ _ _ c1).trans hg0
  have hg2 : g2.length = 107 := (am_cal_kp am_mt 60 _ _ _ _ c2).trans hg1
  have hx := X.1
  have hb := X.2.1
  have hX := X.2.2.2.2.2.2.2.1
  have hbl := X.2.2.2.2.2.2.2.2.1
  have hbA : ¬ (fun q : Nat => s.heap.size ≤ q) b := Nat.not_le.mpr hbl
  refine lv_aload_n hx hb dL_535 rfl (lv_at hl 1 rfl) ?_
  refine lv_aload_n hx hb dL_536 rfl (lv_at hl 0 rfl) ?_
  refine lv_iload_n hx hb dL_537 rfl (lv_at hl 3 rfl) ?_
  refine lv_iconst (v := 1) hx hb dL_538 (by decide) ?_
  refine lv_iadd hx hb dL_539 ?_
  refine va_sld hx hb hX hbl hbA hS0 (lw_in (k := 1) rfl hi hL (by decide)) dL_540 ?_
  refine lv_aload_n hx hb dL_541 rfl (lv_at hl 0 rfl) ?_
  refine lv_iload_n hx hb dL_542 rfl (lv_at hl 3 rfl) ?_
  refine lv_iconst (v := 2) hx hb dL_543 (by decide) ?_
  refine lv_iadd hx hb dL_544 ?_
  refine va_sld hx hb hX hbl hbA hS0 (lw_in (k := 2) rfl hi hL (by decide)) dL_545 ?_
  refine lv_aload_n hx hb dL_546 rfl (lv_at hl 0 rfl) ?_
  refine lv_iload_n hx hb dL_547 rfl (lv_at hl 3 rfl) ?_
  refine lv_iconst (v := 3) hx hb dL_548 (by decide) ?_
  refine lv_iadd hx hb dL_549 ?_
  refine va_sld hx hb hX hbl hbA hS0 (lw_in (k := 3) rfl hi hL (by decide)) dL_550 ?_
  refine am_callL X hR hP0 hg0 hS0 hl.1 (j := jX10_at) (N := mX10_at) (q := 0) (rest := []) (hh := 572) rfl c1 (by decide +kernel) (by decide) (show am_npar mX10_at.1 = some 3 by decide +kernel) (Nat.zero_le _) rfl dL_551 (fun H1 locs1 hP1 hS1 => ?_)
  refine lv_aload_n hx hb dL_554 rfl (lv_at hl 2 rfl) ?_
  refine lv_aload_n hx hb dL_555 rfl (lv_at hl 0 rfl) ?_
  refine lv_iload_n hx hb dL_556 rfl (lv_at hl 3 rfl) ?_
  refine lv_iconst (v := 1) hx hb dL_557 (by decide) ?_
  refine lv_iadd hx hb dL_558 ?_
  refine va_sld hx hb hX hbl hbA hS1 (lw_in (k := 1) rfl hi hL (by decide)) dL_559 ?_
  refine lv_aload_n hx hb dL_560 rfl (lv_at hl 0 rfl) ?_
  refine lv_iload_n hx hb dL_561 rfl (lv_at hl 3 rfl) ?_
  refine lv_iconst (v := 2) hx hb dL_562 (by decide) ?_
  refine lv_iadd hx hb dL_563 ?_
  refine va_sld hx hb hX hbl hbA hS1 (lw_in (k := 2) rfl hi hL (by decide)) dL_564 ?_
  refine lv_aload_n hx hb dL_565 rfl (lv_at hl 0 rfl) ?_
  refine lv_iload_n hx hb dL_566 rfl (lv_at hl 3 rfl) ?_
  refine lv_iconst (v := 3) hx hb dL_567 (by decide) ?_
  refine lv_iadd hx hb dL_568 ?_
  refine va_sld hx hb hX hbl hbA hS1 (lw_in (k := 3) rfl hi hL (by decide)) dL_569 ?_
  refine am_callL X hR hP1 hg1 hS1 hl.1 (j := jX11_at) (N := mX11_at) (q := 88) (rest := [.int v]) (hh := 1088) rfl c2 (by decide +kernel) (by decide) (show am_npar mX11_at.1 = some 3 by decide +kernel) (show 1 ≤ 8 by decide) rfl dL_570 (fun H2 locs2 hP2 hS2 => ?_)
  exact lv_icmp_eq (tgt := 1513) hx hb dL_573 (by decide) (fun _ => kk g2 H2 locs2 hg2 hI2 hP2 hS2) (fun cz => absurd rfl cz)
set_option maxHeartbeats 4000000 in
set_option maxRecDepth 100000 in
theorem law_10 (X : lw_cx p s m c b L xs ρ cA D) (hR : 62 ≤ R.frames ∧ 64 * 62 ≤ R.locals ∧ cells ≤ R.cells ∧ slots ≤ R.slots) (hI : am_ag Inv jX10_best jX11_best 3) (hi : i + 6 ≤ L) (hL : L ≤ 3072) {g : am_W} {H : Heap} {locs : List Loc} {ls : Array Slot} (hg0 : g.length = 107) (hInv : Inv g) (hP0 : va_P D am_cl (am_lay ρ cA g) H) (hS0 : va_S (fun q => s.heap.size ≤ q) s.heap H locs) (hl : lv_has ls 4 [(0, .ref b), (1, .ref (ρ 0)), (2, .ref (ρ 88)), (3, .int (nI i))])
    (kk : ∀ (g2 : am_W) (H2 : Heap) (locs2 : List Loc), g2.length = 107 → Inv g2 → va_P D am_cl (am_lay ρ cA g2) H2 → va_S (fun q => s.heap.size ≤ q) s.heap H2 locs2 → W p l e R s m #[Value.ref b] below meth c H2 locs2 cells slots Q (F0 m 1513 ls [])) : W p l e R s m #[Value.ref b] below meth c H locs cells slots Q (F0 m 578 ls []) := by
  obtain ⟨v, g1, g2, c1, c2, hI2⟩ := hI g [xs (nI i + 1).toNatClampNeg, xs (nI i + 2).toNatClampNeg, xs (nI i + 3).toNatClampNeg] rfl hg0 hInv
  have hg1 : g1.length = 107 := (am_cal_kp am_mt 60 _ _ _ _ c1).trans hg0
  have hg2 : g2.length = 107 := (am_cal_kp am_mt 60 _ _ _ _ c2).trans hg1
  have hx := X.1
  have hb := X.2.1
  have hX := X.2.2.2.2.2.2.2.1
  have hbl := X.2.2.2.2.2.2.2.2.1
  have hbA : ¬ (fun q : Nat => s.heap.size ≤ q) b := Nat.not_le.mpr hbl
  refine lv_aload_n hx hb dL_578 rfl (lv_at hl 1 rfl) ?_
  refine lv_aload_n hx hb dL_579 rfl (lv_at hl 0 rfl) ?_
  refine lv_iload_n hx hb dL_580 rfl (lv_at hl 3 rfl) ?_
  refine lv_iconst (v := 1) hx hb dL_581 (by decide) ?_
  refine lv_iadd hx hb dL_582 ?_
  refine va_sld hx hb hX hbl hbA hS0 (lw_in (k := 1) rfl hi hL (by decide)) dL_583 ?_
  refine lv_aload_n hx hb dL_584 rfl (lv_at hl 0 rfl) ?_
  refine lv_iload_n hx hb dL_585 rfl (lv_at hl 3 rfl) ?_
  refine lv_iconst (v := 2) hx hb dL_586 (by decide) ?_
  refine lv_iadd hx hb dL_587 ?_
  refine va_sld hx hb hX hbl hbA hS0 (lw_in (k := 2) rfl hi hL (by decide)) dL_588 ?_
  refine lv_aload_n hx hb dL_589 rfl (lv_at hl 0 rfl) ?_
  refine lv_iload_n hx hb dL_590 rfl (lv_at hl 3 rfl) ?_
  refine lv_iconst (v := 3) hx hb dL_591 (by decide) ?_
  refine lv_iadd hx hb dL_592 ?_
  refine va_sld hx hb hX hbl hbA hS0 (lw_in (k := 3) rfl hi hL (by decide)) dL_593 ?_
  refine am_callL X hR hP0 hg0 hS0 hl.1 (j := jX10_best) (N := mX10_best) (q := 0) (rest := []) (hh := 580) rfl c1 (by decide +kernel) (by decide) (show am_npar mX10_best.1 = some 3 by decide +kernel) (Nat.zero_le _) rfl dL_594 (fun H1 locs1 hP1 hS1 => ?_)
  refine lv_aload_n hx hb dL_597 rfl (lv_at hl 2 rfl) ?_
  refine lv_aload_n hx hb dL_598 rfl (lv_at hl 0 rfl) ?_
  refine lv_iload_n hx hb dL_599 rfl (lv_at hl 3 rfl) ?_
  refine lv_iconst (v := 1) hx hb dL_600 (by decide) ?_
  refine lv_iadd hx hb dL_601 ?_
  refine va_sld hx hb hX hbl hbA hS1 (lw_in (k := 1) rfl hi hL (by decide)) dL_602 ?_
  refine lv_aload_n hx hb dL_603 rfl (lv_at hl 0 rfl) ?_
  refine lv_iload_n hx hb dL_604 rfl (lv_at hl 3 rfl) ?_
  refine lv_iconst (v := 2) hx hb dL_605 (by decide) ?_
  refine lv_iadd hx hb dL_606 ?_
  refine va_sld hx hb hX hbl hbA hS1 (lw_in (k := 2) rfl hi hL (by decide)) dL_607 ?_
  refine lv_aload_n hx hb dL_608 rfl (lv_at hl 0 rfl) ?_
  refine lv_iload_n hx hb dL_609 rfl (lv_at hl 3 rfl) ?_
  refine lv_iconst (v := 3) hx hb dL_610 (by decide) ?_
  refine lv_iadd hx hb dL_611 ?_
  refine va_sld hx hb hX hbl hbA hS1 (lw_in (k := 3) rfl hi hL (by decide)) dL_612 ?_
  refine am_callL X hR hP1 hg1 hS1 hl.1 (j := jX11_best) (N := mX11_best) (q := 88) (rest := [.int v]) (hh := 1092) rfl c2 (by decide +kernel) (by decide) (show am_npar mX11_best.1 = some 3 by decide +kernel) (show 1 ≤ 8 by decide) rfl dL_613 (fun H2 locs2 hP2 hS2 => ?_)
  exact lv_icmp_eq (tgt := 1513) hx hb dL_616 (by decide) (fun _ => kk g2 H2 locs2 hg2 hI2 hP2 hS2) (fun cz => absurd rfl cz)
set_option maxHeartbeats 4000000 in
set_option maxRecDepth 100000 in
theorem law_11 (X : lw_cx p s m c b L xs ρ cA D) (hR : 62 ≤ R.frames ∧ 64 * 62 ≤ R.locals ∧ cells ≤ R.cells ∧ slots ≤ R.slots) (hI : am_ag Inv jX10_dual jX11_dual 2) (hi : i + 6 ≤ L) (hL : L ≤ 3072) {g : am_W} {H : Heap} {locs : List Loc} {ls : Array Slot} (hg0 : g.length = 107) (hInv : Inv g) (hP0 : va_P D am_cl (am_lay ρ cA g) H) (hS0 : va_S (fun q => s.heap.size ≤ q) s.heap H locs) (hl : lv_has ls 4 [(0, .ref b), (1, .ref (ρ 0)), (2, .ref (ρ 88)), (3, .int (nI i))])
    (kk : ∀ (g2 : am_W) (H2 : Heap) (locs2 : List Loc), g2.length = 107 → Inv g2 → va_P D am_cl (am_lay ρ cA g2) H2 → va_S (fun q => s.heap.size ≤ q) s.heap H2 locs2 → W p l e R s m #[Value.ref b] below meth c H2 locs2 cells slots Q (F0 m 1513 ls [])) : W p l e R s m #[Value.ref b] below meth c H locs cells slots Q (F0 m 621 ls []) := by
  obtain ⟨v, g1, g2, c1, c2, hI2⟩ := hI g [xs (nI i + 1).toNatClampNeg, xs (nI i + 2).toNatClampNeg] rfl hg0 hInv
  have hg1 : g1.length = 107 := (am_cal_kp am_mt 60 _ _ _ _ c1).trans hg0
  have hg2 : g2.length = 107 := (am_cal_kp am_mt 60 _ _ _ _ c2).trans hg1
  have hx := X.1
  have hb := X.2.1
  have hX := X.2.2.2.2.2.2.2.1
  have hbl := X.2.2.2.2.2.2.2.2.1
  have hbA : ¬ (fun q : Nat => s.heap.size ≤ q) b := Nat.not_le.mpr hbl
  refine lv_aload_n hx hb dL_621 rfl (lv_at hl 1 rfl) ?_
  refine lv_aload_n hx hb dL_622 rfl (lv_at hl 0 rfl) ?_
  refine lv_iload_n hx hb dL_623 rfl (lv_at hl 3 rfl) ?_
  refine lv_iconst (v := 1) hx hb dL_624 (by decide) ?_
  refine lv_iadd hx hb dL_625 ?_
  refine va_sld hx hb hX hbl hbA hS0 (lw_in (k := 1) rfl hi hL (by decide)) dL_626 ?_
  refine lv_aload_n hx hb dL_627 rfl (lv_at hl 0 rfl) ?_
  refine lv_iload_n hx hb dL_628 rfl (lv_at hl 3 rfl) ?_
  refine lv_iconst (v := 2) hx hb dL_629 (by decide) ?_
  refine lv_iadd hx hb dL_630 ?_
  refine va_sld hx hb hX hbl hbA hS0 (lw_in (k := 2) rfl hi hL (by decide)) dL_631 ?_
  refine am_callL X hR hP0 hg0 hS0 hl.1 (j := jX10_dual) (N := mX10_dual) (q := 0) (rest := []) (hh := 598) rfl c1 (by decide +kernel) (by decide) (show am_npar mX10_dual.1 = some 2 by decide +kernel) (Nat.zero_le _) rfl dL_632 (fun H1 locs1 hP1 hS1 => ?_)
  refine lv_aload_n hx hb dL_635 rfl (lv_at hl 2 rfl) ?_
  refine lv_aload_n hx hb dL_636 rfl (lv_at hl 0 rfl) ?_
  refine lv_iload_n hx hb dL_637 rfl (lv_at hl 3 rfl) ?_
  refine lv_iconst (v := 1) hx hb dL_638 (by decide) ?_
  refine lv_iadd hx hb dL_639 ?_
  refine va_sld hx hb hX hbl hbA hS1 (lw_in (k := 1) rfl hi hL (by decide)) dL_640 ?_
  refine lv_aload_n hx hb dL_641 rfl (lv_at hl 0 rfl) ?_
  refine lv_iload_n hx hb dL_642 rfl (lv_at hl 3 rfl) ?_
  refine lv_iconst (v := 2) hx hb dL_643 (by decide) ?_
  refine lv_iadd hx hb dL_644 ?_
  refine va_sld hx hb hX hbl hbA hS1 (lw_in (k := 2) rfl hi hL (by decide)) dL_645 ?_
  refine am_callL X hR hP1 hg1 hS1 hl.1 (j := jX11_dual) (N := mX11_dual) (q := 88) (rest := [.int v]) (hh := 1100) rfl c2 (by decide +kernel) (by decide) (show am_npar mX11_dual.1 = some 2 by decide +kernel) (show 1 ≤ 8 by decide) rfl dL_646 (fun H2 locs2 hP2 hS2 => ?_)
  exact lv_icmp_eq (tgt := 1513) hx hb dL_649 (by decide) (fun _ => kk g2 H2 locs2 hg2 hI2 hP2 hS2) (fun cz => absurd rfl cz)
set_option maxHeartbeats 4000000 in
set_option maxRecDepth 100000 in
theorem law_12 (X : lw_cx p s m c b L xs ρ cA D) (hR : 62 ≤ R.frames ∧ 64 * 62 ≤ R.locals ∧ cells ≤ R.cells ∧ slots ≤ R.slots) (hI : am_ag Inv jX10_minor jX11_minor 4) (hi : i + 6 ≤ L) (hL : L ≤ 3072) {g : am_W} {H : Heap} {locs : List Loc} {ls : Array Slot} (hg0 : g.length = 107) (hInv : Inv g) (hP0 : va_P D am_cl (am_lay ρ cA g) H) (hS0 : va_S (fun q => s.heap.size ≤ q) s.heap H locs) (hl : lv_has ls 4 [(0, .ref b), (1, .ref (ρ 0)), (2, .ref (ρ 88)), (3, .int (nI i))])
    (kk : ∀ (g2 : am_W) (H2 : Heap) (locs2 : List Loc), g2.length = 107 → Inv g2 → va_P D am_cl (am_lay ρ cA g2) H2 → va_S (fun q => s.heap.size ≤ q) s.heap H2 locs2 → W p l e R s m #[Value.ref b] below meth c H2 locs2 cells slots Q (F0 m 1513 ls [])) : W p l e R s m #[Value.ref b] below meth c H locs cells slots Q (F0 m 654 ls []) := by
  obtain ⟨v, g1, g2, c1, c2, hI2⟩ := hI g [xs (nI i + 1).toNatClampNeg, xs (nI i + 2).toNatClampNeg, xs (nI i + 3).toNatClampNeg, xs (nI i + 4).toNatClampNeg] rfl hg0 hInv
  have hg1 : g1.length = 107 := (am_cal_kp am_mt 60 _ _ _ _ c1).trans hg0
  have hg2 : g2.length = 107 := (am_cal_kp am_mt 60 _ _ _ _ c2).trans hg1
  have hx := X.1
  have hb := X.2.1
  have hX := X.2.2.2.2.2.2.2.1
  have hbl := X.2.2.2.2.2.2.2.2.1
  have hbA : ¬ (fun q : Nat => s.heap.size ≤ q) b := Nat.not_le.mpr hbl
  refine lv_aload_n hx hb dL_654 rfl (lv_at hl 1 rfl) ?_
  refine lv_aload_n hx hb dL_655 rfl (lv_at hl 0 rfl) ?_
  refine lv_iload_n hx hb dL_656 rfl (lv_at hl 3 rfl) ?_
  refine lv_iconst (v := 1) hx hb dL_657 (by decide) ?_
  refine lv_iadd hx hb dL_658 ?_
  refine va_sld hx hb hX hbl hbA hS0 (lw_in (k := 1) rfl hi hL (by decide)) dL_659 ?_
  refine lv_aload_n hx hb dL_660 rfl (lv_at hl 0 rfl) ?_
  refine lv_iload_n hx hb dL_661 rfl (lv_at hl 3 rfl) ?_
  refine lv_iconst (v := 2) hx hb dL_662 (by decide) ?_
  refine lv_iadd hx hb dL_663 ?_
  refine va_sld hx hb hX hbl hbA hS0 (lw_in (k := 2) rfl hi hL (by decide)) dL_664 ?_
  refine lv_aload_n hx hb dL_665 rfl (lv_at hl 0 rfl) ?_
  refine lv_iload_n hx hb dL_666 rfl (lv_at hl 3 rfl) ?_
  refine lv_iconst (v := 3) hx hb dL_667 (by decide) ?_
  refine lv_iadd hx hb dL_668 ?_
  refine va_sld hx hb hX hbl hbA hS0 (lw_in (k := 3) rfl hi hL (by decide)) dL_669 ?_
  refine lv_aload_n hx hb dL_670 rfl (lv_at hl 0 rfl) ?_
  refine lv_iload_n hx hb dL_671 rfl (lv_at hl 3 rfl) ?_
  refine lv_iconst (v := 4) hx hb dL_672 (by decide) ?_
  refine lv_iadd hx hb dL_673 ?_
  refine va_sld hx hb hX hbl hbA hS0 (lw_in (k := 4) rfl hi hL (by decide)) dL_674 ?_
  refine am_callL X hR hP0 hg0 hS0 hl.1 (j := jX10_minor) (N := mX10_minor) (q := 0) (rest := []) (hh := 611) rfl c1 (by decide +kernel) (by decide) (show am_npar mX10_minor.1 = some 4 by decide +kernel) (Nat.zero_le _) rfl dL_675 (fun H1 locs1 hP1 hS1 => ?_)
  refine lv_aload_n hx hb dL_678 rfl (lv_at hl 2 rfl) ?_
  refine lv_aload_n hx hb dL_679 rfl (lv_at hl 0 rfl) ?_
  refine lv_iload_n hx hb dL_680 rfl (lv_at hl 3 rfl) ?_
  refine lv_iconst (v := 1) hx hb dL_681 (by decide) ?_
  refine lv_iadd hx hb dL_682 ?_
  refine va_sld hx hb hX hbl hbA hS1 (lw_in (k := 1) rfl hi hL (by decide)) dL_683 ?_
  refine lv_aload_n hx hb dL_684 rfl (lv_at hl 0 rfl) ?_
  refine lv_iload_n hx hb dL_685 rfl (lv_at hl 3 rfl) ?_
  refine lv_iconst (v := 2) hx hb dL_686 (by decide) ?_
  refine lv_iadd hx hb dL_687 ?_
  refine va_sld hx hb hX hbl hbA hS1 (lw_in (k := 2) rfl hi hL (by decide)) dL_688 ?_
  refine lv_aload_n hx hb dL_689 rfl (lv_at hl 0 rfl) ?_
  refine lv_iload_n hx hb dL_690 rfl (lv_at hl 3 rfl) ?_
  refine lv_iconst (v := 3) hx hb dL_691 (by decide) ?_
  refine lv_iadd hx hb dL_692 ?_
  refine va_sld hx hb hX hbl hbA hS1 (lw_in (k := 3) rfl hi hL (by decide)) dL_693 ?_
  refine lv_aload_n hx hb dL_694 rfl (lv_at hl 0 rfl) ?_
  refine lv_iload_n hx hb dL_695 rfl (lv_at hl 3 rfl) ?_
  refine lv_iconst (v := 4) hx hb dL_696 (by decide) ?_
  refine lv_iadd hx hb dL_697 ?_
  refine va_sld hx hb hX hbl hbA hS1 (lw_in (k := 4) rfl hi hL (by decide)) dL_698 ?_
  refine am_callL X hR hP1 hg1 hS1 hl.1 (j := jX11_minor) (N := mX11_minor) (q := 88) (rest := [.int v]) (hh := 1108) rfl c2 (by decide +kernel) (by decide) (show am_npar mX11_minor.1 = some 4 by decide +kernel) (show 1 ≤ 8 by decide) rfl dL_699 (fun H2 locs2 hP2 hS2 => ?_)
  exact lv_icmp_eq (tgt := 1513) hx hb dL_702 (by decide) (fun _ => kk g2 H2 locs2 hg2 hI2 hP2 hS2) (fun cz => absurd rfl cz)
set_option maxHeartbeats 4000000 in
set_option maxRecDepth 100000 in
theorem law_13 (X : lw_cx p s m c b L xs ρ cA D) (hR : 62 ≤ R.frames ∧ 64 * 62 ≤ R.locals ∧ cells ≤ R.cells ∧ slots ≤ R.slots) (hI : am_ag Inv jX10_union jX11_union 3) (hi : i + 6 ≤ L) (hL : L ≤ 3072) {g : am_W} {H : Heap} {locs : List Loc} {ls : Array Slot} (hg0 : g.length = 107) (hInv : Inv g) (hP0 : va_P D am_cl (am_lay ρ cA g) H) (hS0 : va_S (fun q => s.heap.size ≤ q) s.heap H locs) (hl : lv_has ls 4 [(0, .ref b), (1, .ref (ρ 0)), (2, .ref (ρ 88)), (3, .int (nI i))])
    (kk : ∀ (g2 : am_W) (H2 : Heap) (locs2 : List Loc), g2.length = 107 → Inv g2 → va_P D am_cl (am_lay ρ cA g2) H2 → va_S (fun q => s.heap.size ≤ q) s.heap H2 locs2 → W p l e R s m #[Value.ref b] below meth c H2 locs2 cells slots Q (F0 m 1513 ls [])) : W p l e R s m #[Value.ref b] below meth c H locs cells slots Q (F0 m 707 ls []) := by
  obtain ⟨v, g1, g2, c1, c2, hI2⟩ := hI g [xs (nI i + 1).toNatClampNeg, xs (nI i + 2).toNatClampNeg, xs (nI i + 3).toNatClampNeg] rfl hg0 hInv
  have hg1 : g1.length = 107 := (am_cal_kp am_mt 60 _ _ _ _ c1).trans hg0
  have hg2 : g2.length = 107 := (am_cal_kp am_mt 60 _ _ _ _ c2).trans hg1
  have hx := X.1
  have hb := X.2.1
  have hX := X.2.2.2.2.2.2.2.1
  have hbl := X.2.2.2.2.2.2.2.2.1
  have hbA : ¬ (fun q : Nat => s.heap.size ≤ q) b := Nat.not_le.mpr hbl
  refine lv_aload_n hx hb dL_707 rfl (lv_at hl 1 rfl) ?_
  refine lv_aload_n hx hb dL_708 rfl (lv_at hl 0 rfl) ?_
  refine lv_iload_n hx hb dL_709 rfl (lv_at hl 3 rfl) ?_
  refine lv_iconst (v := 1) hx hb dL_710 (by decide) ?_
  refine lv_iadd hx hb dL_711 ?_
  refine va_sld hx hb hX hbl hbA hS0 (lw_in (k := 1) rfl hi hL (by decide)) dL_712 ?_
  refine lv_aload_n hx hb dL_713 rfl (lv_at hl 0 rfl) ?_
  refine lv_iload_n hx hb dL_714 rfl (lv_at hl 3 rfl) ?_
  refine lv_iconst (v := 2) hx hb dL_715 (by decide) ?_
  refine lv_iadd hx hb dL_716 ?_
  refine va_sld hx hb hX hbl hbA hS0 (lw_in (k := 2) rfl hi hL (by decide)) dL_717 ?_
  refine lv_aload_n hx hb dL_718 rfl (lv_at hl 0 rfl) ?_
  refine lv_iload_n hx hb dL_719 rfl (lv_at hl 3 rfl) ?_
  refine lv_iconst (v := 3) hx hb dL_720 (by decide) ?_
  refine lv_iadd hx hb dL_721 ?_
  refine va_sld hx hb hX hbl hbA hS0 (lw_in (k := 3) rfl hi hL (by decide)) dL_722 ?_
  refine am_callL X hR hP0 hg0 hS0 hl.1 (j := jX10_union) (N := mX10_union) (q := 0) (rest := []) (hh := 622) rfl c1 (by decide +kernel) (by decide) (show am_npar mX10_union.1 = some 3 by decide +kernel) (Nat.zero_le _) rfl dL_723 (fun H1 locs1 hP1 hS1 => ?_)
  refine lv_aload_n hx hb dL_726 rfl (lv_at hl 2 rfl) ?_
  refine lv_aload_n hx hb dL_727 rfl (lv_at hl 0 rfl) ?_
  refine lv_iload_n hx hb dL_728 rfl (lv_at hl 3 rfl) ?_
  refine lv_iconst (v := 1) hx hb dL_729 (by decide) ?_
  refine lv_iadd hx hb dL_730 ?_
  refine va_sld hx hb hX hbl hbA hS1 (lw_in (k := 1) rfl hi hL (by decide)) dL_731 ?_
  refine lv_aload_n hx hb dL_732 rfl (lv_at hl 0 rfl) ?_
  refine lv_iload_n hx hb dL_733 rfl (lv_at hl 3 rfl) ?_
  refine lv_iconst (v := 2) hx hb dL_734 (by decide) ?_
  refine lv_iadd hx hb dL_735 ?_
  refine va_sld hx hb hX hbl hbA hS1 (lw_in (k := 2) rfl hi hL (by decide)) dL_736 ?_
  refine lv_aload_n hx hb dL_737 rfl (lv_at hl 0 rfl) ?_
  refine lv_iload_n hx hb dL_738 rfl (lv_at hl 3 rfl) ?_
  refine lv_iconst (v := 3) hx hb dL_739 (by decide) ?_
  refine lv_iadd hx hb dL_740 ?_
  refine va_sld hx hb hX hbl hbA hS1 (lw_in (k := 3) rfl hi hL (by decide)) dL_741 ?_
  refine am_callL X hR hP1 hg1 hS1 hl.1 (j := jX11_union) (N := mX11_union) (q := 88) (rest := [.int v]) (hh := 1119) rfl c2 (by decide +kernel) (by decide) (show am_npar mX11_union.1 = some 3 by decide +kernel) (show 1 ≤ 8 by decide) rfl dL_742 (fun H2 locs2 hP2 hS2 => ?_)
  exact lv_icmp_eq (tgt := 1513) hx hb dL_745 (by decide) (fun _ => kk g2 H2 locs2 hg2 hI2 hP2 hS2) (fun cz => absurd rfl cz)
set_option maxHeartbeats 4000000 in
set_option maxRecDepth 100000 in
theorem law_14 (X : lw_cx p s m c b L xs ρ cA D) (hR : 62 ≤ R.frames ∧ 64 * 62 ≤ R.locals ∧ cells ≤ R.cells ∧ slots ≤ R.slots) (hI : am_ag Inv jX10_renumber jX11_renumber 3) (hi : i + 6 ≤ L) (hL : L ≤ 3072) {g : am_W} {H : Heap} {locs : List Loc} {ls : Array Slot} (hg0 : g.length = 107) (hInv : Inv g) (hP0 : va_P D am_cl (am_lay ρ cA g) H) (hS0 : va_S (fun q => s.heap.size ≤ q) s.heap H locs) (hl : lv_has ls 4 [(0, .ref b), (1, .ref (ρ 0)), (2, .ref (ρ 88)), (3, .int (nI i))])
    (kk : ∀ (g2 : am_W) (H2 : Heap) (locs2 : List Loc), g2.length = 107 → Inv g2 → va_P D am_cl (am_lay ρ cA g2) H2 → va_S (fun q => s.heap.size ≤ q) s.heap H2 locs2 → W p l e R s m #[Value.ref b] below meth c H2 locs2 cells slots Q (F0 m 1513 ls [])) : W p l e R s m #[Value.ref b] below meth c H locs cells slots Q (F0 m 750 ls []) := by
  obtain ⟨v, g1, g2, c1, c2, hI2⟩ := hI g [xs (nI i + 1).toNatClampNeg, xs (nI i + 2).toNatClampNeg, xs (nI i + 3).toNatClampNeg] rfl hg0 hInv
  have hg1 : g1.length = 107 := (am_cal_kp am_mt 60 _ _ _ _ c1).trans hg0
  have hg2 : g2.length = 107 := (am_cal_kp am_mt 60 _ _ _ _ c2).trans hg1
  have hx := X.1
  have hb := X.2.1
  have hX := X.2.2.2.2.2.2.2.1
  have hbl := X.2.2.2.2.2.2.2.2.1
  have hbA : ¬ (fun q : Nat => s.heap.size ≤ q) b := Nat.not_le.mpr hbl
  refine lv_aload_n hx hb dL_750 rfl (lv_at hl 1 rfl) ?_
  refine lv_aload_n hx hb dL_751 rfl (lv_at hl 0 rfl) ?_
  refine lv_iload_n hx hb dL_752 rfl (lv_at hl 3 rfl) ?_
  refine lv_iconst (v := 1) hx hb dL_753 (by decide) ?_
  refine lv_iadd hx hb dL_754 ?_
  refine va_sld hx hb hX hbl hbA hS0 (lw_in (k := 1) rfl hi hL (by decide)) dL_755 ?_
  refine lv_aload_n hx hb dL_756 rfl (lv_at hl 0 rfl) ?_
  refine lv_iload_n hx hb dL_757 rfl (lv_at hl 3 rfl) ?_
  refine lv_iconst (v := 2) hx hb dL_758 (by decide) ?_
  refine lv_iadd hx hb dL_759 ?_
  refine va_sld hx hb hX hbl hbA hS0 (lw_in (k := 2) rfl hi hL (by decide)) dL_760 ?_
  refine lv_aload_n hx hb dL_761 rfl (lv_at hl 0 rfl) ?_
  refine lv_iload_n hx hb dL_762 rfl (lv_at hl 3 rfl) ?_
  refine lv_iconst (v := 3) hx hb dL_763 (by decide) ?_
  refine lv_iadd hx hb dL_764 ?_
  refine va_sld hx hb hX hbl hbA hS0 (lw_in (k := 3) rfl hi hL (by decide)) dL_765 ?_
  refine am_callL X hR hP0 hg0 hS0 hl.1 (j := jX10_renumber) (N := mX10_renumber) (q := 0) (rest := []) (hh := 630) rfl c1 (by decide +kernel) (by decide) (show am_npar mX10_renumber.1 = some 3 by decide +kernel) (Nat.zero_le _) rfl dL_766 (fun H1 locs1 hP1 hS1 => ?_)
  refine lv_aload_n hx hb dL_769 rfl (lv_at hl 2 rfl) ?_
  refine lv_aload_n hx hb dL_770 rfl (lv_at hl 0 rfl) ?_
  refine lv_iload_n hx hb dL_771 rfl (lv_at hl 3 rfl) ?_
  refine lv_iconst (v := 1) hx hb dL_772 (by decide) ?_
  refine lv_iadd hx hb dL_773 ?_
  refine va_sld hx hb hX hbl hbA hS1 (lw_in (k := 1) rfl hi hL (by decide)) dL_774 ?_
  refine lv_aload_n hx hb dL_775 rfl (lv_at hl 0 rfl) ?_
  refine lv_iload_n hx hb dL_776 rfl (lv_at hl 3 rfl) ?_
  refine lv_iconst (v := 2) hx hb dL_777 (by decide) ?_
  refine lv_iadd hx hb dL_778 ?_
  refine va_sld hx hb hX hbl hbA hS1 (lw_in (k := 2) rfl hi hL (by decide)) dL_779 ?_
  refine lv_aload_n hx hb dL_780 rfl (lv_at hl 0 rfl) ?_
  refine lv_iload_n hx hb dL_781 rfl (lv_at hl 3 rfl) ?_
  refine lv_iconst (v := 3) hx hb dL_782 (by decide) ?_
  refine lv_iadd hx hb dL_783 ?_
  refine va_sld hx hb hX hbl hbA hS1 (lw_in (k := 3) rfl hi hL (by decide)) dL_784 ?_
  refine am_callL X hR hP1 hg1 hS1 hl.1 (j := jX11_renumber) (N := mX11_renumber) (q := 88) (rest := [.int v]) (hh := 1123) rfl c2 (by decide +kernel) (by decide) (show am_npar mX11_renumber.1 = some 3 by decide +kernel) (show 1 ≤ 8 by decide) rfl dL_785 (fun H2 locs2 hP2 hS2 => ?_)
  exact lv_icmp_eq (tgt := 1513) hx hb dL_788 (by decide) (fun _ => kk g2 H2 locs2 hg2 hI2 hP2 hS2) (fun cz => absurd rfl cz)
set_option maxHeartbeats 4000000 in
set_option maxRecDepth 100000 in
theorem law_15 (X : lw_cx p s m c b L xs ρ cA D) (hR : 62 ≤ R.frames ∧ 64 * 62 ≤ R.locals ∧ cells ≤ R.cells ∧ slots ≤ R.slots) (hI : am_ag Inv jX10_same jX11_same 2) (hi : i + 6 ≤ L) (hL : L ≤ 3072) {g : am_W} {H : Heap} {locs : List Loc} {ls : Array Slot} (hg0 : g.length = 107) (hInv : Inv g) (hP0 : va_P D am_cl (am_lay ρ cA g) H) (hS0 : va_S (fun q => s.heap.size ≤ q) s.heap H locs) (hl : lv_has ls 4 [(0, .ref b), (1, .ref (ρ 0)), (2, .ref (ρ 88)), (3, .int (nI i))])
    (kk : ∀ (g2 : am_W) (H2 : Heap) (locs2 : List Loc), g2.length = 107 → Inv g2 → va_P D am_cl (am_lay ρ cA g2) H2 → va_S (fun q => s.heap.size ≤ q) s.heap H2 locs2 → W p l e R s m #[Value.ref b] below meth c H2 locs2 cells slots Q (F0 m 1513 ls [])) : W p l e R s m #[Value.ref b] below meth c H locs cells slots Q (F0 m 793 ls []) := by
  obtain ⟨v, g1, g2, c1, c2, hI2⟩ := hI g [xs (nI i + 1).toNatClampNeg, xs (nI i + 2).toNatClampNeg] rfl hg0 hInv
  have hg1 : g1.length = 107 := (am_cal_kp am_mt 60 _ _ _ _ c1).trans hg0
  have hg2 : g2.length = 107 := (am_cal_kp am_mt 60 _ _ _ _ c2).trans hg1
  have hx := X.1
  have hb := X.2.1
  have hX := X.2.2.2.2.2.2.2.1
  have hbl := X.2.2.2.2.2.2.2.2.1
  have hbA : ¬ (fun q : Nat => s.heap.size ≤ q) b := Nat.not_le.mpr hbl
  refine lv_aload_n hx hb dL_793 rfl (lv_at hl 1 rfl) ?_
  refine lv_aload_n hx hb dL_794 rfl (lv_at hl 0 rfl) ?_
  refine lv_iload_n hx hb dL_795 rfl (lv_at hl 3 rfl) ?_
  refine lv_iconst (v := 1) hx hb dL_796 (by decide) ?_
  refine lv_iadd hx hb dL_797 ?_
  refine va_sld hx hb hX hbl hbA hS0 (lw_in (k := 1) rfl hi hL (by decide)) dL_798 ?_
  refine lv_aload_n hx hb dL_799 rfl (lv_at hl 0 rfl) ?_
  refine lv_iload_n hx hb dL_800 rfl (lv_at hl 3 rfl) ?_
  refine lv_iconst (v := 2) hx hb dL_801 (by decide) ?_
  refine lv_iadd hx hb dL_802 ?_
  refine va_sld hx hb hX hbl hbA hS0 (lw_in (k := 2) rfl hi hL (by decide)) dL_803 ?_
  refine am_callL X hR hP0 hg0 hS0 hl.1 (j := jX10_same) (N := mX10_same) (q := 0) (rest := []) (hh := 648) rfl c1 (by decide +kernel) (by decide) (show am_npar mX10_same.1 = some 2 by decide +kernel) (Nat.zero_le _) rfl dL_804 (fun H1 locs1 hP1 hS1 => ?_)
  refine lv_aload_n hx hb dL_807 rfl (lv_at hl 2 rfl) ?_
  refine lv_aload_n hx hb dL_808 rfl (lv_at hl 0 rfl) ?_
  refine lv_iload_n hx hb dL_809 rfl (lv_at hl 3 rfl) ?_
  refine lv_iconst (v := 1) hx hb dL_810 (by decide) ?_
  refine lv_iadd hx hb dL_811 ?_
  refine va_sld hx hb hX hbl hbA hS1 (lw_in (k := 1) rfl hi hL (by decide)) dL_812 ?_
  refine lv_aload_n hx hb dL_813 rfl (lv_at hl 0 rfl) ?_
  refine lv_iload_n hx hb dL_814 rfl (lv_at hl 3 rfl) ?_
  refine lv_iconst (v := 2) hx hb dL_815 (by decide) ?_
  refine lv_iadd hx hb dL_816 ?_
  refine va_sld hx hb hX hbl hbA hS1 (lw_in (k := 2) rfl hi hL (by decide)) dL_817 ?_
  refine am_callL X hR hP1 hg1 hS1 hl.1 (j := jX11_same) (N := mX11_same) (q := 88) (rest := [.int v]) (hh := 1127) rfl c2 (by decide +kernel) (by decide) (show am_npar mX11_same.1 = some 2 by decide +kernel) (show 1 ≤ 8 by decide) rfl dL_818 (fun H2 locs2 hP2 hS2 => ?_)
  exact lv_icmp_eq (tgt := 1513) hx hb dL_821 (by decide) (fun _ => kk g2 H2 locs2 hg2 hI2 hP2 hS2) (fun cz => absurd rfl cz)
set_option maxHeartbeats 4000000 in
set_option maxRecDepth 100000 in
theorem law_16 (X : lw_cx p s m c b L xs ρ cA D) (hR : 62 ≤ R.frames ∧ 64 * 62 ≤ R.locals ∧ cells ≤ R.cells ∧ slots ≤ R.slots) (hI : am_ag Inv jX10_alike jX11_alike 2) (hi : i + 6 ≤ L) (hL : L ≤ 3072) {g : am_W} {H : Heap} {locs : List Loc} {ls : Array Slot} (hg0 : g.length = 107) (hInv : Inv g) (hP0 : va_P D am_cl (am_lay ρ cA g) H) (hS0 : va_S (fun q => s.heap.size ≤ q) s.heap H locs) (hl : lv_has ls 4 [(0, .ref b), (1, .ref (ρ 0)), (2, .ref (ρ 88)), (3, .int (nI i))])
    (kk : ∀ (g2 : am_W) (H2 : Heap) (locs2 : List Loc), g2.length = 107 → Inv g2 → va_P D am_cl (am_lay ρ cA g2) H2 → va_S (fun q => s.heap.size ≤ q) s.heap H2 locs2 → W p l e R s m #[Value.ref b] below meth c H2 locs2 cells slots Q (F0 m 1513 ls [])) : W p l e R s m #[Value.ref b] below meth c H locs cells slots Q (F0 m 826 ls []) := by
  obtain ⟨v, g1, g2, c1, c2, hI2⟩ := hI g [xs (nI i + 1).toNatClampNeg, xs (nI i + 2).toNatClampNeg] rfl hg0 hInv
  have hg1 : g1.length = 107 := (am_cal_kp am_mt 60 _ _ _ _ c1).trans hg0
  have hg2 : g2.length = 107 := (am_cal_kp am_mt 60 _ _ _ _ c2).trans hg1
  have hx := X.1
  have hb := X.2.1
  have hX := X.2.2.2.2.2.2.2.1
  have hbl := X.2.2.2.2.2.2.2.2.1
  have hbA : ¬ (fun q : Nat => s.heap.size ≤ q) b := Nat.not_le.mpr hbl
  refine lv_aload_n hx hb dL_826 rfl (lv_at hl 1 rfl) ?_
  refine lv_aload_n hx hb dL_827 rfl (lv_at hl 0 rfl) ?_
  refine lv_iload_n hx hb dL_828 rfl (lv_at hl 3 rfl) ?_
  refine lv_iconst (v := 1) hx hb dL_829 (by decide) ?_
  refine lv_iadd hx hb dL_830 ?_
  refine va_sld hx hb hX hbl hbA hS0 (lw_in (k := 1) rfl hi hL (by decide)) dL_831 ?_
  refine lv_aload_n hx hb dL_832 rfl (lv_at hl 0 rfl) ?_
  refine lv_iload_n hx hb dL_833 rfl (lv_at hl 3 rfl) ?_
  refine lv_iconst (v := 2) hx hb dL_834 (by decide) ?_
  refine lv_iadd hx hb dL_835 ?_
  refine va_sld hx hb hX hbl hbA hS0 (lw_in (k := 2) rfl hi hL (by decide)) dL_836 ?_
  refine am_callL X hR hP0 hg0 hS0 hl.1 (j := jX10_alike) (N := mX10_alike) (q := 0) (rest := []) (hh := 656) rfl c1 (by decide +kernel) (by decide) (show am_npar mX10_alike.1 = some 2 by decide +kernel) (Nat.zero_le _) rfl dL_837 (fun H1 locs1 hP1 hS1 => ?_)
  refine lv_aload_n hx hb dL_840 rfl (lv_at hl 2 rfl) ?_
  refine lv_aload_n hx hb dL_841 rfl (lv_at hl 0 rfl) ?_
  refine lv_iload_n hx hb dL_842 rfl (lv_at hl 3 rfl) ?_
  refine lv_iconst (v := 1) hx hb dL_843 (by decide) ?_
  refine lv_iadd hx hb dL_844 ?_
  refine va_sld hx hb hX hbl hbA hS1 (lw_in (k := 1) rfl hi hL (by decide)) dL_845 ?_
  refine lv_aload_n hx hb dL_846 rfl (lv_at hl 0 rfl) ?_
  refine lv_iload_n hx hb dL_847 rfl (lv_at hl 3 rfl) ?_
  refine lv_iconst (v := 2) hx hb dL_848 (by decide) ?_
  refine lv_iadd hx hb dL_849 ?_
  refine va_sld hx hb hX hbl hbA hS1 (lw_in (k := 2) rfl hi hL (by decide)) dL_850 ?_
  refine am_callL X hR hP1 hg1 hS1 hl.1 (j := jX11_alike) (N := mX11_alike) (q := 88) (rest := [.int v]) (hh := 1135) rfl c2 (by decide +kernel) (by decide) (show am_npar mX11_alike.1 = some 2 by decide +kernel) (show 1 ≤ 8 by decide) rfl dL_851 (fun H2 locs2 hP2 hS2 => ?_)
  exact lv_icmp_eq (tgt := 1513) hx hb dL_854 (by decide) (fun _ => kk g2 H2 locs2 hg2 hI2 hP2 hS2) (fun cz => absurd rfl cz)
set_option maxHeartbeats 4000000 in
set_option maxRecDepth 100000 in
theorem law_17 (X : lw_cx p s m c b L xs ρ cA D) (hR : 62 ≤ R.frames ∧ 64 * 62 ≤ R.locals ∧ cells ≤ R.cells ∧ slots ≤ R.slots) (hI : am_ag Inv jX10_writings jX11_writings 2) (hi : i + 6 ≤ L) (hL : L ≤ 3072) {g : am_W} {H : Heap} {locs : List Loc} {ls : Array Slot} (hg0 : g.length = 107) (hInv : Inv g) (hP0 : va_P D am_cl (am_lay ρ cA g) H) (hS0 : va_S (fun q => s.heap.size ≤ q) s.heap H locs) (hl : lv_has ls 4 [(0, .ref b), (1, .ref (ρ 0)), (2, .ref (ρ 88)), (3, .int (nI i))])
    (kk : ∀ (g2 : am_W) (H2 : Heap) (locs2 : List Loc), g2.length = 107 → Inv g2 → va_P D am_cl (am_lay ρ cA g2) H2 → va_S (fun q => s.heap.size ≤ q) s.heap H2 locs2 → W p l e R s m #[Value.ref b] below meth c H2 locs2 cells slots Q (F0 m 1513 ls [])) : W p l e R s m #[Value.ref b] below meth c H locs cells slots Q (F0 m 859 ls []) := by
  obtain ⟨v, g1, g2, c1, c2, hI2⟩ := hI g [xs (nI i + 1).toNatClampNeg, xs (nI i + 2).toNatClampNeg] rfl hg0 hInv
  have hg1 : g1.length = 107 := (am_cal_kp am_mt 60 _ _ _ _ c1).trans hg0
  have hg2 : g2.length = 107 := (am_cal_kp am_mt 60 _ _ _ _ c2).trans hg1
  have hx := X.1
  have hb := X.2.1
  have hX := X.2.2.2.2.2.2.2.1
  have hbl := X.2.2.2.2.2.2.2.2.1
  have hbA : ¬ (fun q : Nat => s.heap.size ≤ q) b := Nat.not_le.mpr hbl
  refine lv_aload_n hx hb dL_859 rfl (lv_at hl 1 rfl) ?_
  refine lv_aload_n hx hb dL_860 rfl (lv_at hl 0 rfl) ?_
  refine lv_iload_n hx hb dL_861 rfl (lv_at hl 3 rfl) ?_
  refine lv_iconst (v := 1) hx hb dL_862 (by decide) ?_
  refine lv_iadd hx hb dL_863 ?_
  refine va_sld hx hb hX hbl hbA hS0 (lw_in (k := 1) rfl hi hL (by decide)) dL_864 ?_
  refine lv_aload_n hx hb dL_865 rfl (lv_at hl 0 rfl) ?_
  refine lv_iload_n hx hb dL_866 rfl (lv_at hl 3 rfl) ?_
  refine lv_iconst (v := 2) hx hb dL_867 (by decide) ?_
  refine lv_iadd hx hb dL_868 ?_
  refine va_sld hx hb hX hbl hbA hS0 (lw_in (k := 2) rfl hi hL (by decide)) dL_869 ?_
  refine am_callL X hR hP0 hg0 hS0 hl.1 (j := jX10_writings) (N := mX10_writings) (q := 0) (rest := []) (hh := 670) rfl c1 (by decide +kernel) (by decide) (show am_npar mX10_writings.1 = some 2 by decide +kernel) (Nat.zero_le _) rfl dL_870 (fun H1 locs1 hP1 hS1 => ?_)
  refine lv_aload_n hx hb dL_873 rfl (lv_at hl 2 rfl) ?_
  refine lv_aload_n hx hb dL_874 rfl (lv_at hl 0 rfl) ?_
  refine lv_iload_n hx hb dL_875 rfl (lv_at hl 3 rfl) ?_
  refine lv_iconst (v := 1) hx hb dL_876 (by decide) ?_
  refine lv_iadd hx hb dL_877 ?_
  refine va_sld hx hb hX hbl hbA hS1 (lw_in (k := 1) rfl hi hL (by decide)) dL_878 ?_
  refine lv_aload_n hx hb dL_879 rfl (lv_at hl 0 rfl) ?_
  refine lv_iload_n hx hb dL_880 rfl (lv_at hl 3 rfl) ?_
  refine lv_iconst (v := 2) hx hb dL_881 (by decide) ?_
  refine lv_iadd hx hb dL_882 ?_
  refine va_sld hx hb hX hbl hbA hS1 (lw_in (k := 2) rfl hi hL (by decide)) dL_883 ?_
  refine am_callL X hR hP1 hg1 hS1 hl.1 (j := jX11_writings) (N := mX11_writings) (q := 88) (rest := [.int v]) (hh := 1143) rfl c2 (by decide +kernel) (by decide) (show am_npar mX11_writings.1 = some 2 by decide +kernel) (show 1 ≤ 8 by decide) rfl dL_884 (fun H2 locs2 hP2 hS2 => ?_)
  exact lv_icmp_eq (tgt := 1513) hx hb dL_887 (by decide) (fun _ => kk g2 H2 locs2 hg2 hI2 hP2 hS2) (fun cz => absurd rfl cz)
set_option maxHeartbeats 4000000 in
set_option maxRecDepth 100000 in
theorem law_18 (X : lw_cx p s m c b L xs ρ cA D) (hR : 62 ≤ R.frames ∧ 64 * 62 ≤ R.locals ∧ cells ≤ R.cells ∧ slots ≤ R.slots) (hI : am_ag Inv jX10_writes jX11_writes 3) (hi : i + 6 ≤ L) (hL : L ≤ 3072) {g : am_W} {H : Heap} {locs : List Loc} {ls : Array Slot} (hg0 : g.length = 107) (hInv : Inv g) (hP0 : va_P D am_cl (am_lay ρ cA g) H) (hS0 : va_S (fun q => s.heap.size ≤ q) s.heap H locs) (hl : lv_has ls 4 [(0, .ref b), (1, .ref (ρ 0)), (2, .ref (ρ 88)), (3, .int (nI i))])
    (kk : ∀ (g2 : am_W) (H2 : Heap) (locs2 : List Loc), g2.length = 107 → Inv g2 → va_P D am_cl (am_lay ρ cA g2) H2 → va_S (fun q => s.heap.size ≤ q) s.heap H2 locs2 → W p l e R s m #[Value.ref b] below meth c H2 locs2 cells slots Q (F0 m 1513 ls [])) : W p l e R s m #[Value.ref b] below meth c H locs cells slots Q (F0 m 892 ls []) := by
  obtain ⟨v, g1, g2, c1, c2, hI2⟩ := hI g [xs (nI i + 1).toNatClampNeg, xs (nI i + 2).toNatClampNeg, xs (nI i + 3).toNatClampNeg] rfl hg0 hInv
  have hg1 : g1.length = 107 := (am_cal_kp am_mt 60 _ _ _ _ c1).trans hg0
  have hg2 : g2.length = 107 := (am_cal_kp am_mt 60 _ _ _ _ c2).trans hg1
  have hx := X.1
  have hb := X.2.1
  have hX := X.2.2.2.2.2.2.2.1
  have hbl := X.2.2.2.2.2.2.2.2.1
  have hbA : ¬ (fun q : Nat => s.heap.size ≤ q) b := Nat.not_le.mpr hbl
  refine lv_aload_n hx hb dL_892 rfl (lv_at hl 1 rfl) ?_
  refine lv_aload_n hx hb dL_893 rfl (lv_at hl 0 rfl) ?_
  refine lv_iload_n hx hb dL_894 rfl (lv_at hl 3 rfl) ?_
  refine lv_iconst (v := 1) hx hb dL_895 (by decide) ?_
  refine lv_iadd hx hb dL_896 ?_
  refine va_sld hx hb hX hbl hbA hS0 (lw_in (k := 1) rfl hi hL (by decide)) dL_897 ?_
  refine lv_aload_n hx hb dL_898 rfl (lv_at hl 0 rfl) ?_
  refine lv_iload_n hx hb dL_899 rfl (lv_at hl 3 rfl) ?_
  refine lv_iconst (v := 2) hx hb dL_900 (by decide) ?_
  refine lv_iadd hx hb dL_901 ?_
  refine va_sld hx hb hX hbl hbA hS0 (lw_in (k := 2) rfl hi hL (by decide)) dL_902 ?_
  refine lv_aload_n hx hb dL_903 rfl (lv_at hl 0 rfl) ?_
  refine lv_iload_n hx hb dL_904 rfl (lv_at hl 3 rfl) ?_
  refine lv_iconst (v := 3) hx hb dL_905 (by decide) ?_
  refine lv_iadd hx hb dL_906 ?_
  refine va_sld hx hb hX hbl hbA hS0 (lw_in (k := 3) rfl hi hL (by decide)) dL_907 ?_
  refine am_callL X hR hP0 hg0 hS0 hl.1 (j := jX10_writes) (N := mX10_writes) (q := 0) (rest := []) (hh := 728) rfl c1 (by decide +kernel) (by decide) (show am_npar mX10_writes.1 = some 3 by decide +kernel) (Nat.zero_le _) rfl dL_908 (fun H1 locs1 hP1 hS1 => ?_)
  refine lv_aload_n hx hb dL_911 rfl (lv_at hl 2 rfl) ?_
  refine lv_aload_n hx hb dL_912 rfl (lv_at hl 0 rfl) ?_
  refine lv_iload_n hx hb dL_913 rfl (lv_at hl 3 rfl) ?_
  refine lv_iconst (v := 1) hx hb dL_914 (by decide) ?_
  refine lv_iadd hx hb dL_915 ?_
  refine va_sld hx hb hX hbl hbA hS1 (lw_in (k := 1) rfl hi hL (by decide)) dL_916 ?_
  refine lv_aload_n hx hb dL_917 rfl (lv_at hl 0 rfl) ?_
  refine lv_iload_n hx hb dL_918 rfl (lv_at hl 3 rfl) ?_
  refine lv_iconst (v := 2) hx hb dL_919 (by decide) ?_
  refine lv_iadd hx hb dL_920 ?_
  refine va_sld hx hb hX hbl hbA hS1 (lw_in (k := 2) rfl hi hL (by decide)) dL_921 ?_
  refine lv_aload_n hx hb dL_922 rfl (lv_at hl 0 rfl) ?_
  refine lv_iload_n hx hb dL_923 rfl (lv_at hl 3 rfl) ?_
  refine lv_iconst (v := 3) hx hb dL_924 (by decide) ?_
  refine lv_iadd hx hb dL_925 ?_
  refine va_sld hx hb hX hbl hbA hS1 (lw_in (k := 3) rfl hi hL (by decide)) dL_926 ?_
  refine am_callL X hR hP1 hg1 hS1 hl.1 (j := jX11_writes) (N := mX11_writes) (q := 88) (rest := [.int v]) (hh := 1172) rfl c2 (by decide +kernel) (by decide) (show am_npar mX11_writes.1 = some 3 by decide +kernel) (show 1 ≤ 8 by decide) rfl dL_927 (fun H2 locs2 hP2 hS2 => ?_)
  exact lv_icmp_eq (tgt := 1513) hx hb dL_930 (by decide) (fun _ => kk g2 H2 locs2 hg2 hI2 hP2 hS2) (fun cz => absurd rfl cz)
set_option maxHeartbeats 4000000 in
set_option maxRecDepth 100000 in
theorem law_19 (X : lw_cx p s m c b L xs ρ cA D) (hR : 62 ≤ R.frames ∧ 64 * 62 ≤ R.locals ∧ cells ≤ R.cells ∧ slots ≤ R.slots) (hI : am_ag Inv jX10_clash jX11_clash 1) (hi : i + 6 ≤ L) (hL : L ≤ 3072) {g : am_W} {H : Heap} {locs : List Loc} {ls : Array Slot} (hg0 : g.length = 107) (hInv : Inv g) (hP0 : va_P D am_cl (am_lay ρ cA g) H) (hS0 : va_S (fun q => s.heap.size ≤ q) s.heap H locs) (hl : lv_has ls 4 [(0, .ref b), (1, .ref (ρ 0)), (2, .ref (ρ 88)), (3, .int (nI i))])
    (kk : ∀ (g2 : am_W) (H2 : Heap) (locs2 : List Loc), g2.length = 107 → Inv g2 → va_P D am_cl (am_lay ρ cA g2) H2 → va_S (fun q => s.heap.size ≤ q) s.heap H2 locs2 → W p l e R s m #[Value.ref b] below meth c H2 locs2 cells slots Q (F0 m 1513 ls [])) : W p l e R s m #[Value.ref b] below meth c H locs cells slots Q (F0 m 935 ls []) := by
  obtain ⟨v, g1, g2, c1, c2, hI2⟩ := hI g [xs (nI i + 1).toNatClampNeg] rfl hg0 hInv
  have hg1 : g1.length = 107 := (am_cal_kp am_mt 60 _ _ _ _ c1).trans hg0
  have hg2 : g2.length = 107 := (am_cal_kp am_mt 60 _ _ _ _ c2).trans hg1
  have hx := X.1
  have hb := X.2.1
  have hX := X.2.2.2.2.2.2.2.1
  have hbl := X.2.2.2.2.2.2.2.2.1
  have hbA : ¬ (fun q : Nat => s.heap.size ≤ q) b := Nat.not_le.mpr hbl
  refine lv_aload_n hx hb dL_935 rfl (lv_at hl 1 rfl) ?_
  refine lv_aload_n hx hb dL_936 rfl (lv_at hl 0 rfl) ?_
  refine lv_iload_n hx hb dL_937 rfl (lv_at hl 3 rfl) ?_
  refine lv_iconst (v := 1) hx hb dL_938 (by decide) ?_
  refine lv_iadd hx hb dL_939 ?_
  refine va_sld hx hb hX hbl hbA hS0 (lw_in (k := 1) rfl hi hL (by decide)) dL_940 ?_
  refine am_callL X hR hP0 hg0 hS0 hl.1 (j := jX10_clash) (N := mX10_clash) (q := 0) (rest := []) (hh := 745) rfl c1 (by decide +kernel) (by decide) (show am_npar mX10_clash.1 = some 1 by decide +kernel) (Nat.zero_le _) rfl dL_941 (fun H1 locs1 hP1 hS1 => ?_)
  refine lv_aload_n hx hb dL_944 rfl (lv_at hl 2 rfl) ?_
  refine lv_aload_n hx hb dL_945 rfl (lv_at hl 0 rfl) ?_
  refine lv_iload_n hx hb dL_946 rfl (lv_at hl 3 rfl) ?_
  refine lv_iconst (v := 1) hx hb dL_947 (by decide) ?_
  refine lv_iadd hx hb dL_948 ?_
  refine va_sld hx hb hX hbl hbA hS1 (lw_in (k := 1) rfl hi hL (by decide)) dL_949 ?_
  refine am_callL X hR hP1 hg1 hS1 hl.1 (j := jX11_clash) (N := mX11_clash) (q := 88) (rest := [.int v]) (hh := 1180) rfl c2 (by decide +kernel) (by decide) (show am_npar mX11_clash.1 = some 1 by decide +kernel) (show 1 ≤ 8 by decide) rfl dL_950 (fun H2 locs2 hP2 hS2 => ?_)
  exact lv_icmp_eq (tgt := 1513) hx hb dL_953 (by decide) (fun _ => kk g2 H2 locs2 hg2 hI2 hP2 hS2) (fun cz => absurd rfl cz)
set_option maxHeartbeats 4000000 in
set_option maxRecDepth 100000 in
theorem law_20 (X : lw_cx p s m c b L xs ρ cA D) (hR : 62 ≤ R.frames ∧ 64 * 62 ≤ R.locals ∧ cells ≤ R.cells ∧ slots ≤ R.slots) (hI : am_ag Inv jX10_excluded jX11_excluded 3) (hi : i + 6 ≤ L) (hL : L ≤ 3072) {g : am_W} {H : Heap} {locs : List Loc} {ls : Array Slot} (hg0 : g.length = 107) (hInv : Inv g) (hP0 : va_P D am_cl (am_lay ρ cA g) H) (hS0 : va_S (fun q => s.heap.size ≤ q) s.heap H locs) (hl : lv_has ls 4 [(0, .ref b), (1, .ref (ρ 0)), (2, .ref (ρ 88)), (3, .int (nI i))])
    (kk : ∀ (g2 : am_W) (H2 : Heap) (locs2 : List Loc), g2.length = 107 → Inv g2 → va_P D am_cl (am_lay ρ cA g2) H2 → va_S (fun q => s.heap.size ≤ q) s.heap H2 locs2 → W p l e R s m #[Value.ref b] below meth c H2 locs2 cells slots Q (F0 m 1513 ls [])) : W p l e R s m #[Value.ref b] below meth c H locs cells slots Q (F0 m 958 ls []) := by
  obtain ⟨v, g1, g2, c1, c2, hI2⟩ := hI g [xs (nI i + 1).toNatClampNeg, xs (nI i + 2).toNatClampNeg, xs (nI i + 3).toNatClampNeg] rfl hg0 hInv
  have hg1 : g1.length = 107 := (am_cal_kp am_mt 60 _ _ _ _ c1).trans hg0
  have hg2 : g2.length = 107 := (am_cal_kp am_mt 60 _ _ _ _ c2).trans hg1
  have hx := X.1
  have hb := X.2.1
  have hX := X.2.2.2.2.2.2.2.1
  have hbl := X.2.2.2.2.2.2.2.2.1
  have hbA : ¬ (fun q : Nat => s.heap.size ≤ q) b := Nat.not_le.mpr hbl
  refine lv_aload_n hx hb dL_958 rfl (lv_at hl 1 rfl) ?_
  refine lv_aload_n hx hb dL_959 rfl (lv_at hl 0 rfl) ?_
  refine lv_iload_n hx hb dL_960 rfl (lv_at hl 3 rfl) ?_
  refine lv_iconst (v := 1) hx hb dL_961 (by decide) ?_
  refine lv_iadd hx hb dL_962 ?_
  refine va_sld hx hb hX hbl hbA hS0 (lw_in (k := 1) rfl hi hL (by decide)) dL_963 ?_
  refine lv_aload_n hx hb dL_964 rfl (lv_at hl 0 rfl) ?_
  refine lv_iload_n hx hb dL_965 rfl (lv_at hl 3 rfl) ?_
  refine lv_iconst (v := 2) hx hb dL_966 (by decide) ?_
  refine lv_iadd hx hb dL_967 ?_
  refine va_sld hx hb hX hbl hbA hS0 (lw_in (k := 2) rfl hi hL (by decide)) dL_968 ?_
  refine lv_aload_n hx hb dL_969 rfl (lv_at hl 0 rfl) ?_
  refine lv_iload_n hx hb dL_970 rfl (lv_at hl 3 rfl) ?_
  refine lv_iconst (v := 3) hx hb dL_971 (by decide) ?_
  refine lv_iadd hx hb dL_972 ?_
  refine va_sld hx hb hX hbl hbA hS0 (lw_in (k := 3) rfl hi hL (by decide)) dL_973 ?_
  refine am_callL X hR hP0 hg0 hS0 hl.1 (j := jX10_excluded) (N := mX10_excluded) (q := 0) (rest := []) (hh := 750) rfl c1 (by decide +kernel) (by decide) (show am_npar mX10_excluded.1 = some 3 by decide +kernel) (Nat.zero_le _) rfl dL_974 (fun H1 locs1 hP1 hS1 => ?_)
  refine lv_aload_n hx hb dL_977 rfl (lv_at hl 2 rfl) ?_
  refine lv_aload_n hx hb dL_978 rfl (lv_at hl 0 rfl) ?_
  refine lv_iload_n hx hb dL_979 rfl (lv_at hl 3 rfl) ?_
  refine lv_iconst (v := 1) hx hb dL_980 (by decide) ?_
  refine lv_iadd hx hb dL_981 ?_
  refine va_sld hx hb hX hbl hbA hS1 (lw_in (k := 1) rfl hi hL (by decide)) dL_982 ?_
  refine lv_aload_n hx hb dL_983 rfl (lv_at hl 0 rfl) ?_
  refine lv_iload_n hx hb dL_984 rfl (lv_at hl 3 rfl) ?_
  refine lv_iconst (v := 2) hx hb dL_985 (by decide) ?_
  refine lv_iadd hx hb dL_986 ?_
  refine va_sld hx hb hX hbl hbA hS1 (lw_in (k := 2) rfl hi hL (by decide)) dL_987 ?_
  refine lv_aload_n hx hb dL_988 rfl (lv_at hl 0 rfl) ?_
  refine lv_iload_n hx hb dL_989 rfl (lv_at hl 3 rfl) ?_
  refine lv_iconst (v := 3) hx hb dL_990 (by decide) ?_
  refine lv_iadd hx hb dL_991 ?_
  refine va_sld hx hb hX hbl hbA hS1 (lw_in (k := 3) rfl hi hL (by decide)) dL_992 ?_
  refine am_callL X hR hP1 hg1 hS1 hl.1 (j := jX11_excluded) (N := mX11_excluded) (q := 88) (rest := [.int v]) (hh := 1184) rfl c2 (by decide +kernel) (by decide) (show am_npar mX11_excluded.1 = some 3 by decide +kernel) (show 1 ≤ 8 by decide) rfl dL_993 (fun H2 locs2 hP2 hS2 => ?_)
  exact lv_icmp_eq (tgt := 1513) hx hb dL_996 (by decide) (fun _ => kk g2 H2 locs2 hg2 hI2 hP2 hS2) (fun cz => absurd rfl cz)
set_option maxHeartbeats 4000000 in
set_option maxRecDepth 100000 in
theorem law_21 (X : lw_cx p s m c b L xs ρ cA D) (hR : 62 ≤ R.frames ∧ 64 * 62 ≤ R.locals ∧ cells ≤ R.cells ∧ slots ≤ R.slots) (hI : am_ag Inv jX10_seed jX11_seed 1) (hi : i + 6 ≤ L) (hL : L ≤ 3072) {g : am_W} {H : Heap} {locs : List Loc} {ls : Array Slot} (hg0 : g.length = 107) (hInv : Inv g) (hP0 : va_P D am_cl (am_lay ρ cA g) H) (hS0 : va_S (fun q => s.heap.size ≤ q) s.heap H locs) (hl : lv_has ls 4 [(0, .ref b), (1, .ref (ρ 0)), (2, .ref (ρ 88)), (3, .int (nI i))])
    (kk : ∀ (g2 : am_W) (H2 : Heap) (locs2 : List Loc), g2.length = 107 → Inv g2 → va_P D am_cl (am_lay ρ cA g2) H2 → va_S (fun q => s.heap.size ≤ q) s.heap H2 locs2 → W p l e R s m #[Value.ref b] below meth c H2 locs2 cells slots Q (F0 m 1513 ls [])) : W p l e R s m #[Value.ref b] below meth c H locs cells slots Q (F0 m 1001 ls []) := by
  obtain ⟨v, g1, g2, c1, c2, hI2⟩ := hI g [xs (nI i + 1).toNatClampNeg] rfl hg0 hInv
  have hg1 : g1.length = 107 := (am_cal_kp am_mt 60 _ _ _ _ c1).trans hg0
  have hg2 : g2.length = 107 := (am_cal_kp am_mt 60 _ _ _ _ c2).trans hg1
  have hx := X.1
  have hb := X.2.1
  have hX := X.2.2.2.2.2.2.2.1
  have hbl := X.2.2.2.2.2.2.2.2.1
  have hbA : ¬ (fun q : Nat => s.heap.size ≤ q) b := Nat.not_le.mpr hbl
  refine lv_aload_n hx hb dL_1001 rfl (lv_at hl 1 rfl) ?_
  refine lv_aload_n hx hb dL_1002 rfl (lv_at hl 0 rfl) ?_
  refine lv_iload_n hx hb dL_1003 rfl (lv_at hl 3 rfl) ?_
  refine lv_iconst (v := 1) hx hb dL_1004 (by decide) ?_
  refine lv_iadd hx hb dL_1005 ?_
  refine va_sld hx hb hX hbl hbA hS0 (lw_in (k := 1) rfl hi hL (by decide)) dL_1006 ?_
  refine am_callL X hR hP0 hg0 hS0 hl.1 (j := jX10_seed) (N := mX10_seed) (q := 0) (rest := []) (hh := 782) rfl c1 (by decide +kernel) (by decide) (show am_npar mX10_seed.1 = some 1 by decide +kernel) (Nat.zero_le _) rfl dL_1007 (fun H1 locs1 hP1 hS1 => ?_)
  refine lv_aload_n hx hb dL_1010 rfl (lv_at hl 2 rfl) ?_
  refine lv_aload_n hx hb dL_1011 rfl (lv_at hl 0 rfl) ?_
  refine lv_iload_n hx hb dL_1012 rfl (lv_at hl 3 rfl) ?_
  refine lv_iconst (v := 1) hx hb dL_1013 (by decide) ?_
  refine lv_iadd hx hb dL_1014 ?_
  refine va_sld hx hb hX hbl hbA hS1 (lw_in (k := 1) rfl hi hL (by decide)) dL_1015 ?_
  refine am_callL X hR hP1 hg1 hS1 hl.1 (j := jX11_seed) (N := mX11_seed) (q := 88) (rest := [.int v]) (hh := 1200) rfl c2 (by decide +kernel) (by decide) (show am_npar mX11_seed.1 = some 1 by decide +kernel) (show 1 ≤ 8 by decide) rfl dL_1016 (fun H2 locs2 hP2 hS2 => ?_)
  exact lv_icmp_eq (tgt := 1513) hx hb dL_1019 (by decide) (fun _ => kk g2 H2 locs2 hg2 hI2 hP2 hS2) (fun cz => absurd rfl cz)
set_option maxHeartbeats 4000000 in
set_option maxRecDepth 100000 in
theorem law_22 (X : lw_cx p s m c b L xs ρ cA D) (hR : 62 ≤ R.frames ∧ 64 * 62 ≤ R.locals ∧ cells ≤ R.cells ∧ slots ≤ R.slots) (hI : am_ag Inv jX10_deal jX11_deal 4) (hi : i + 6 ≤ L) (hL : L ≤ 3072) {g : am_W} {H : Heap} {locs : List Loc} {ls : Array Slot} (hg0 : g.length = 107) (hInv : Inv g) (hP0 : va_P D am_cl (am_lay ρ cA g) H) (hS0 : va_S (fun q => s.heap.size ≤ q) s.heap H locs) (hl : lv_has ls 4 [(0, .ref b), (1, .ref (ρ 0)), (2, .ref (ρ 88)), (3, .int (nI i))])
    (kk : ∀ (g2 : am_W) (H2 : Heap) (locs2 : List Loc), g2.length = 107 → Inv g2 → va_P D am_cl (am_lay ρ cA g2) H2 → va_S (fun q => s.heap.size ≤ q) s.heap H2 locs2 → W p l e R s m #[Value.ref b] below meth c H2 locs2 cells slots Q (F0 m 1513 ls [])) : W p l e R s m #[Value.ref b] below meth c H locs cells slots Q (F0 m 1024 ls []) := by
  obtain ⟨v, g1, g2, c1, c2, hI2⟩ := hI g [xs (nI i + 1).toNatClampNeg, xs (nI i + 2).toNatClampNeg, xs (nI i + 3).toNatClampNeg, xs (nI i + 4).toNatClampNeg] rfl hg0 hInv
  have hg1 : g1.length = 107 := (am_cal_kp am_mt 60 _ _ _ _ c1).trans hg0
  have hg2 : g2.length = 107 := (am_cal_kp am_mt 60 _ _ _ _ c2).trans hg1
  have hx := X.1
  have hb := X.2.1
  have hX := X.2.2.2.2.2.2.2.1
  have hbl := X.2.2.2.2.2.2.2.2.1
  have hbA : ¬ (fun q : Nat => s.heap.size ≤ q) b := Nat.not_le.mpr hbl
  refine lv_aload_n hx hb dL_1024 rfl (lv_at hl 1 rfl) ?_
  refine lv_aload_n hx hb dL_1025 rfl (lv_at hl 0 rfl) ?_
  refine lv_iload_n hx hb dL_1026 rfl (lv_at hl 3 rfl) ?_
  refine lv_iconst (v := 1) hx hb dL_1027 (by decide) ?_
  refine lv_iadd hx hb dL_1028 ?_
  refine va_sld hx hb hX hbl hbA hS0 (lw_in (k := 1) rfl hi hL (by decide)) dL_1029 ?_
  refine lv_aload_n hx hb dL_1030 rfl (lv_at hl 0 rfl) ?_
  refine lv_iload_n hx hb dL_1031 rfl (lv_at hl 3 rfl) ?_
  refine lv_iconst (v := 2) hx hb dL_1032 (by decide) ?_
  refine lv_iadd hx hb dL_1033 ?_
  refine va_sld hx hb hX hbl hbA hS0 (lw_in (k := 2) rfl hi hL (by decide)) dL_1034 ?_
  refine lv_aload_n hx hb dL_1035 rfl (lv_at hl 0 rfl) ?_
  refine lv_iload_n hx hb dL_1036 rfl (lv_at hl 3 rfl) ?_
  refine lv_iconst (v := 3) hx hb dL_1037 (by decide) ?_
  refine lv_iadd hx hb dL_1038 ?_
  refine va_sld hx hb hX hbl hbA hS0 (lw_in (k := 3) rfl hi hL (by decide)) dL_1039 ?_
  refine lv_aload_n hx hb dL_1040 rfl (lv_at hl 0 rfl) ?_
  refine lv_iload_n hx hb dL_1041 rfl (lv_at hl 3 rfl) ?_
  refine lv_iconst (v := 4) hx hb dL_1042 (by decide) ?_
  refine lv_iadd hx hb dL_1043 ?_
  refine va_sld hx hb hX hbl hbA hS0 (lw_in (k := 4) rfl hi hL (by decide)) dL_1044 ?_
  refine am_callL X hR hP0 hg0 hS0 hl.1 (j := jX10_deal) (N := mX10_deal) (q := 0) (rest := []) (hh := 786) rfl c1 (by decide +kernel) (by decide) (show am_npar mX10_deal.1 = some 4 by decide +kernel) (Nat.zero_le _) rfl dL_1045 (fun H1 locs1 hP1 hS1 => ?_)
  refine lv_aload_n hx hb dL_1048 rfl (lv_at hl 2 rfl) ?_
  refine lv_aload_n hx hb dL_1049 rfl (lv_at hl 0 rfl) ?_
  refine lv_iload_n hx hb dL_1050 rfl (lv_at hl 3 rfl) ?_
  refine lv_iconst (v := 1) hx hb dL_1051 (by decide) ?_
  refine lv_iadd hx hb dL_1052 ?_
  refine va_sld hx hb hX hbl hbA hS1 (lw_in (k := 1) rfl hi hL (by decide)) dL_1053 ?_
  refine lv_aload_n hx hb dL_1054 rfl (lv_at hl 0 rfl) ?_
  refine lv_iload_n hx hb dL_1055 rfl (lv_at hl 3 rfl) ?_
  refine lv_iconst (v := 2) hx hb dL_1056 (by decide) ?_
  refine lv_iadd hx hb dL_1057 ?_
  refine va_sld hx hb hX hbl hbA hS1 (lw_in (k := 2) rfl hi hL (by decide)) dL_1058 ?_
  refine lv_aload_n hx hb dL_1059 rfl (lv_at hl 0 rfl) ?_
  refine lv_iload_n hx hb dL_1060 rfl (lv_at hl 3 rfl) ?_
  refine lv_iconst (v := 3) hx hb dL_1061 (by decide) ?_
  refine lv_iadd hx hb dL_1062 ?_
  refine va_sld hx hb hX hbl hbA hS1 (lw_in (k := 3) rfl hi hL (by decide)) dL_1063 ?_
  refine lv_aload_n hx hb dL_1064 rfl (lv_at hl 0 rfl) ?_
  refine lv_iload_n hx hb dL_1065 rfl (lv_at hl 3 rfl) ?_
  refine lv_iconst (v := 4) hx hb dL_1066 (by decide) ?_
  refine lv_iadd hx hb dL_1067 ?_
  refine va_sld hx hb hX hbl hbA hS1 (lw_in (k := 4) rfl hi hL (by decide)) dL_1068 ?_
  refine am_callL X hR hP1 hg1 hS1 hl.1 (j := jX11_deal) (N := mX11_deal) (q := 88) (rest := [.int v]) (hh := 1204) rfl c2 (by decide +kernel) (by decide) (show am_npar mX11_deal.1 = some 4 by decide +kernel) (show 1 ≤ 8 by decide) rfl dL_1069 (fun H2 locs2 hP2 hS2 => ?_)
  exact lv_icmp_eq (tgt := 1513) hx hb dL_1072 (by decide) (fun _ => kk g2 H2 locs2 hg2 hI2 hP2 hS2) (fun cz => absurd rfl cz)
set_option maxHeartbeats 4000000 in
set_option maxRecDepth 100000 in
theorem law_23 (X : lw_cx p s m c b L xs ρ cA D) (hR : 62 ≤ R.frames ∧ 64 * 62 ≤ R.locals ∧ cells ≤ R.cells ∧ slots ≤ R.slots) (hI : am_ag Inv jX10_chance jX11_chance 5) (hi : i + 6 ≤ L) (hL : L ≤ 3072) {g : am_W} {H : Heap} {locs : List Loc} {ls : Array Slot} (hg0 : g.length = 107) (hInv : Inv g) (hP0 : va_P D am_cl (am_lay ρ cA g) H) (hS0 : va_S (fun q => s.heap.size ≤ q) s.heap H locs) (hl : lv_has ls 4 [(0, .ref b), (1, .ref (ρ 0)), (2, .ref (ρ 88)), (3, .int (nI i))])
    (kk : ∀ (g2 : am_W) (H2 : Heap) (locs2 : List Loc), g2.length = 107 → Inv g2 → va_P D am_cl (am_lay ρ cA g2) H2 → va_S (fun q => s.heap.size ≤ q) s.heap H2 locs2 → W p l e R s m #[Value.ref b] below meth c H2 locs2 cells slots Q (F0 m 1513 ls [])) : W p l e R s m #[Value.ref b] below meth c H locs cells slots Q (F0 m 1077 ls []) := by
  obtain ⟨v, g1, g2, c1, c2, hI2⟩ := hI g [xs (nI i + 1).toNatClampNeg, xs (nI i + 2).toNatClampNeg, xs (nI i + 3).toNatClampNeg, xs (nI i + 4).toNatClampNeg, xs (nI i + 5).toNatClampNeg] rfl hg0 hInv
  have hg1 : g1.length = 107 := (am_cal_kp am_mt 60 _ _ _ _ c1).trans hg0
  have hg2 : g2.length = 107 := (am_cal_kp am_mt 60 _ _ _ _ c2).trans hg1
  have hx := X.1
  have hb := X.2.1
  have hX := X.2.2.2.2.2.2.2.1
  have hbl := X.2.2.2.2.2.2.2.2.1
  have hbA : ¬ (fun q : Nat => s.heap.size ≤ q) b := Nat.not_le.mpr hbl
  refine lv_aload_n hx hb dL_1077 rfl (lv_at hl 1 rfl) ?_
  refine lv_aload_n hx hb dL_1078 rfl (lv_at hl 0 rfl) ?_
  refine lv_iload_n hx hb dL_1079 rfl (lv_at hl 3 rfl) ?_
  refine lv_iconst (v := 1) hx hb dL_1080 (by decide) ?_
  refine lv_iadd hx hb dL_1081 ?_
  refine va_sld hx hb hX hbl hbA hS0 (lw_in (k := 1) rfl hi hL (by decide)) dL_1082 ?_
  refine lv_aload_n hx hb dL_1083 rfl (lv_at hl 0 rfl) ?_
  refine lv_iload_n hx hb dL_1084 rfl (lv_at hl 3 rfl) ?_
  refine lv_iconst (v := 2) hx hb dL_1085 (by decide) ?_
  refine lv_iadd hx hb dL_1086 ?_
  refine va_sld hx hb hX hbl hbA hS0 (lw_in (k := 2) rfl hi hL (by decide)) dL_1087 ?_
  refine lv_aload_n hx hb dL_1088 rfl (lv_at hl 0 rfl) ?_
  refine lv_iload_n hx hb dL_1089 rfl (lv_at hl 3 rfl) ?_
  refine lv_iconst (v := 3) hx hb dL_1090 (by decide) ?_
  refine lv_iadd hx hb dL_1091 ?_
  refine va_sld hx hb hX hbl hbA hS0 (lw_in (k := 3) rfl hi hL (by decide)) dL_1092 ?_
  refine lv_aload_n hx hb dL_1093 rfl (lv_at hl 0 rfl) ?_
  refine lv_iload_n hx hb dL_1094 rfl (lv_at hl 3 rfl) ?_
  refine lv_iconst (v := 4) hx hb dL_1095 (by decide) ?_
  refine lv_iadd hx hb dL_1096 ?_
  refine va_sld hx hb hX hbl hbA hS0 (lw_in (k := 4) rfl hi hL (by decide)) dL_1097 ?_
  refine lv_aload_n hx hb dL_1098 rfl (lv_at hl 0 rfl) ?_
  refine lv_iload_n hx hb dL_1099 rfl (lv_at hl 3 rfl) ?_
  refine lv_iconst (v := 5) hx hb dL_1100 (by decide) ?_
  refine lv_iadd hx hb dL_1101 ?_
  refine va_sld hx hb hX hbl hbA hS0 (lw_in (k := 5) rfl hi hL (by decide)) dL_1102 ?_
  refine am_callL X hR hP0 hg0 hS0 hl.1 (j := jX10_chance) (N := mX10_chance) (q := 0) (rest := []) (hh := 800) rfl c1 (by decide +kernel) (by decide) (show am_npar mX10_chance.1 = some 5 by decide +kernel) (Nat.zero_le _) rfl dL_1103 (fun H1 locs1 hP1 hS1 => ?_)
  refine lv_aload_n hx hb dL_1106 rfl (lv_at hl 2 rfl) ?_
  refine lv_aload_n hx hb dL_1107 rfl (lv_at hl 0 rfl) ?_
  refine lv_iload_n hx hb dL_1108 rfl (lv_at hl 3 rfl) ?_
  refine lv_iconst (v := 1) hx hb dL_1109 (by decide) ?_
  refine lv_iadd hx hb dL_1110 ?_
  refine va_sld hx hb hX hbl hbA hS1 (lw_in (k := 1) rfl hi hL (by decide)) dL_1111 ?_
  refine lv_aload_n hx hb dL_1112 rfl (lv_at hl 0 rfl) ?_
  refine lv_iload_n hx hb dL_1113 rfl (lv_at hl 3 rfl) ?_
  refine lv_iconst (v := 2) hx hb dL_1114 (by decide) ?_
  refine lv_iadd hx hb dL_1115 ?_
  refine va_sld hx hb hX hbl hbA hS1 (lw_in (k := 2) rfl hi hL (by decide)) dL_1116 ?_
  refine lv_aload_n hx hb dL_1117 rfl (lv_at hl 0 rfl) ?_
  refine lv_iload_n hx hb dL_1118 rfl (lv_at hl 3 rfl) ?_
  refine lv_iconst (v := 3) hx hb dL_1119 (by decide) ?_
  refine lv_iadd hx hb dL_1120 ?_
  refine va_sld hx hb hX hbl hbA hS1 (lw_in (k := 3) rfl hi hL (by decide)) dL_1121 ?_
  refine lv_aload_n hx hb dL_1122 rfl (lv_at hl 0 rfl) ?_
  refine lv_iload_n hx hb dL_1123 rfl (lv_at hl 3 rfl) ?_
  refine lv_iconst (v := 4) hx hb dL_1124 (by decide) ?_
  refine lv_iadd hx hb dL_1125 ?_
  refine va_sld hx hb hX hbl hbA hS1 (lw_in (k := 4) rfl hi hL (by decide)) dL_1126 ?_
  refine lv_aload_n hx hb dL_1127 rfl (lv_at hl 0 rfl) ?_
  refine lv_iload_n hx hb dL_1128 rfl (lv_at hl 3 rfl) ?_
  refine lv_iconst (v := 5) hx hb dL_1129 (by decide) ?_
  refine lv_iadd hx hb dL_1130 ?_
  refine va_sld hx hb hX hbl hbA hS1 (lw_in (k := 5) rfl hi hL (by decide)) dL_1131 ?_
  refine am_callL X hR hP1 hg1 hS1 hl.1 (j := jX11_chance) (N := mX11_chance) (q := 88) (rest := [.int v]) (hh := 1216) rfl c2 (by decide +kernel) (by decide) (show am_npar mX11_chance.1 = some 5 by decide +kernel) (show 1 ≤ 8 by decide) rfl dL_1132 (fun H2 locs2 hP2 hS2 => ?_)
  exact lv_icmp_eq (tgt := 1513) hx hb dL_1135 (by decide) (fun _ => kk g2 H2 locs2 hg2 hI2 hP2 hS2) (fun cz => absurd rfl cz)
set_option maxHeartbeats 4000000 in
set_option maxRecDepth 100000 in
theorem law_24 (X : lw_cx p s m c b L xs ρ cA D) (hR : 62 ≤ R.frames ∧ 64 * 62 ≤ R.locals ∧ cells ≤ R.cells ∧ slots ≤ R.slots) (hI : am_ag Inv jX10_hold jX11_hold 3) (hi : i + 6 ≤ L) (hL : L ≤ 3072) {g : am_W} {H : Heap} {locs : List Loc} {ls : Array Slot} (hg0 : g.length = 107) (hInv : Inv g) (hP0 : va_P D am_cl (am_lay ρ cA g) H) (hS0 : va_S (fun q => s.heap.size ≤ q) s.heap H locs) (hl : lv_has ls 4 [(0, .ref b), (1, .ref (ρ 0)), (2, .ref (ρ 88)), (3, .int (nI i))])
    (kk : ∀ (g2 : am_W) (H2 : Heap) (locs2 : List Loc), g2.length = 107 → Inv g2 → va_P D am_cl (am_lay ρ cA g2) H2 → va_S (fun q => s.heap.size ≤ q) s.heap H2 locs2 → W p l e R s m #[Value.ref b] below meth c H2 locs2 cells slots Q (F0 m 1513 ls [])) : W p l e R s m #[Value.ref b] below meth c H locs cells slots Q (F0 m 1140 ls []) := by
  obtain ⟨v, g1, g2, c1, c2, hI2⟩ := hI g [xs (nI i + 1).toNatClampNeg, xs (nI i + 2).toNatClampNeg, xs (nI i + 3).toNatClampNeg] rfl hg0 hInv
  have hg1 : g1.length = 107 := (am_cal_kp am_mt 60 _ _ _ _ c1).trans hg0
  have hg2 : g2.length = 107 := (am_cal_kp am_mt 60 _ _ _ _ c2).trans hg1
  have hx := X.1
  have hb := X.2.1
  have hX := X.2.2.2.2.2.2.2.1
  have hbl := X.2.2.2.2.2.2.2.2.1
  have hbA : ¬ (fun q : Nat => s.heap.size ≤ q) b := Nat.not_le.mpr hbl
  refine lv_aload_n hx hb dL_1140 rfl (lv_at hl 1 rfl) ?_
  refine lv_aload_n hx hb dL_1141 rfl (lv_at hl 0 rfl) ?_
  refine lv_iload_n hx hb dL_1142 rfl (lv_at hl 3 rfl) ?_
  refine lv_iconst (v := 1) hx hb dL_1143 (by decide) ?_
  refine lv_iadd hx hb dL_1144 ?_
  refine va_sld hx hb hX hbl hbA hS0 (lw_in (k := 1) rfl hi hL (by decide)) dL_1145 ?_
  refine lv_aload_n hx hb dL_1146 rfl (lv_at hl 0 rfl) ?_
  refine lv_iload_n hx hb dL_1147 rfl (lv_at hl 3 rfl) ?_
  refine lv_iconst (v := 2) hx hb dL_1148 (by decide) ?_
  refine lv_iadd hx hb dL_1149 ?_
  refine va_sld hx hb hX hbl hbA hS0 (lw_in (k := 2) rfl hi hL (by decide)) dL_1150 ?_
  refine lv_aload_n hx hb dL_1151 rfl (lv_at hl 0 rfl) ?_
  refine lv_iload_n hx hb dL_1152 rfl (lv_at hl 3 rfl) ?_
  refine lv_iconst (v := 3) hx hb dL_1153 (by decide) ?_
  refine lv_iadd hx hb dL_1154 ?_
  refine va_sld hx hb hX hbl hbA hS0 (lw_in (k := 3) rfl hi hL (by decide)) dL_1155 ?_
  refine am_callL X hR hP0 hg0 hS0 hl.1 (j := jX10_hold) (N := mX10_hold) (q := 0) (rest := []) (hh := 804) rfl c1 (by decide +kernel) (by decide) (show am_npar mX10_hold.1 = some 3 by decide +kernel) (Nat.zero_le _) rfl dL_1156 (fun H1 locs1 hP1 hS1 => ?_)
  refine lv_aload_n hx hb dL_1159 rfl (lv_at hl 2 rfl) ?_
  refine lv_aload_n hx hb dL_1160 rfl (lv_at hl 0 rfl) ?_
  refine lv_iload_n hx hb dL_1161 rfl (lv_at hl 3 rfl) ?_
  refine lv_iconst (v := 1) hx hb dL_1162 (by decide) ?_
  refine lv_iadd hx hb dL_1163 ?_
  refine va_sld hx hb hX hbl hbA hS1 (lw_in (k := 1) rfl hi hL (by decide)) dL_1164 ?_
  refine lv_aload_n hx hb dL_1165 rfl (lv_at hl 0 rfl) ?_
  refine lv_iload_n hx hb dL_1166 rfl (lv_at hl 3 rfl) ?_
  refine lv_iconst (v := 2) hx hb dL_1167 (by decide) ?_
  refine lv_iadd hx hb dL_1168 ?_
  refine va_sld hx hb hX hbl hbA hS1 (lw_in (k := 2) rfl hi hL (by decide)) dL_1169 ?_
  refine lv_aload_n hx hb dL_1170 rfl (lv_at hl 0 rfl) ?_
  refine lv_iload_n hx hb dL_1171 rfl (lv_at hl 3 rfl) ?_
  refine lv_iconst (v := 3) hx hb dL_1172 (by decide) ?_
  refine lv_iadd hx hb dL_1173 ?_
  refine va_sld hx hb hX hbl hbA hS1 (lw_in (k := 3) rfl hi hL (by decide)) dL_1174 ?_
  refine am_callL X hR hP1 hg1 hS1 hl.1 (j := jX11_hold) (N := mX11_hold) (q := 88) (rest := [.int v]) (hh := 1220) rfl c2 (by decide +kernel) (by decide) (show am_npar mX11_hold.1 = some 3 by decide +kernel) (show 1 ≤ 8 by decide) rfl dL_1175 (fun H2 locs2 hP2 hS2 => ?_)
  exact lv_icmp_eq (tgt := 1513) hx hb dL_1178 (by decide) (fun _ => kk g2 H2 locs2 hg2 hI2 hP2 hS2) (fun cz => absurd rfl cz)
set_option maxHeartbeats 4000000 in
set_option maxRecDepth 100000 in
theorem law_25 (X : lw_cx p s m c b L xs ρ cA D) (hR : 62 ≤ R.frames ∧ 64 * 62 ≤ R.locals ∧ cells ≤ R.cells ∧ slots ≤ R.slots) (hI : am_ag Inv jX10_held jX11_held 2) (hi : i + 6 ≤ L) (hL : L ≤ 3072) {g : am_W} {H : Heap} {locs : List Loc} {ls : Array Slot} (hg0 : g.length = 107) (hInv : Inv g) (hP0 : va_P D am_cl (am_lay ρ cA g) H) (hS0 : va_S (fun q => s.heap.size ≤ q) s.heap H locs) (hl : lv_has ls 4 [(0, .ref b), (1, .ref (ρ 0)), (2, .ref (ρ 88)), (3, .int (nI i))])
    (kk : ∀ (g2 : am_W) (H2 : Heap) (locs2 : List Loc), g2.length = 107 → Inv g2 → va_P D am_cl (am_lay ρ cA g2) H2 → va_S (fun q => s.heap.size ≤ q) s.heap H2 locs2 → W p l e R s m #[Value.ref b] below meth c H2 locs2 cells slots Q (F0 m 1513 ls [])) : W p l e R s m #[Value.ref b] below meth c H locs cells slots Q (F0 m 1183 ls []) := by
  obtain ⟨v, g1, g2, c1, c2, hI2⟩ := hI g [xs (nI i + 1).toNatClampNeg, xs (nI i + 2).toNatClampNeg] rfl hg0 hInv
  have hg1 : g1.length = 107 := (am_cal_kp am_mt 60 _ _ _ _ c1).trans hg0
  have hg2 : g2.length = 107 := (am_cal_kp am_mt 60 _ _ _ _ c2).trans hg1
  have hx := X.1
  have hb := X.2.1
  have hX := X.2.2.2.2.2.2.2.1
  have hbl := X.2.2.2.2.2.2.2.2.1
  have hbA : ¬ (fun q : Nat => s.heap.size ≤ q) b := Nat.not_le.mpr hbl
  refine lv_aload_n hx hb dL_1183 rfl (lv_at hl 1 rfl) ?_
  refine lv_aload_n hx hb dL_1184 rfl (lv_at hl 0 rfl) ?_
  refine lv_iload_n hx hb dL_1185 rfl (lv_at hl 3 rfl) ?_
  refine lv_iconst (v := 1) hx hb dL_1186 (by decide) ?_
  refine lv_iadd hx hb dL_1187 ?_
  refine va_sld hx hb hX hbl hbA hS0 (lw_in (k := 1) rfl hi hL (by decide)) dL_1188 ?_
  refine lv_aload_n hx hb dL_1189 rfl (lv_at hl 0 rfl) ?_
  refine lv_iload_n hx hb dL_1190 rfl (lv_at hl 3 rfl) ?_
  refine lv_iconst (v := 2) hx hb dL_1191 (by decide) ?_
  refine lv_iadd hx hb dL_1192 ?_
  refine va_sld hx hb hX hbl hbA hS0 (lw_in (k := 2) rfl hi hL (by decide)) dL_1193 ?_
  refine am_callL X hR hP0 hg0 hS0 hl.1 (j := jX10_held) (N := mX10_held) (q := 0) (rest := []) (hh := 821) rfl c1 (by decide +kernel) (by decide) (show am_npar mX10_held.1 = some 2 by decide +kernel) (Nat.zero_le _) rfl dL_1194 (fun H1 locs1 hP1 hS1 => ?_)
  refine lv_aload_n hx hb dL_1197 rfl (lv_at hl 2 rfl) ?_
  refine lv_aload_n hx hb dL_1198 rfl (lv_at hl 0 rfl) ?_
  refine lv_iload_n hx hb dL_1199 rfl (lv_at hl 3 rfl) ?_
  refine lv_iconst (v := 1) hx hb dL_1200 (by decide) ?_
  refine lv_iadd hx hb dL_1201 ?_
  refine va_sld hx hb hX hbl hbA hS1 (lw_in (k := 1) rfl hi hL (by decide)) dL_1202 ?_
  refine lv_aload_n hx hb dL_1203 rfl (lv_at hl 0 rfl) ?_
  refine lv_iload_n hx hb dL_1204 rfl (lv_at hl 3 rfl) ?_
  refine lv_iconst (v := 2) hx hb dL_1205 (by decide) ?_
  refine lv_iadd hx hb dL_1206 ?_
  refine va_sld hx hb hX hbl hbA hS1 (lw_in (k := 2) rfl hi hL (by decide)) dL_1207 ?_
  refine am_callL X hR hP1 hg1 hS1 hl.1 (j := jX11_held) (N := mX11_held) (q := 88) (rest := [.int v]) (hh := 1231) rfl c2 (by decide +kernel) (by decide) (show am_npar mX11_held.1 = some 2 by decide +kernel) (show 1 ≤ 8 by decide) rfl dL_1208 (fun H2 locs2 hP2 hS2 => ?_)
  exact lv_icmp_eq (tgt := 1513) hx hb dL_1211 (by decide) (fun _ => kk g2 H2 locs2 hg2 hI2 hP2 hS2) (fun cz => absurd rfl cz)
set_option maxHeartbeats 4000000 in
set_option maxRecDepth 100000 in
theorem law_26 (X : lw_cx p s m c b L xs ρ cA D) (hR : 62 ≤ R.frames ∧ 64 * 62 ≤ R.locals ∧ cells ≤ R.cells ∧ slots ≤ R.slots) (hI : am_ag Inv jX10_take jX11_take 2) (hi : i + 6 ≤ L) (hL : L ≤ 3072) {g : am_W} {H : Heap} {locs : List Loc} {ls : Array Slot} (hg0 : g.length = 107) (hInv : Inv g) (hP0 : va_P D am_cl (am_lay ρ cA g) H) (hS0 : va_S (fun q => s.heap.size ≤ q) s.heap H locs) (hl : lv_has ls 4 [(0, .ref b), (1, .ref (ρ 0)), (2, .ref (ρ 88)), (3, .int (nI i))])
    (kk : ∀ (g2 : am_W) (H2 : Heap) (locs2 : List Loc), g2.length = 107 → Inv g2 → va_P D am_cl (am_lay ρ cA g2) H2 → va_S (fun q => s.heap.size ≤ q) s.heap H2 locs2 → W p l e R s m #[Value.ref b] below meth c H2 locs2 cells slots Q (F0 m 1513 ls [])) : W p l e R s m #[Value.ref b] below meth c H locs cells slots Q (F0 m 1216 ls []) := by
  obtain ⟨v, g1, g2, c1, c2, hI2⟩ := hI g [xs (nI i + 1).toNatClampNeg, xs (nI i + 2).toNatClampNeg] rfl hg0 hInv
  have hg1 : g1.length = 107 := (am_cal_kp am_mt 60 _ _ _ _ c1).trans hg0
  have hg2 : g2.length = 107 := (am_cal_kp am_mt 60 _ _ _ _ c2).trans hg1
  have hx := X.1
  have hb := X.2.1
  have hX := X.2.2.2.2.2.2.2.1
  have hbl := X.2.2.2.2.2.2.2.2.1
  have hbA : ¬ (fun q : Nat => s.heap.size ≤ q) b := Nat.not_le.mpr hbl
  refine lv_aload_n hx hb dL_1216 rfl (lv_at hl 1 rfl) ?_
  refine lv_aload_n hx hb dL_1217 rfl (lv_at hl 0 rfl) ?_
  refine lv_iload_n hx hb dL_1218 rfl (lv_at hl 3 rfl) ?_
  refine lv_iconst (v := 1) hx hb dL_1219 (by decide) ?_
  refine lv_iadd hx hb dL_1220 ?_
  refine va_sld hx hb hX hbl hbA hS0 (lw_in (k := 1) rfl hi hL (by decide)) dL_1221 ?_
  refine lv_aload_n hx hb dL_1222 rfl (lv_at hl 0 rfl) ?_
  refine lv_iload_n hx hb dL_1223 rfl (lv_at hl 3 rfl) ?_
  refine lv_iconst (v := 2) hx hb dL_1224 (by decide) ?_
  refine lv_iadd hx hb dL_1225 ?_
  refine va_sld hx hb hX hbl hbA hS0 (lw_in (k := 2) rfl hi hL (by decide)) dL_1226 ?_
  refine am_callL X hR hP0 hg0 hS0 hl.1 (j := jX10_take) (N := mX10_take) (q := 0) (rest := []) (hh := 833) rfl c1 (by decide +kernel) (by decide) (show am_npar mX10_take.1 = some 2 by decide +kernel) (Nat.zero_le _) rfl dL_1227 (fun H1 locs1 hP1 hS1 => ?_)
  refine lv_aload_n hx hb dL_1230 rfl (lv_at hl 2 rfl) ?_
  refine lv_aload_n hx hb dL_1231 rfl (lv_at hl 0 rfl) ?_
  refine lv_iload_n hx hb dL_1232 rfl (lv_at hl 3 rfl) ?_
  refine lv_iconst (v := 1) hx hb dL_1233 (by decide) ?_
  refine lv_iadd hx hb dL_1234 ?_
  refine va_sld hx hb hX hbl hbA hS1 (lw_in (k := 1) rfl hi hL (by decide)) dL_1235 ?_
  refine lv_aload_n hx hb dL_1236 rfl (lv_at hl 0 rfl) ?_
  refine lv_iload_n hx hb dL_1237 rfl (lv_at hl 3 rfl) ?_
  refine lv_iconst (v := 2) hx hb dL_1238 (by decide) ?_
  refine lv_iadd hx hb dL_1239 ?_
  refine va_sld hx hb hX hbl hbA hS1 (lw_in (k := 2) rfl hi hL (by decide)) dL_1240 ?_
  refine am_callL X hR hP1 hg1 hS1 hl.1 (j := jX11_take) (N := mX11_take) (q := 88) (rest := [.int v]) (hh := 1235) rfl c2 (by decide +kernel) (by decide) (show am_npar mX11_take.1 = some 2 by decide +kernel) (show 1 ≤ 8 by decide) rfl dL_1241 (fun H2 locs2 hP2 hS2 => ?_)
  exact lv_icmp_eq (tgt := 1513) hx hb dL_1244 (by decide) (fun _ => kk g2 H2 locs2 hg2 hI2 hP2 hS2) (fun cz => absurd rfl cz)
set_option maxHeartbeats 4000000 in
set_option maxRecDepth 100000 in
theorem law_27 (X : lw_cx p s m c b L xs ρ cA D) (hR : 62 ≤ R.frames ∧ 64 * 62 ≤ R.locals ∧ cells ≤ R.cells ∧ slots ≤ R.slots) (hI : am_ag Inv jX10_sheet jX11_sheet 3) (hi : i + 6 ≤ L) (hL : L ≤ 3072) {g : am_W} {H : Heap} {locs : List Loc} {ls : Array Slot} (hg0 : g.length = 107) (hInv : Inv g) (hP0 : va_P D am_cl (am_lay ρ cA g) H) (hS0 : va_S (fun q => s.heap.size ≤ q) s.heap H locs) (hl : lv_has ls 4 [(0, .ref b), (1, .ref (ρ 0)), (2, .ref (ρ 88)), (3, .int (nI i))])
    (kk : ∀ (g2 : am_W) (H2 : Heap) (locs2 : List Loc), g2.length = 107 → Inv g2 → va_P D am_cl (am_lay ρ cA g2) H2 → va_S (fun q => s.heap.size ≤ q) s.heap H2 locs2 → W p l e R s m #[Value.ref b] below meth c H2 locs2 cells slots Q (F0 m 1513 ls [])) : W p l e R s m #[Value.ref b] below meth c H locs cells slots Q (F0 m 1249 ls []) := by
  obtain ⟨v, g1, g2, c1, c2, hI2⟩ := hI g [xs (nI i + 1).toNatClampNeg, xs (nI i + 2).toNatClampNeg, xs (nI i + 3).toNatClampNeg] rfl hg0 hInv
  have hg1 : g1.length = 107 := (am_cal_kp am_mt 60 _ _ _ _ c1).trans hg0
  have hg2 : g2.length = 107 := (am_cal_kp am_mt 60 _ _ _ _ c2).trans hg1
  have hx := X.1
  have hb := X.2.1
  have hX := X.2.2.2.2.2.2.2.1
  have hbl := X.2.2.2.2.2.2.2.2.1
  have hbA : ¬ (fun q : Nat => s.heap.size ≤ q) b := Nat.not_le.mpr hbl
  refine lv_aload_n hx hb dL_1249 rfl (lv_at hl 1 rfl) ?_
  refine lv_aload_n hx hb dL_1250 rfl (lv_at hl 0 rfl) ?_
  refine lv_iload_n hx hb dL_1251 rfl (lv_at hl 3 rfl) ?_
  refine lv_iconst (v := 1) hx hb dL_1252 (by decide) ?_
  refine lv_iadd hx hb dL_1253 ?_
  refine va_sld hx hb hX hbl hbA hS0 (lw_in (k := 1) rfl hi hL (by decide)) dL_1254 ?_
  refine lv_aload_n hx hb dL_1255 rfl (lv_at hl 0 rfl) ?_
  refine lv_iload_n hx hb dL_1256 rfl (lv_at hl 3 rfl) ?_
  refine lv_iconst (v := 2) hx hb dL_1257 (by decide) ?_
  refine lv_iadd hx hb dL_1258 ?_
  refine va_sld hx hb hX hbl hbA hS0 (lw_in (k := 2) rfl hi hL (by decide)) dL_1259 ?_
  refine lv_aload_n hx hb dL_1260 rfl (lv_at hl 0 rfl) ?_
  refine lv_iload_n hx hb dL_1261 rfl (lv_at hl 3 rfl) ?_
  refine lv_iconst (v := 3) hx hb dL_1262 (by decide) ?_
  refine lv_iadd hx hb dL_1263 ?_
  refine va_sld hx hb hX hbl hbA hS0 (lw_in (k := 3) rfl hi hL (by decide)) dL_1264 ?_
  refine am_callL X hR hP0 hg0 hS0 hl.1 (j := jX10_sheet) (N := mX10_sheet) (q := 0) (rest := []) (hh := 837) rfl c1 (by decide +kernel) (by decide) (show am_npar mX10_sheet.1 = some 3 by decide +kernel) (Nat.zero_le _) rfl dL_1265 (fun H1 locs1 hP1 hS1 => ?_)
  refine lv_aload_n hx hb dL_1268 rfl (lv_at hl 2 rfl) ?_
  refine lv_aload_n hx hb dL_1269 rfl (lv_at hl 0 rfl) ?_
  refine lv_iload_n hx hb dL_1270 rfl (lv_at hl 3 rfl) ?_
  refine lv_iconst (v := 1) hx hb dL_1271 (by decide) ?_
  refine lv_iadd hx hb dL_1272 ?_
  refine va_sld hx hb hX hbl hbA hS1 (lw_in (k := 1) rfl hi hL (by decide)) dL_1273 ?_
  refine lv_aload_n hx hb dL_1274 rfl (lv_at hl 0 rfl) ?_
  refine lv_iload_n hx hb dL_1275 rfl (lv_at hl 3 rfl) ?_
  refine lv_iconst (v := 2) hx hb dL_1276 (by decide) ?_
  refine lv_iadd hx hb dL_1277 ?_
  refine va_sld hx hb hX hbl hbA hS1 (lw_in (k := 2) rfl hi hL (by decide)) dL_1278 ?_
  refine lv_aload_n hx hb dL_1279 rfl (lv_at hl 0 rfl) ?_
  refine lv_iload_n hx hb dL_1280 rfl (lv_at hl 3 rfl) ?_
  refine lv_iconst (v := 3) hx hb dL_1281 (by decide) ?_
  refine lv_iadd hx hb dL_1282 ?_
  refine va_sld hx hb hX hbl hbA hS1 (lw_in (k := 3) rfl hi hL (by decide)) dL_1283 ?_
  refine am_callL X hR hP1 hg1 hS1 hl.1 (j := jX11_sheet) (N := mX11_sheet) (q := 88) (rest := [.int v]) (hh := 1239) rfl c2 (by decide +kernel) (by decide) (show am_npar mX11_sheet.1 = some 3 by decide +kernel) (show 1 ≤ 8 by decide) rfl dL_1284 (fun H2 locs2 hP2 hS2 => ?_)
  exact lv_icmp_eq (tgt := 1513) hx hb dL_1287 (by decide) (fun _ => kk g2 H2 locs2 hg2 hI2 hP2 hS2) (fun cz => absurd rfl cz)
set_option maxHeartbeats 4000000 in
set_option maxRecDepth 100000 in
theorem law_28 (X : lw_cx p s m c b L xs ρ cA D) (hR : 62 ≤ R.frames ∧ 64 * 62 ≤ R.locals ∧ cells ≤ R.cells ∧ slots ≤ R.slots) (hI : am_ag Inv jX10_write jX11_write 3) (hi : i + 6 ≤ L) (hL : L ≤ 3072) {g : am_W} {H : Heap} {locs : List Loc} {ls : Array Slot} (hg0 : g.length = 107) (hInv : Inv g) (hP0 : va_P D am_cl (am_lay ρ cA g) H) (hS0 : va_S (fun q => s.heap.size ≤ q) s.heap H locs) (hl : lv_has ls 4 [(0, .ref b), (1, .ref (ρ 0)), (2, .ref (ρ 88)), (3, .int (nI i))])
    (kk : ∀ (g2 : am_W) (H2 : Heap) (locs2 : List Loc), g2.length = 107 → Inv g2 → va_P D am_cl (am_lay ρ cA g2) H2 → va_S (fun q => s.heap.size ≤ q) s.heap H2 locs2 → W p l e R s m #[Value.ref b] below meth c H2 locs2 cells slots Q (F0 m 1513 ls [])) : W p l e R s m #[Value.ref b] below meth c H locs cells slots Q (F0 m 1292 ls []) := by
  obtain ⟨v, g1, g2, c1, c2, hI2⟩ := hI g [xs (nI i + 1).toNatClampNeg, xs (nI i + 2).toNatClampNeg, xs (nI i + 3).toNatClampNeg] rfl hg0 hInv
  have hg1 : g1.length = 107 := (am_cal_kp am_mt 60 _ _ _ _ c1).trans hg0
  have hg2 : g2.length = 107 := (am_cal_kp am_mt 60 _ _ _ _ c2).trans hg1
  have hx := X.1
  have hb := X.2.1
  have hX := X.2.2.2.2.2.2.2.1
  have hbl := X.2.2.2.2.2.2.2.2.1
  have hbA : ¬ (fun q : Nat => s.heap.size ≤ q) b := Nat.not_le.mpr hbl
  refine lv_aload_n hx hb dL_1292 rfl (lv_at hl 1 rfl) ?_
  refine lv_aload_n hx hb dL_1293 rfl (lv_at hl 0 rfl) ?_
  refine lv_iload_n hx hb dL_1294 rfl (lv_at hl 3 rfl) ?_
  refine lv_iconst (v := 1) hx hb dL_1295 (by decide) ?_
  refine lv_iadd hx hb dL_1296 ?_
  refine va_sld hx hb hX hbl hbA hS0 (lw_in (k := 1) rfl hi hL (by decide)) dL_1297 ?_
  refine lv_aload_n hx hb dL_1298 rfl (lv_at hl 0 rfl) ?_
  refine lv_iload_n hx hb dL_1299 rfl (lv_at hl 3 rfl) ?_
  refine lv_iconst (v := 2) hx hb dL_1300 (by decide) ?_
  refine lv_iadd hx hb dL_1301 ?_
  refine va_sld hx hb hX hbl hbA hS0 (lw_in (k := 2) rfl hi hL (by decide)) dL_1302 ?_
  refine lv_aload_n hx hb dL_1303 rfl (lv_at hl 0 rfl) ?_
  refine lv_iload_n hx hb dL_1304 rfl (lv_at hl 3 rfl) ?_
  refine lv_iconst (v := 3) hx hb dL_1305 (by decide) ?_
  refine lv_iadd hx hb dL_1306 ?_
  refine va_sld hx hb hX hbl hbA hS0 (lw_in (k := 3) rfl hi hL (by decide)) dL_1307 ?_
  refine am_callL X hR hP0 hg0 hS0 hl.1 (j := jX10_write) (N := mX10_write) (q := 0) (rest := []) (hh := 841) rfl c1 (by decide +kernel) (by decide) (show am_npar mX10_write.1 = some 3 by decide +kernel) (Nat.zero_le _) rfl dL_1308 (fun H1 locs1 hP1 hS1 => ?_)
  refine lv_aload_n hx hb dL_1311 rfl (lv_at hl 2 rfl) ?_
  refine lv_aload_n hx hb dL_1312 rfl (lv_at hl 0 rfl) ?_
  refine lv_iload_n hx hb dL_1313 rfl (lv_at hl 3 rfl) ?_
  refine lv_iconst (v := 1) hx hb dL_1314 (by decide) ?_
  refine lv_iadd hx hb dL_1315 ?_
  refine va_sld hx hb hX hbl hbA hS1 (lw_in (k := 1) rfl hi hL (by decide)) dL_1316 ?_
  refine lv_aload_n hx hb dL_1317 rfl (lv_at hl 0 rfl) ?_
  refine lv_iload_n hx hb dL_1318 rfl (lv_at hl 3 rfl) ?_
  refine lv_iconst (v := 2) hx hb dL_1319 (by decide) ?_
  refine lv_iadd hx hb dL_1320 ?_
  refine va_sld hx hb hX hbl hbA hS1 (lw_in (k := 2) rfl hi hL (by decide)) dL_1321 ?_
  refine lv_aload_n hx hb dL_1322 rfl (lv_at hl 0 rfl) ?_
  refine lv_iload_n hx hb dL_1323 rfl (lv_at hl 3 rfl) ?_
  refine lv_iconst (v := 3) hx hb dL_1324 (by decide) ?_
  refine lv_iadd hx hb dL_1325 ?_
  refine va_sld hx hb hX hbl hbA hS1 (lw_in (k := 3) rfl hi hL (by decide)) dL_1326 ?_
  refine am_callL X hR hP1 hg1 hS1 hl.1 (j := jX11_write) (N := mX11_write) (q := 88) (rest := [.int v]) (hh := 1243) rfl c2 (by decide +kernel) (by decide) (show am_npar mX11_write.1 = some 3 by decide +kernel) (show 1 ≤ 8 by decide) rfl dL_1327 (fun H2 locs2 hP2 hS2 => ?_)
  exact lv_icmp_eq (tgt := 1513) hx hb dL_1330 (by decide) (fun _ => kk g2 H2 locs2 hg2 hI2 hP2 hS2) (fun cz => absurd rfl cz)
set_option maxHeartbeats 4000000 in
set_option maxRecDepth 100000 in
theorem law_29 (X : lw_cx p s m c b L xs ρ cA D) (hR : 62 ≤ R.frames ∧ 64 * 62 ≤ R.locals ∧ cells ≤ R.cells ∧ slots ≤ R.slots) (hI : am_ag Inv jX10_item jX11_item 2) (hi : i + 6 ≤ L) (hL : L ≤ 3072) {g : am_W} {H : Heap} {locs : List Loc} {ls : Array Slot} (hg0 : g.length = 107) (hInv : Inv g) (hP0 : va_P D am_cl (am_lay ρ cA g) H) (hS0 : va_S (fun q => s.heap.size ≤ q) s.heap H locs) (hl : lv_has ls 4 [(0, .ref b), (1, .ref (ρ 0)), (2, .ref (ρ 88)), (3, .int (nI i))])
    (kk : ∀ (g2 : am_W) (H2 : Heap) (locs2 : List Loc), g2.length = 107 → Inv g2 → va_P D am_cl (am_lay ρ cA g2) H2 → va_S (fun q => s.heap.size ≤ q) s.heap H2 locs2 → W p l e R s m #[Value.ref b] below meth c H2 locs2 cells slots Q (F0 m 1513 ls [])) : W p l e R s m #[Value.ref b] below meth c H locs cells slots Q (F0 m 1335 ls []) := by
  obtain ⟨v, g1, g2, c1, c2, hI2⟩ := hI g [xs (nI i + 1).toNatClampNeg, xs (nI i + 2).toNatClampNeg] rfl hg0 hInv
  have hg1 : g1.length = 107 := (am_cal_kp am_mt 60 _ _ _ _ c1).trans hg0
  have hg2 : g2.length = 107 := (am_cal_kp am_mt 60 _ _ _ _ c2).trans hg1
  have hx := X.1
  have hb := X.2.1
  have hX := X.2.2.2.2.2.2.2.1
  have hbl := X.2.2.2.2.2.2.2.2.1
  have hbA : ¬ (fun q : Nat => s.heap.size ≤ q) b := Nat.not_le.mpr hbl
  refine lv_aload_n hx hb dL_1335 rfl (lv_at hl 1 rfl) ?_
  refine lv_aload_n hx hb dL_1336 rfl (lv_at hl 0 rfl) ?_
  refine lv_iload_n hx hb dL_1337 rfl (lv_at hl 3 rfl) ?_
  refine lv_iconst (v := 1) hx hb dL_1338 (by decide) ?_
  refine lv_iadd hx hb dL_1339 ?_
  refine va_sld hx hb hX hbl hbA hS0 (lw_in (k := 1) rfl hi hL (by decide)) dL_1340 ?_
  refine lv_aload_n hx hb dL_1341 rfl (lv_at hl 0 rfl) ?_
  refine lv_iload_n hx hb dL_1342 rfl (lv_at hl 3 rfl) ?_
  refine lv_iconst (v := 2) hx hb dL_1343 (by decide) ?_
  refine lv_iadd hx hb dL_1344 ?_
  refine va_sld hx hb hX hbl hbA hS0 (lw_in (k := 2) rfl hi hL (by decide)) dL_1345 ?_
  refine am_callL X hR hP0 hg0 hS0 hl.1 (j := jX10_item) (N := mX10_item) (q := 0) (rest := []) (hh := 849) rfl c1 (by decide +kernel) (by decide) (show am_npar mX10_item.1 = some 2 by decide +kernel) (Nat.zero_le _) rfl dL_1346 (fun H1 locs1 hP1 hS1 => ?_)
  refine lv_aload_n hx hb dL_1349 rfl (lv_at hl 2 rfl) ?_
  refine lv_aload_n hx hb dL_1350 rfl (lv_at hl 0 rfl) ?_
  refine lv_iload_n hx hb dL_1351 rfl (lv_at hl 3 rfl) ?_
  refine lv_iconst (v := 1) hx hb dL_1352 (by decide) ?_
  refine lv_iadd hx hb dL_1353 ?_
  refine va_sld hx hb hX hbl hbA hS1 (lw_in (k := 1) rfl hi hL (by decide)) dL_1354 ?_
  refine lv_aload_n hx hb dL_1355 rfl (lv_at hl 0 rfl) ?_
  refine lv_iload_n hx hb dL_1356 rfl (lv_at hl 3 rfl) ?_
  refine lv_iconst (v := 2) hx hb dL_1357 (by decide) ?_
  refine lv_iadd hx hb dL_1358 ?_
  refine va_sld hx hb hX hbl hbA hS1 (lw_in (k := 2) rfl hi hL (by decide)) dL_1359 ?_
  refine am_callL X hR hP1 hg1 hS1 hl.1 (j := jX11_item) (N := mX11_item) (q := 88) (rest := [.int v]) (hh := 1251) rfl c2 (by decide +kernel) (by decide) (show am_npar mX11_item.1 = some 2 by decide +kernel) (show 1 ≤ 8 by decide) rfl dL_1360 (fun H2 locs2 hP2 hS2 => ?_)
  exact lv_icmp_eq (tgt := 1513) hx hb dL_1363 (by decide) (fun _ => kk g2 H2 locs2 hg2 hI2 hP2 hS2) (fun cz => absurd rfl cz)
set_option maxHeartbeats 4000000 in
set_option maxRecDepth 100000 in
theorem law_30 (X : lw_cx p s m c b L xs ρ cA D) (hR : 62 ≤ R.frames ∧ 64 * 62 ≤ R.locals ∧ cells ≤ R.cells ∧ slots ≤ R.slots) (hI : am_ag Inv jX10_copy jX11_copy 5) (hi : i + 6 ≤ L) (hL : L ≤ 3072) {g : am_W} {H : Heap} {locs : List Loc} {ls : Array Slot} (hg0 : g.length = 107) (hInv : Inv g) (hP0 : va_P D am_cl (am_lay ρ cA g) H) (hS0 : va_S (fun q => s.heap.size ≤ q) s.heap H locs) (hl : lv_has ls 4 [(0, .ref b), (1, .ref (ρ 0)), (2, .ref (ρ 88)), (3, .int (nI i))])
    (kk : ∀ (g2 : am_W) (H2 : Heap) (locs2 : List Loc), g2.length = 107 → Inv g2 → va_P D am_cl (am_lay ρ cA g2) H2 → va_S (fun q => s.heap.size ≤ q) s.heap H2 locs2 → W p l e R s m #[Value.ref b] below meth c H2 locs2 cells slots Q (F0 m 1513 ls [])) : W p l e R s m #[Value.ref b] below meth c H locs cells slots Q (F0 m 1368 ls []) := by
  obtain ⟨v, g1, g2, c1, c2, hI2⟩ := hI g [xs (nI i + 1).toNatClampNeg, xs (nI i + 2).toNatClampNeg, xs (nI i + 3).toNatClampNeg, xs (nI i + 4).toNatClampNeg, xs (nI i + 5).toNatClampNeg] rfl hg0 hInv
  have hg1 : g1.length = 107 := (am_cal_kp am_mt 60 _ _ _ _ c1).trans hg0
  have hg2 : g2.length = 107 := (am_cal_kp am_mt 60 _ _ _ _ c2).trans hg1
  have hx := X.1
  have hb := X.2.1
  have hX := X.2.2.2.2.2.2.2.1
  have hbl := X.2.2.2.2.2.2.2.2.1
  have hbA : ¬ (fun q : Nat => s.heap.size ≤ q) b := Nat.not_le.mpr hbl
  refine lv_aload_n hx hb dL_1368 rfl (lv_at hl 1 rfl) ?_
  refine lv_aload_n hx hb dL_1369 rfl (lv_at hl 0 rfl) ?_
  refine lv_iload_n hx hb dL_1370 rfl (lv_at hl 3 rfl) ?_
  refine lv_iconst (v := 1) hx hb dL_1371 (by decide) ?_
  refine lv_iadd hx hb dL_1372 ?_
  refine va_sld hx hb hX hbl hbA hS0 (lw_in (k := 1) rfl hi hL (by decide)) dL_1373 ?_
  refine lv_aload_n hx hb dL_1374 rfl (lv_at hl 0 rfl) ?_
  refine lv_iload_n hx hb dL_1375 rfl (lv_at hl 3 rfl) ?_
  refine lv_iconst (v := 2) hx hb dL_1376 (by decide) ?_
  refine lv_iadd hx hb dL_1377 ?_
  refine va_sld hx hb hX hbl hbA hS0 (lw_in (k := 2) rfl hi hL (by decide)) dL_1378 ?_
  refine lv_aload_n hx hb dL_1379 rfl (lv_at hl 0 rfl) ?_
  refine lv_iload_n hx hb dL_1380 rfl (lv_at hl 3 rfl) ?_
  refine lv_iconst (v := 3) hx hb dL_1381 (by decide) ?_
  refine lv_iadd hx hb dL_1382 ?_
  refine va_sld hx hb hX hbl hbA hS0 (lw_in (k := 3) rfl hi hL (by decide)) dL_1383 ?_
  refine lv_aload_n hx hb dL_1384 rfl (lv_at hl 0 rfl) ?_
  refine lv_iload_n hx hb dL_1385 rfl (lv_at hl 3 rfl) ?_
  refine lv_iconst (v := 4) hx hb dL_1386 (by decide) ?_
  refine lv_iadd hx hb dL_1387 ?_
  refine va_sld hx hb hX hbl hbA hS0 (lw_in (k := 4) rfl hi hL (by decide)) dL_1388 ?_
  refine lv_aload_n hx hb dL_1389 rfl (lv_at hl 0 rfl) ?_
  refine lv_iload_n hx hb dL_1390 rfl (lv_at hl 3 rfl) ?_
  refine lv_iconst (v := 5) hx hb dL_1391 (by decide) ?_
  refine lv_iadd hx hb dL_1392 ?_
  refine va_sld hx hb hX hbl hbA hS0 (lw_in (k := 5) rfl hi hL (by decide)) dL_1393 ?_
  refine am_callL X hR hP0 hg0 hS0 hl.1 (j := jX10_copy) (N := mX10_copy) (q := 0) (rest := []) (hh := 853) rfl c1 (by decide +kernel) (by decide) (show am_npar mX10_copy.1 = some 5 by decide +kernel) (Nat.zero_le _) rfl dL_1394 (fun H1 locs1 hP1 hS1 => ?_)
  refine lv_aload_n hx hb dL_1397 rfl (lv_at hl 2 rfl) ?_
  refine lv_aload_n hx hb dL_1398 rfl (lv_at hl 0 rfl) ?_
  refine lv_iload_n hx hb dL_1399 rfl (lv_at hl 3 rfl) ?_
  refine lv_iconst (v := 1) hx hb dL_1400 (by decide) ?_
  refine lv_iadd hx hb dL_1401 ?_
  refine va_sld hx hb hX hbl hbA hS1 (lw_in (k := 1) rfl hi hL (by decide)) dL_1402 ?_
  refine lv_aload_n hx hb dL_1403 rfl (lv_at hl 0 rfl) ?_
  refine lv_iload_n hx hb dL_1404 rfl (lv_at hl 3 rfl) ?_
  refine lv_iconst (v := 2) hx hb dL_1405 (by decide) ?_
  refine lv_iadd hx hb dL_1406 ?_
  refine va_sld hx hb hX hbl hbA hS1 (lw_in (k := 2) rfl hi hL (by decide)) dL_1407 ?_
  refine lv_aload_n hx hb dL_1408 rfl (lv_at hl 0 rfl) ?_
  refine lv_iload_n hx hb dL_1409 rfl (lv_at hl 3 rfl) ?_
  refine lv_iconst (v := 3) hx hb dL_1410 (by decide) ?_
  refine lv_iadd hx hb dL_1411 ?_
  refine va_sld hx hb hX hbl hbA hS1 (lw_in (k := 3) rfl hi hL (by decide)) dL_1412 ?_
  refine lv_aload_n hx hb dL_1413 rfl (lv_at hl 0 rfl) ?_
  refine lv_iload_n hx hb dL_1414 rfl (lv_at hl 3 rfl) ?_
  refine lv_iconst (v := 4) hx hb dL_1415 (by decide) ?_
  refine lv_iadd hx hb dL_1416 ?_
  refine va_sld hx hb hX hbl hbA hS1 (lw_in (k := 4) rfl hi hL (by decide)) dL_1417 ?_
  refine lv_aload_n hx hb dL_1418 rfl (lv_at hl 0 rfl) ?_
  refine lv_iload_n hx hb dL_1419 rfl (lv_at hl 3 rfl) ?_
  refine lv_iconst (v := 5) hx hb dL_1420 (by decide) ?_
  refine lv_iadd hx hb dL_1421 ?_
  refine va_sld hx hb hX hbl hbA hS1 (lw_in (k := 5) rfl hi hL (by decide)) dL_1422 ?_
  refine am_callL X hR hP1 hg1 hS1 hl.1 (j := jX11_copy) (N := mX11_copy) (q := 88) (rest := [.int v]) (hh := 1255) rfl c2 (by decide +kernel) (by decide) (show am_npar mX11_copy.1 = some 5 by decide +kernel) (show 1 ≤ 8 by decide) rfl dL_1423 (fun H2 locs2 hP2 hS2 => ?_)
  exact lv_icmp_eq (tgt := 1513) hx hb dL_1426 (by decide) (fun _ => kk g2 H2 locs2 hg2 hI2 hP2 hS2) (fun cz => absurd rfl cz)
set_option maxHeartbeats 4000000 in
set_option maxRecDepth 100000 in
theorem law_31 (X : lw_cx p s m c b L xs ρ cA D) (hR : 62 ≤ R.frames ∧ 64 * 62 ≤ R.locals ∧ cells ≤ R.cells ∧ slots ≤ R.slots) (hI : am_ag Inv jX10_list jX11_list 2) (hi : i + 6 ≤ L) (hL : L ≤ 3072) {g : am_W} {H : Heap} {locs : List Loc} {ls : Array Slot} (hg0 : g.length = 107) (hInv : Inv g) (hP0 : va_P D am_cl (am_lay ρ cA g) H) (hS0 : va_S (fun q => s.heap.size ≤ q) s.heap H locs) (hl : lv_has ls 4 [(0, .ref b), (1, .ref (ρ 0)), (2, .ref (ρ 88)), (3, .int (nI i))])
    (kk : ∀ (g2 : am_W) (H2 : Heap) (locs2 : List Loc), g2.length = 107 → Inv g2 → va_P D am_cl (am_lay ρ cA g2) H2 → va_S (fun q => s.heap.size ≤ q) s.heap H2 locs2 → W p l e R s m #[Value.ref b] below meth c H2 locs2 cells slots Q (F0 m 1513 ls [])) : W p l e R s m #[Value.ref b] below meth c H locs cells slots Q (F0 m 1431 ls []) := by
  obtain ⟨v, g1, g2, c1, c2, hI2⟩ := hI g [xs (nI i + 1).toNatClampNeg, xs (nI i + 2).toNatClampNeg] rfl hg0 hInv
  have hg1 : g1.length = 107 := (am_cal_kp am_mt 60 _ _ _ _ c1).trans hg0
  have hg2 : g2.length = 107 := (am_cal_kp am_mt 60 _ _ _ _ c2).trans hg1
  have hx := X.1
  have hb := X.2.1
  have hX := X.2.2.2.2.2.2.2.1
  have hbl := X.2.2.2.2.2.2.2.2.1
  have hbA : ¬ (fun q : Nat => s.heap.size ≤ q) b := Nat.not_le.mpr hbl
  refine lv_aload_n hx hb dL_1431 rfl (lv_at hl 1 rfl) ?_
  refine lv_aload_n hx hb dL_1432 rfl (lv_at hl 0 rfl) ?_
  refine lv_iload_n hx hb dL_1433 rfl (lv_at hl 3 rfl) ?_
  refine lv_iconst (v := 1) hx hb dL_1434 (by decide) ?_
  refine lv_iadd hx hb dL_1435 ?_
  refine va_sld hx hb hX hbl hbA hS0 (lw_in (k := 1) rfl hi hL (by decide)) dL_1436 ?_
  refine lv_aload_n hx hb dL_1437 rfl (lv_at hl 0 rfl) ?_
  refine lv_iload_n hx hb dL_1438 rfl (lv_at hl 3 rfl) ?_
  refine lv_iconst (v := 2) hx hb dL_1439 (by decide) ?_
  refine lv_iadd hx hb dL_1440 ?_
  refine va_sld hx hb hX hbl hbA hS0 (lw_in (k := 2) rfl hi hL (by decide)) dL_1441 ?_
  refine am_callL X hR hP0 hg0 hS0 hl.1 (j := jX10_list) (N := mX10_list) (q := 0) (rest := []) (hh := 862) rfl c1 (by decide +kernel) (by decide) (show am_npar mX10_list.1 = some 2 by decide +kernel) (Nat.zero_le _) rfl dL_1442 (fun H1 locs1 hP1 hS1 => ?_)
  refine lv_aload_n hx hb dL_1445 rfl (lv_at hl 2 rfl) ?_
  refine lv_aload_n hx hb dL_1446 rfl (lv_at hl 0 rfl) ?_
  refine lv_iload_n hx hb dL_1447 rfl (lv_at hl 3 rfl) ?_
  refine lv_iconst (v := 1) hx hb dL_1448 (by decide) ?_
  refine lv_iadd hx hb dL_1449 ?_
  refine va_sld hx hb hX hbl hbA hS1 (lw_in (k := 1) rfl hi hL (by decide)) dL_1450 ?_
  refine lv_aload_n hx hb dL_1451 rfl (lv_at hl 0 rfl) ?_
  refine lv_iload_n hx hb dL_1452 rfl (lv_at hl 3 rfl) ?_
  refine lv_iconst (v := 2) hx hb dL_1453 (by decide) ?_
  refine lv_iadd hx hb dL_1454 ?_
  refine va_sld hx hb hX hbl hbA hS1 (lw_in (k := 2) rfl hi hL (by decide)) dL_1455 ?_
  refine am_callL X hR hP1 hg1 hS1 hl.1 (j := jX11_list) (N := mX11_list) (q := 88) (rest := [.int v]) (hh := 1259) rfl c2 (by decide +kernel) (by decide) (show am_npar mX11_list.1 = some 2 by decide +kernel) (show 1 ≤ 8 by decide) rfl dL_1456 (fun H2 locs2 hP2 hS2 => ?_)
  exact lv_icmp_eq (tgt := 1513) hx hb dL_1459 (by decide) (fun _ => kk g2 H2 locs2 hg2 hI2 hP2 hS2) (fun cz => absurd rfl cz)
set_option maxHeartbeats 4000000 in
set_option maxRecDepth 100000 in
theorem law_32 (X : lw_cx p s m c b L xs ρ cA D) (hR : 62 ≤ R.frames ∧ 64 * 62 ≤ R.locals ∧ cells ≤ R.cells ∧ slots ≤ R.slots) (hI : am_ag Inv jX10_image jX11_image 0) (hi : i + 6 ≤ L) (hL : L ≤ 3072) {g : am_W} {H : Heap} {locs : List Loc} {ls : Array Slot} (hg0 : g.length = 107) (hInv : Inv g) (hP0 : va_P D am_cl (am_lay ρ cA g) H) (hS0 : va_S (fun q => s.heap.size ≤ q) s.heap H locs) (hl : lv_has ls 4 [(0, .ref b), (1, .ref (ρ 0)), (2, .ref (ρ 88)), (3, .int (nI i))])
    (kk : ∀ (g2 : am_W) (H2 : Heap) (locs2 : List Loc), g2.length = 107 → Inv g2 → va_P D am_cl (am_lay ρ cA g2) H2 → va_S (fun q => s.heap.size ≤ q) s.heap H2 locs2 → W p l e R s m #[Value.ref b] below meth c H2 locs2 cells slots Q (F0 m 1513 ls [])) : W p l e R s m #[Value.ref b] below meth c H locs cells slots Q (F0 m 1464 ls []) := by
  obtain ⟨v, g1, g2, c1, c2, hI2⟩ := hI g [] rfl hg0 hInv
  have hg1 : g1.length = 107 := (am_cal_kp am_mt 60 _ _ _ _ c1).trans hg0
  have hg2 : g2.length = 107 := (am_cal_kp am_mt 60 _ _ _ _ c2).trans hg1
  have hx := X.1
  have hb := X.2.1
  have hX := X.2.2.2.2.2.2.2.1
  have hbl := X.2.2.2.2.2.2.2.2.1
  have hbA : ¬ (fun q : Nat => s.heap.size ≤ q) b := Nat.not_le.mpr hbl
  refine lv_aload_n hx hb dL_1464 rfl (lv_at hl 1 rfl) ?_
  refine am_callL X hR hP0 hg0 hS0 hl.1 (j := jX10_image) (N := mX10_image) (q := 0) (rest := []) (hh := 866) rfl c1 (by decide +kernel) (by decide) (show am_npar mX10_image.1 = some 0 by decide +kernel) (Nat.zero_le _) rfl dL_1465 (fun H1 locs1 hP1 hS1 => ?_)
  refine lv_aload_n hx hb dL_1468 rfl (lv_at hl 2 rfl) ?_
  refine am_callL X hR hP1 hg1 hS1 hl.1 (j := jX11_image) (N := mX11_image) (q := 88) (rest := [.int v]) (hh := 1263) rfl c2 (by decide +kernel) (by decide) (show am_npar mX11_image.1 = some 0 by decide +kernel) (show 1 ≤ 8 by decide) rfl dL_1469 (fun H2 locs2 hP2 hS2 => ?_)
  exact lv_icmp_eq (tgt := 1513) hx hb dL_1472 (by decide) (fun _ => kk g2 H2 locs2 hg2 hI2 hP2 hS2) (fun cz => absurd rfl cz)
set_option maxHeartbeats 4000000 in
set_option maxRecDepth 100000 in
theorem law_33 (X : lw_cx p s m c b L xs ρ cA D) (hR : 62 ≤ R.frames ∧ 64 * 62 ≤ R.locals ∧ cells ≤ R.cells ∧ slots ≤ R.slots) (hI : am_ag Inv jX10_back jX11_back 0) (hi : i + 6 ≤ L) (hL : L ≤ 3072) {g : am_W} {H : Heap} {locs : List Loc} {ls : Array Slot} (hg0 : g.length = 107) (hInv : Inv g) (hP0 : va_P D am_cl (am_lay ρ cA g) H) (hS0 : va_S (fun q => s.heap.size ≤ q) s.heap H locs) (hl : lv_has ls 4 [(0, .ref b), (1, .ref (ρ 0)), (2, .ref (ρ 88)), (3, .int (nI i))])
    (kk : ∀ (g2 : am_W) (H2 : Heap) (locs2 : List Loc), g2.length = 107 → Inv g2 → va_P D am_cl (am_lay ρ cA g2) H2 → va_S (fun q => s.heap.size ≤ q) s.heap H2 locs2 → W p l e R s m #[Value.ref b] below meth c H2 locs2 cells slots Q (F0 m 1513 ls [])) : W p l e R s m #[Value.ref b] below meth c H locs cells slots Q (F0 m 1477 ls []) := by
  obtain ⟨v, g1, g2, c1, c2, hI2⟩ := hI g [] rfl hg0 hInv
  have hg1 : g1.length = 107 := (am_cal_kp am_mt 60 _ _ _ _ c1).trans hg0
  have hg2 : g2.length = 107 := (am_cal_kp am_mt 60 _ _ _ _ c2).trans hg1
  have hx := X.1
  have hb := X.2.1
  have hX := X.2.2.2.2.2.2.2.1
  have hbl := X.2.2.2.2.2.2.2.2.1
  have hbA : ¬ (fun q : Nat => s.heap.size ≤ q) b := Nat.not_le.mpr hbl
  refine lv_aload_n hx hb dL_1477 rfl (lv_at hl 1 rfl) ?_
  refine am_callL X hR hP0 hg0 hS0 hl.1 (j := jX10_back) (N := mX10_back) (q := 0) (rest := []) (hh := 874) rfl c1 (by decide +kernel) (by decide) (show am_npar mX10_back.1 = some 0 by decide +kernel) (Nat.zero_le _) rfl dL_1478 (fun H1 locs1 hP1 hS1 => ?_)
  refine lv_aload_n hx hb dL_1481 rfl (lv_at hl 2 rfl) ?_
  refine am_callL X hR hP1 hg1 hS1 hl.1 (j := jX11_back) (N := mX11_back) (q := 88) (rest := [.int v]) (hh := 1271) rfl c2 (by decide +kernel) (by decide) (show am_npar mX11_back.1 = some 0 by decide +kernel) (show 1 ≤ 8 by decide) rfl dL_1482 (fun H2 locs2 hP2 hS2 => ?_)
  exact lv_icmp_eq (tgt := 1513) hx hb dL_1485 (by decide) (fun _ => kk g2 H2 locs2 hg2 hI2 hP2 hS2) (fun cz => absurd rfl cz)
set_option maxHeartbeats 4000000 in
set_option maxRecDepth 100000 in
theorem law_34 (X : lw_cx p s m c b L xs ρ cA D) (hR : 62 ≤ R.frames ∧ 64 * 62 ≤ R.locals ∧ cells ≤ R.cells ∧ slots ≤ R.slots) (hI : am_ag Inv jX10_count jX11_count 1) (hi : i + 6 ≤ L) (hL : L ≤ 3072) {g : am_W} {H : Heap} {locs : List Loc} {ls : Array Slot} (hg0 : g.length = 107) (hInv : Inv g) (hP0 : va_P D am_cl (am_lay ρ cA g) H) (hS0 : va_S (fun q => s.heap.size ≤ q) s.heap H locs) (hl : lv_has ls 4 [(0, .ref b), (1, .ref (ρ 0)), (2, .ref (ρ 88)), (3, .int (nI i))])
    (kk : ∀ (g2 : am_W) (H2 : Heap) (locs2 : List Loc), g2.length = 107 → Inv g2 → va_P D am_cl (am_lay ρ cA g2) H2 → va_S (fun q => s.heap.size ≤ q) s.heap H2 locs2 → W p l e R s m #[Value.ref b] below meth c H2 locs2 cells slots Q (F0 m 1513 ls [])) : W p l e R s m #[Value.ref b] below meth c H locs cells slots Q (F0 m 1490 ls []) := by
  obtain ⟨v, g1, g2, c1, c2, hI2⟩ := hI g [xs (nI i + 1).toNatClampNeg] rfl hg0 hInv
  have hg1 : g1.length = 107 := (am_cal_kp am_mt 60 _ _ _ _ c1).trans hg0
  have hg2 : g2.length = 107 := (am_cal_kp am_mt 60 _ _ _ _ c2).trans hg1
  have hx := X.1
  have hb := X.2.1
  have hX := X.2.2.2.2.2.2.2.1
  have hbl := X.2.2.2.2.2.2.2.2.1
  have hbA : ¬ (fun q : Nat => s.heap.size ≤ q) b := Nat.not_le.mpr hbl
  refine lv_aload_n hx hb dL_1490 rfl (lv_at hl 1 rfl) ?_
  refine lv_aload_n hx hb dL_1491 rfl (lv_at hl 0 rfl) ?_
  refine lv_iload_n hx hb dL_1492 rfl (lv_at hl 3 rfl) ?_
  refine lv_iconst (v := 1) hx hb dL_1493 (by decide) ?_
  refine lv_iadd hx hb dL_1494 ?_
  refine va_sld hx hb hX hbl hbA hS0 (lw_in (k := 1) rfl hi hL (by decide)) dL_1495 ?_
  refine am_callL X hR hP0 hg0 hS0 hl.1 (j := jX10_count) (N := mX10_count) (q := 0) (rest := []) (hh := 878) rfl c1 (by decide +kernel) (by decide) (show am_npar mX10_count.1 = some 1 by decide +kernel) (Nat.zero_le _) rfl dL_1496 (fun H1 locs1 hP1 hS1 => ?_)
  refine lv_aload_n hx hb dL_1499 rfl (lv_at hl 2 rfl) ?_
  refine lv_aload_n hx hb dL_1500 rfl (lv_at hl 0 rfl) ?_
  refine lv_iload_n hx hb dL_1501 rfl (lv_at hl 3 rfl) ?_
  refine lv_iconst (v := 1) hx hb dL_1502 (by decide) ?_
  refine lv_iadd hx hb dL_1503 ?_
  refine va_sld hx hb hX hbl hbA hS1 (lw_in (k := 1) rfl hi hL (by decide)) dL_1504 ?_
  refine am_callL X hR hP1 hg1 hS1 hl.1 (j := jX11_count) (N := mX11_count) (q := 88) (rest := [.int v]) (hh := 1275) rfl c2 (by decide +kernel) (by decide) (show am_npar mX11_count.1 = some 1 by decide +kernel) (show 1 ≤ 8 by decide) rfl dL_1505 (fun H2 locs2 hP2 hS2 => ?_)
  exact lv_icmp_eq (tgt := 1513) hx hb dL_1508 (by decide) (fun _ => kk g2 H2 locs2 hg2 hI2 hP2 hS2) (fun cz => absurd rfl cz)
end LWK
