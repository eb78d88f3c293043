/-! the law's cases, by program (gen_law.py) -/
section CASES
variable {G : GT} {K : KT} {b L i : Nat} {xs : Nat → Int32} {σ τ : SS}
set_option maxHeartbeats 4000000 in
set_option maxRecDepth 100000 in
theorem lc_type (C : Ctx G K code RL 4 13 474) (X : SX G K b L xs) (hL : L ≤ 2560) (hi : i + 5 ≤ L) (h : RR σ τ) (nx : NX G K b i) : V G K (wX G σ ++ wM G τ) 180 (lvL G b i) [] := by
  obtain ⟨r, σ', τ', hx, hm, h'⟩ := r_type h (((Int32.toInt64 (xs (Int32.toNatClampNeg (nI i + 1)))) <<< (Int32.toInt64 32 &&& 63)) ||| ((Int32.toInt64 (xs (Int32.toNatClampNeg (nI i + 2)))) &&& 4294967295)) (xs (Int32.toNatClampNeg (nI i + 3)))
  refine v_aload_n (pc := 180) C (F := True) 2 rfl dL_law_180 (fun _ => ?_) trivial
  refine v_aload_n (pc := 181) C (F := True) 3 rfl dL_law_181 (fun _ => ?_) trivial
  refine v_iload_n (pc := 182) C (F := True) 0 rfl dL_law_182 (fun _ => ?_) trivial
  refine v_iconst (pc := 183) C (F := True) 1 dL_law_183 (by decide) (fun _ => ?_) trivial
  refine v_iadd (pc := 184) C (F := True) dL_law_184 (fun _ => ?_) trivial
  refine v_sld (pc := 185) C X (sin1 hi hL) dL_law_185 ?_
  refine v_i2l (pc := 186) C (F := True) dL_law_186 (fun _ => ?_) trivial
  refine v_bipush (pc := 187) C (F := True) 32 dL_law_187 (by decide) (fun _ => ?_) trivial
  refine v_lshl (pc := 189) C (F := True) dL_law_189 (fun _ => ?_) trivial
  refine v_aload_n (pc := 190) C (F := True) 3 rfl dL_law_190 (fun _ => ?_) trivial
  refine v_iload_n (pc := 191) C (F := True) 0 rfl dL_law_191 (fun _ => ?_) trivial
  refine v_iconst (pc := 192) C (F := True) 2 dL_law_192 (by decide) (fun _ => ?_) trivial
  refine v_iadd (pc := 193) C (F := True) dL_law_193 (fun _ => ?_) trivial
  refine v_sld (pc := 194) C X (sin2 hi hL) dL_law_194 ?_
  refine v_i2l (pc := 195) C (F := True) dL_law_195 (fun _ => ?_) trivial
  refine v_ldc2 (pc := 196) C (F := True) (v := 4294967295) mw_6 dL_law_196 (fun _ => ?_) trivial
  refine v_land (pc := 199) C (F := True) dL_law_199 (fun _ => ?_) trivial
  refine v_lor (pc := 200) C (F := True) dL_law_200 (fun _ => ?_) trivial
  refine v_aload_n (pc := 201) C (F := True) 3 rfl dL_law_201 (fun _ => ?_) trivial
  refine v_iload_n (pc := 202) C (F := True) 0 rfl dL_law_202 (fun _ => ?_) trivial
  refine v_iconst (pc := 203) C (F := True) 3 dL_law_203 (by decide) (fun _ => ?_) trivial
  refine v_iadd (pc := 204) C (F := True) dL_law_204 (fun _ => ?_) trivial
  refine v_sld (pc := 205) C X (sin3 hi hL) dL_law_205 ?_
  refine v_callLI (pc := 206) C (w1 := wX G σ) (w2 := wX G σ') (wr := wM G τ) (b := aX G 0) (As := [.long (((Int32.toInt64 (xs (Int32.toNatClampNeg (nI i + 1)))) <<< (Int32.toInt64 32 &&& 63)) ||| ((Int32.toInt64 (xs (Int32.toNatClampNeg (nI i + 2)))) &&& 4294967295)), .int (xs (Int32.toNatClampNeg (nI i + 3)))]) (nargs := 2) (fun A => m5_type (gS G A) K.2.1 _ _ σ r σ' hx) mw_124 mw_125 mw_126 mw_2 mw_127 rc_5 ⟨by decide +kernel, by decide +kernel, by decide +kernel⟩ ⟨(Nat.le_of_ble_eq_true rfl), (Nat.le_of_ble_eq_true rfl)⟩ rfl (Nat.le_of_ble_eq_true rfl) dL_law_206 ?_
  refine v_aload_n (pc := 209) C (F := True) 1 rfl dL_law_209 (fun _ => ?_) trivial
  refine v_aload_n (pc := 210) C (F := True) 3 rfl dL_law_210 (fun _ => ?_) trivial
  refine v_iload_n (pc := 211) C (F := True) 0 rfl dL_law_211 (fun _ => ?_) trivial
  refine v_iconst (pc := 212) C (F := True) 1 dL_law_212 (by decide) (fun _ => ?_) trivial
  refine v_iadd (pc := 213) C (F := True) dL_law_213 (fun _ => ?_) trivial
  refine v_sld (pc := 214) C X (sin1 hi hL) dL_law_214 ?_
  refine v_i2l (pc := 215) C (F := True) dL_law_215 (fun _ => ?_) trivial
  refine v_bipush (pc := 216) C (F := True) 32 dL_law_216 (by decide) (fun _ => ?_) trivial
  refine v_lshl (pc := 218) C (F := True) dL_law_218 (fun _ => ?_) trivial
  refine v_aload_n (pc := 219) C (F := True) 3 rfl dL_law_219 (fun _ => ?_) trivial
  refine v_iload_n (pc := 220) C (F := True) 0 rfl dL_law_220 (fun _ => ?_) trivial
  refine v_iconst (pc := 221) C (F := True) 2 dL_law_221 (by decide) (fun _ => ?_) trivial
  refine v_iadd (pc := 222) C (F := True) dL_law_222 (fun _ => ?_) trivial
  refine v_sld (pc := 223) C X (sin2 hi hL) dL_law_223 ?_
  refine v_i2l (pc := 224) C (F := True) dL_law_224 (fun _ => ?_) trivial
  refine v_ldc2 (pc := 225) C (F := True) (v := 4294967295) mw_6 dL_law_225 (fun _ => ?_) trivial
  refine v_land (pc := 228) C (F := True) dL_law_228 (fun _ => ?_) trivial
  refine v_lor (pc := 229) C (F := True) dL_law_229 (fun _ => ?_) trivial
  refine v_aload_n (pc := 230) C (F := True) 3 rfl dL_law_230 (fun _ => ?_) trivial
  refine v_iload_n (pc := 231) C (F := True) 0 rfl dL_law_231 (fun _ => ?_) trivial
  refine v_iconst (pc := 232) C (F := True) 3 dL_law_232 (by decide) (fun _ => ?_) trivial
  refine v_iadd (pc := 233) C (F := True) dL_law_233 (fun _ => ?_) trivial
  refine v_sld (pc := 234) C X (sin3 hi hL) dL_law_234 ?_
  refine v_flip ?_
  refine v_callLI (pc := 235) C (w1 := wM G τ) (w2 := wM G τ') (wr := wX G σ') (b := aM G 0) (As := [.long (((Int32.toInt64 (xs (Int32.toNatClampNeg (nI i + 1)))) <<< (Int32.toInt64 32 &&& 63)) ||| ((Int32.toInt64 (xs (Int32.toNatClampNeg (nI i + 2)))) &&& 4294967295)), .int (xs (Int32.toNatClampNeg (nI i + 3)))]) (nargs := 2) (fun A => m6_type (gS G A) K.2.1 _ _ τ r τ' hm) mw_133 mw_134 mw_135 mw_5 mw_136 rc_6 ⟨by decide +kernel, by decide +kernel, by decide +kernel⟩ ⟨(Nat.le_of_ble_eq_true rfl), (Nat.le_of_ble_eq_true rfl)⟩ rfl (Nat.le_of_ble_eq_true rfl) dL_law_235 ?_
  refine v_flip ?_
  refine (?_ : tp (if r = r then some () else (none : Option Unit)) (fun _ => True) → _) ⟨(), if_pos rfl, trivial⟩
  refine v_icmp_eq (pc := 238) C 1293 dL_law_238 (by decide) (fun _ => ?_) tp_no
  exact nx σ' τ' h'
set_option maxHeartbeats 4000000 in
set_option maxRecDepth 100000 in
theorem lc_clear (C : Ctx G K code RL 4 13 474) (X : SX G K b L xs) (hL : L ≤ 2560) (hi : i + 5 ≤ L) (h : RR σ τ) (nx : NX G K b i) : V G K (wX G σ ++ wM G τ) 243 (lvL G b i) [] := by
  obtain ⟨r, σ', τ', hx, hm, h'⟩ := r_clear h 
  refine v_aload_n (pc := 243) C (F := True) 2 rfl dL_law_243 (fun _ => ?_) trivial
  refine v_callLI (pc := 244) C (w1 := wX G σ) (w2 := wX G σ') (wr := wM G τ) (b := aX G 0) (As := []) (nargs := 0) (fun A => m5_clear (gS G A) K.2.1 σ r σ' hx) mw_142 mw_143 mw_144 mw_2 mw_145 rc_5 ⟨by decide +kernel, by decide +kernel, by decide +kernel⟩ ⟨(Nat.le_of_ble_eq_true rfl), (Nat.le_of_ble_eq_true rfl)⟩ rfl (Nat.le_of_ble_eq_true rfl) dL_law_244 ?_
  refine v_aload_n (pc := 247) C (F := True) 1 rfl dL_law_247 (fun _ => ?_) trivial
  refine v_flip ?_
  refine v_callLI (pc := 248) C (w1 := wM G τ) (w2 := wM G τ') (wr := wX G σ') (b := aM G 0) (As := []) (nargs := 0) (fun A => m6_clear (gS G A) K.2.1 τ r τ' hm) mw_146 mw_147 mw_148 mw_5 mw_149 rc_6 ⟨by decide +kernel, by decide +kernel, by decide +kernel⟩ ⟨(Nat.le_of_ble_eq_true rfl), (Nat.le_of_ble_eq_true rfl)⟩ rfl (Nat.le_of_ble_eq_true rfl) dL_law_248 ?_
  refine v_flip ?_
  refine (?_ : tp (if r = r then some () else (none : Option Unit)) (fun _ => True) → _) ⟨(), if_pos rfl, trivial⟩
  refine v_icmp_eq (pc := 251) C 1293 dL_law_251 (by decide) (fun _ => ?_) tp_no
  exact nx σ' τ' h'
set_option maxHeartbeats 4000000 in
set_option maxRecDepth 100000 in
theorem lc_tree (C : Ctx G K code RL 4 13 474) (X : SX G K b L xs) (hL : L ≤ 2560) (hi : i + 5 ≤ L) (h : RR σ τ) (nx : NX G K b i) : V G K (wX G σ ++ wM G τ) 256 (lvL G b i) [] := by
  obtain ⟨r, σ', τ', hx, hm, h'⟩ := r_tree h 
  refine v_aload_n (pc := 256) C (F := True) 2 rfl dL_law_256 (fun _ => ?_) trivial
  refine v_callLI (pc := 257) C (w1 := wX G σ) (w2 := wX G σ') (wr := wM G τ) (b := aX G 0) (As := []) (nargs := 0) (fun A => m5_tree (gS G A) K.2.1 σ r σ' hx) mw_150 mw_151 mw_152 mw_2 mw_153 rc_5 ⟨by decide +kernel, by decide +kernel, by decide +kernel⟩ ⟨(Nat.le_of_ble_eq_true rfl), (Nat.le_of_ble_eq_true rfl)⟩ rfl (Nat.le_of_ble_eq_true rfl) dL_law_257 ?_
  refine v_aload_n (pc := 260) C (F := True) 1 rfl dL_law_260 (fun _ => ?_) trivial
  refine v_flip ?_
  refine v_callLI (pc := 261) C (w1 := wM G τ) (w2 := wM G τ') (wr := wX G σ') (b := aM G 0) (As := []) (nargs := 0) (fun A => m6_tree (gS G A) K.2.1 τ r τ' hm) mw_307 mw_308 mw_309 mw_5 mw_310 rc_6 ⟨by decide +kernel, by decide +kernel, by decide +kernel⟩ ⟨(Nat.le_of_ble_eq_true rfl), (Nat.le_of_ble_eq_true rfl)⟩ rfl (Nat.le_of_ble_eq_true rfl) dL_law_261 ?_
  refine v_flip ?_
  refine (?_ : tp (if r = r then some () else (none : Option Unit)) (fun _ => True) → _) ⟨(), if_pos rfl, trivial⟩
  refine v_icmp_eq (pc := 264) C 1293 dL_law_264 (by decide) (fun _ => ?_) tp_no
  exact nx σ' τ' h'
set_option maxHeartbeats 4000000 in
set_option maxRecDepth 100000 in
theorem lc_branch (C : Ctx G K code RL 4 13 474) (X : SX G K b L xs) (hL : L ≤ 2560) (hi : i + 5 ≤ L) (h : RR σ τ) (nx : NX G K b i) : V G K (wX G σ ++ wM G τ) 269 (lvL G b i) [] := by
  obtain ⟨r, σ', τ', hx, hm, h'⟩ := r_branch h (xs (Int32.toNatClampNeg (nI i + 1))) (xs (Int32.toNatClampNeg (nI i + 2)))
  obtain ⟨hx, eσ⟩ := pI_some hx
  rw [eσ] at h'
  obtain ⟨hm, eτ⟩ := pI_some hm
  rw [eτ] at h'
  refine v_aload_n (pc := 269) C (F := True) 2 rfl dL_law_269 (fun _ => ?_) trivial
  refine v_aload_n (pc := 270) C (F := True) 3 rfl dL_law_270 (fun _ => ?_) trivial
  refine v_iload_n (pc := 271) C (F := True) 0 rfl dL_law_271 (fun _ => ?_) trivial
  refine v_iconst (pc := 272) C (F := True) 1 dL_law_272 (by decide) (fun _ => ?_) trivial
  refine v_iadd (pc := 273) C (F := True) dL_law_273 (fun _ => ?_) trivial
  refine v_sld (pc := 274) C X (sin1 hi hL) dL_law_274 ?_
  refine v_aload_n (pc := 275) C (F := True) 3 rfl dL_law_275 (fun _ => ?_) trivial
  refine v_iload_n (pc := 276) C (F := True) 0 rfl dL_law_276 (fun _ => ?_) trivial
  refine v_iconst (pc := 277) C (F := True) 2 dL_law_277 (by decide) (fun _ => ?_) trivial
  refine v_iadd (pc := 278) C (F := True) dL_law_278 (fun _ => ?_) trivial
  refine v_sld (pc := 279) C X (sin2 hi hL) dL_law_279 ?_
  refine v_callLI (pc := 280) C (w1 := wX G σ) (w2 := wX G σ) (wr := wM G τ) (b := aX G 0) (As := [.int (xs (Int32.toNatClampNeg (nI i + 1))), .int (xs (Int32.toNatClampNeg (nI i + 2)))]) (nargs := 2) (fun A => m5_branch (gS G A) K.2.1 _ _ σ r hx) mw_348 mw_349 mw_350 mw_2 mw_351 rc_5 ⟨by decide +kernel, by decide +kernel, by decide +kernel⟩ ⟨(Nat.le_of_ble_eq_true rfl), (Nat.le_of_ble_eq_true rfl)⟩ rfl (Nat.le_of_ble_eq_true rfl) dL_law_280 ?_
  refine v_aload_n (pc := 283) C (F := True) 1 rfl dL_law_283 (fun _ => ?_) trivial
  refine v_aload_n (pc := 284) C (F := True) 3 rfl dL_law_284 (fun _ => ?_) trivial
  refine v_iload_n (pc := 285) C (F := True) 0 rfl dL_law_285 (fun _ => ?_) trivial
  refine v_iconst (pc := 286) C (F := True) 1 dL_law_286 (by decide) (fun _ => ?_) trivial
  refine v_iadd (pc := 287) C (F := True) dL_law_287 (fun _ => ?_) trivial
  refine v_sld (pc := 288) C X (sin1 hi hL) dL_law_288 ?_
  refine v_aload_n (pc := 289) C (F := True) 3 rfl dL_law_289 (fun _ => ?_) trivial
  refine v_iload_n (pc := 290) C (F := True) 0 rfl dL_law_290 (fun _ => ?_) trivial
  refine v_iconst (pc := 291) C (F := True) 2 dL_law_291 (by decide) (fun _ => ?_) trivial
  refine v_iadd (pc := 292) C (F := True) dL_law_292 (fun _ => ?_) trivial
  refine v_sld (pc := 293) C X (sin2 hi hL) dL_law_293 ?_
  refine v_flip ?_
  refine v_callLI (pc := 294) C (w1 := wM G τ) (w2 := wM G τ) (wr := wX G σ) (b := aM G 0) (As := [.int (xs (Int32.toNatClampNeg (nI i + 1))), .int (xs (Int32.toNatClampNeg (nI i + 2)))]) (nargs := 2) (fun A => m6_branch (gS G A) K.2.1 _ _ τ r hm) mw_364 mw_365 mw_366 mw_5 mw_367 rc_6 ⟨by decide +kernel, by decide +kernel, by decide +kernel⟩ ⟨(Nat.le_of_ble_eq_true rfl), (Nat.le_of_ble_eq_true rfl)⟩ rfl (Nat.le_of_ble_eq_true rfl) dL_law_294 ?_
  refine v_flip ?_
  refine (?_ : tp (if r = r then some () else (none : Option Unit)) (fun _ => True) → _) ⟨(), if_pos rfl, trivial⟩
  refine v_icmp_eq (pc := 297) C 1293 dL_law_297 (by decide) (fun _ => ?_) tp_no
  exact nx σ τ h'
set_option maxHeartbeats 4000000 in
set_option maxRecDepth 100000 in
theorem lc_body (C : Ctx G K code RL 4 13 474) (X : SX G K b L xs) (hL : L ≤ 2560) (hi : i + 5 ≤ L) (h : RR σ τ) (nx : NX G K b i) : V G K (wX G σ ++ wM G τ) 302 (lvL G b i) [] := by
  obtain ⟨r, σ', τ', hx, hm, h'⟩ := r_body h (xs (Int32.toNatClampNeg (nI i + 1))) (xs (Int32.toNatClampNeg (nI i + 2)))
  obtain ⟨hx, eσ⟩ := pI_some hx
  rw [eσ] at h'
  obtain ⟨hm, eτ⟩ := pI_some hm
  rw [eτ] at h'
  refine v_aload_n (pc := 302) C (F := True) 2 rfl dL_law_302 (fun _ => ?_) trivial
  refine v_aload_n (pc := 303) C (F := True) 3 rfl dL_law_303 (fun _ => ?_) trivial
  refine v_iload_n (pc := 304) C (F := True) 0 rfl dL_law_304 (fun _ => ?_) trivial
  refine v_iconst (pc := 305) C (F := True) 1 dL_law_305 (by decide) (fun _ => ?_) trivial
  refine v_iadd (pc := 306) C (F := True) dL_law_306 (fun _ => ?_) trivial
  refine v_sld (pc := 307) C X (sin1 hi hL) dL_law_307 ?_
  refine v_aload_n (pc := 308) C (F := True) 3 rfl dL_law_308 (fun _ => ?_) trivial
  refine v_iload_n (pc := 309) C (F := True) 0 rfl dL_law_309 (fun _ => ?_) trivial
  refine v_iconst (pc := 310) C (F := True) 2 dL_law_310 (by decide) (fun _ => ?_) trivial
  refine v_iadd (pc := 311) C (F := True) dL_law_311 (fun _ => ?_) trivial
  refine v_sld (pc := 312) C X (sin2 hi hL) dL_law_312 ?_
  refine v_callLI (pc := 313) C (w1 := wX G σ) (w2 := wX G σ) (wr := wM G τ) (b := aX G 0) (As := [.int (xs (Int32.toNatClampNeg (nI i + 1))), .int (xs (Int32.toNatClampNeg (nI i + 2)))]) (nargs := 2) (fun A => m5_body (gS G A) K.2.1 _ _ σ r hx) mw_380 mw_381 mw_382 mw_2 mw_383 rc_5 ⟨by decide +kernel, by decide +kernel, by decide +kernel⟩ ⟨(Nat.le_of_ble_eq_true rfl), (Nat.le_of_ble_eq_true rfl)⟩ rfl (Nat.le_of_ble_eq_true rfl) dL_law_313 ?_
  refine v_aload_n (pc := 316) C (F := True) 1 rfl dL_law_316 (fun _ => ?_) trivial
  refine v_aload_n (pc := 317) C (F := True) 3 rfl dL_law_317 (fun _ => ?_) trivial
  refine v_iload_n (pc := 318) C (F := True) 0 rfl dL_law_318 (fun _ => ?_) trivial
  refine v_iconst (pc := 319) C (F := True) 1 dL_law_319 (by decide) (fun _ => ?_) trivial
  refine v_iadd (pc := 320) C (F := True) dL_law_320 (fun _ => ?_) trivial
  refine v_sld (pc := 321) C X (sin1 hi hL) dL_law_321 ?_
  refine v_aload_n (pc := 322) C (F := True) 3 rfl dL_law_322 (fun _ => ?_) trivial
  refine v_iload_n (pc := 323) C (F := True) 0 rfl dL_law_323 (fun _ => ?_) trivial
  refine v_iconst (pc := 324) C (F := True) 2 dL_law_324 (by decide) (fun _ => ?_) trivial
  refine v_iadd (pc := 325) C (F := True) dL_law_325 (fun _ => ?_) trivial
  refine v_sld (pc := 326) C X (sin2 hi hL) dL_law_326 ?_
  refine v_flip ?_
  refine v_callLI (pc := 327) C (w1 := wM G τ) (w2 := wM G τ) (wr := wX G σ) (b := aM G 0) (As := [.int (xs (Int32.toNatClampNeg (nI i + 1))), .int (xs (Int32.toNatClampNeg (nI i + 2)))]) (nargs := 2) (fun A => m6_body (gS G A) K.2.1 _ _ τ r hm) mw_392 mw_393 mw_394 mw_5 mw_395 rc_6 ⟨by decide +kernel, by decide +kernel, by decide +kernel⟩ ⟨(Nat.le_of_ble_eq_true rfl), (Nat.le_of_ble_eq_true rfl)⟩ rfl (Nat.le_of_ble_eq_true rfl) dL_law_327 ?_
  refine v_flip ?_
  refine (?_ : tp (if r = r then some () else (none : Option Unit)) (fun _ => True) → _) ⟨(), if_pos rfl, trivial⟩
  refine v_icmp_eq (pc := 330) C 1293 dL_law_330 (by decide) (fun _ => ?_) tp_no
  exact nx σ τ h'
set_option maxHeartbeats 4000000 in
set_option maxRecDepth 100000 in
theorem lc_tune (C : Ctx G K code RL 4 13 474) (X : SX G K b L xs) (hL : L ≤ 2560) (hi : i + 5 ≤ L) (h : RR σ τ) (nx : NX G K b i) : V G K (wX G σ ++ wM G τ) 335 (lvL G b i) [] := by
  obtain ⟨r, σ', τ', hx, hm, h'⟩ := r_tune h (xs (Int32.toNatClampNeg (nI i + 1))) (xs (Int32.toNatClampNeg (nI i + 2)))
  refine v_aload_n (pc := 335) C (F := True) 2 rfl dL_law_335 (fun _ => ?_) trivial
  refine v_aload_n (pc := 336) C (F := True) 3 rfl dL_law_336 (fun _ => ?_) trivial
  refine v_iload_n (pc := 337) C (F := True) 0 rfl dL_law_337 (fun _ => ?_) trivial
  refine v_iconst (pc := 338) C (F := True) 1 dL_law_338 (by decide) (fun _ => ?_) trivial
  refine v_iadd (pc := 339) C (F := True) dL_law_339 (fun _ => ?_) trivial
  refine v_sld (pc := 340) C X (sin1 hi hL) dL_law_340 ?_
  refine v_aload_n (pc := 341) C (F := True) 3 rfl dL_law_341 (fun _ => ?_) trivial
  refine v_iload_n (pc := 342) C (F := True) 0 rfl dL_law_342 (fun _ => ?_) trivial
  refine v_iconst (pc := 343) C (F := True) 2 dL_law_343 (by decide) (fun _ => ?_) trivial
  refine v_iadd (pc := 344) C (F := True) dL_law_344 (fun _ => ?_) trivial
  refine v_sld (pc := 345) C X (sin2 hi hL) dL_law_345 ?_
  refine v_callLI (pc := 346) C (w1 := wX G σ) (w2 := wX G σ') (wr := wM G τ) (b := aX G 0) (As := [.int (xs (Int32.toNatClampNeg (nI i + 1))), .int (xs (Int32.toNatClampNeg (nI i + 2)))]) (nargs := 2) (fun A => m5_tune (gS G A) K.2.1 _ _ σ r σ' hx) mw_404 mw_405 mw_406 mw_2 mw_407 rc_5 ⟨by decide +kernel, by decide +kernel, by decide +kernel⟩ ⟨(Nat.le_of_ble_eq_true rfl), (Nat.le_of_ble_eq_true rfl)⟩ rfl (Nat.le_of_ble_eq_true rfl) dL_law_346 ?_
  refine v_aload_n (pc := 349) C (F := True) 1 rfl dL_law_349 (fun _ => ?_) trivial
  refine v_aload_n (pc := 350) C (F := True) 3 rfl dL_law_350 (fun _ => ?_) trivial
  refine v_iload_n (pc := 351) C (F := True) 0 rfl dL_law_351 (fun _ => ?_) trivial
  refine v_iconst (pc := 352) C (F := True) 1 dL_law_352 (by decide) (fun _ => ?_) trivial
  refine v_iadd (pc := 353) C (F := True) dL_law_353 (fun _ => ?_) trivial
  refine v_sld (pc := 354) C X (sin1 hi hL) dL_law_354 ?_
  refine v_aload_n (pc := 355) C (F := True) 3 rfl dL_law_355 (fun _ => ?_) trivial
  refine v_iload_n (pc := 356) C (F := True) 0 rfl dL_law_356 (fun _ => ?_) trivial
  refine v_iconst (pc := 357) C (F := True) 2 dL_law_357 (by decide) (fun _ => ?_) trivial
  refine v_iadd (pc := 358) C (F := True) dL_law_358 (fun _ => ?_) trivial
  refine v_sld (pc := 359) C X (sin2 hi hL) dL_law_359 ?_
  refine v_flip ?_
  refine v_callLI (pc := 360) C (w1 := wM G τ) (w2 := wM G τ') (wr := wX G σ') (b := aM G 0) (As := [.int (xs (Int32.toNatClampNeg (nI i + 1))), .int (xs (Int32.toNatClampNeg (nI i + 2)))]) (nargs := 2) (fun A => m6_tune (gS G A) K.2.1 _ _ τ r τ' hm) mw_410 mw_411 mw_412 mw_5 mw_413 rc_6 ⟨by decide +kernel, by decide +kernel, by decide +kernel⟩ ⟨(Nat.le_of_ble_eq_true rfl), (Nat.le_of_ble_eq_true rfl)⟩ rfl (Nat.le_of_ble_eq_true rfl) dL_law_360 ?_
  refine v_flip ?_
  refine (?_ : tp (if r = r then some () else (none : Option Unit)) (fun _ => True) → _) ⟨(), if_pos rfl, trivial⟩
  refine v_icmp_eq (pc := 363) C 1293 dL_law_363 (by decide) (fun _ => ?_) tp_no
  exact nx σ' τ' h'
set_option maxHeartbeats 4000000 in
set_option maxRecDepth 100000 in
theorem lc_sawn (C : Ctx G K code RL 4 13 474) (X : SX G K b L xs) (hL : L ≤ 2560) (hi : i + 5 ≤ L) (h : RR σ τ) (nx : NX G K b i) : V G K (wX G σ ++ wM G τ) 368 (lvL G b i) [] := by
  obtain ⟨r, σ', τ', hx, hm, h'⟩ := r_sawn h (xs (Int32.toNatClampNeg (nI i + 1)))
  refine v_aload_n (pc := 368) C (F := True) 2 rfl dL_law_368 (fun _ => ?_) trivial
  refine v_aload_n (pc := 369) C (F := True) 3 rfl dL_law_369 (fun _ => ?_) trivial
  refine v_iload_n (pc := 370) C (F := True) 0 rfl dL_law_370 (fun _ => ?_) trivial
  refine v_iconst (pc := 371) C (F := True) 1 dL_law_371 (by decide) (fun _ => ?_) trivial
  refine v_iadd (pc := 372) C (F := True) dL_law_372 (fun _ => ?_) trivial
  refine v_sld (pc := 373) C X (sin1 hi hL) dL_law_373 ?_
  refine v_callLI (pc := 374) C (w1 := wX G σ) (w2 := wX G σ') (wr := wM G τ) (b := aX G 0) (As := [.int (xs (Int32.toNatClampNeg (nI i + 1)))]) (nargs := 1) (fun A => m5_sawn (gS G A) K.2.1 _ σ r σ' hx) mw_417 mw_418 mw_419 mw_2 mw_420 rc_5 ⟨by decide +kernel, by decide +kernel, by decide +kernel⟩ ⟨(Nat.le_of_ble_eq_true rfl), (Nat.le_of_ble_eq_true rfl)⟩ rfl (Nat.le_of_ble_eq_true rfl) dL_law_374 ?_
  refine v_aload_n (pc := 377) C (F := True) 1 rfl dL_law_377 (fun _ => ?_) trivial
  refine v_aload_n (pc := 378) C (F := True) 3 rfl dL_law_378 (fun _ => ?_) trivial
  refine v_iload_n (pc := 379) C (F := True) 0 rfl dL_law_379 (fun _ => ?_) trivial
  refine v_iconst (pc := 380) C (F := True) 1 dL_law_380 (by decide) (fun _ => ?_) trivial
  refine v_iadd (pc := 381) C (F := True) dL_law_381 (fun _ => ?_) trivial
  refine v_sld (pc := 382) C X (sin1 hi hL) dL_law_382 ?_
  refine v_flip ?_
  refine v_callLI (pc := 383) C (w1 := wM G τ) (w2 := wM G τ') (wr := wX G σ') (b := aM G 0) (As := [.int (xs (Int32.toNatClampNeg (nI i + 1)))]) (nargs := 1) (fun A => m6_sawn (gS G A) K.2.1 _ τ r τ' hm) mw_425 mw_426 mw_427 mw_5 mw_428 rc_6 ⟨by decide +kernel, by decide +kernel, by decide +kernel⟩ ⟨(Nat.le_of_ble_eq_true rfl), (Nat.le_of_ble_eq_true rfl)⟩ rfl (Nat.le_of_ble_eq_true rfl) dL_law_383 ?_
  refine v_flip ?_
  refine (?_ : tp (if r = r then some () else (none : Option Unit)) (fun _ => True) → _) ⟨(), if_pos rfl, trivial⟩
  refine v_icmp_eq (pc := 386) C 1293 dL_law_386 (by decide) (fun _ => ?_) tp_no
  exact nx σ' τ' h'
set_option maxHeartbeats 4000000 in
set_option maxRecDepth 100000 in
theorem lc_step (C : Ctx G K code RL 4 13 474) (X : SX G K b L xs) (hL : L ≤ 2560) (hi : i + 5 ≤ L) (h : RR σ τ) (nx : NX G K b i) : V G K (wX G σ ++ wM G τ) 391 (lvL G b i) [] := by
  obtain ⟨r, σ', τ', hx, hm, h'⟩ := r_step h (xs (Int32.toNatClampNeg (nI i + 1))) (xs (Int32.toNatClampNeg (nI i + 2))) (xs (Int32.toNatClampNeg (nI i + 3)))
  obtain ⟨hx, eσ⟩ := pI_some hx
  rw [eσ] at h'
  refine v_aload_n (pc := 391) C (F := True) 2 rfl dL_law_391 (fun _ => ?_) trivial
  refine v_aload_n (pc := 392) C (F := True) 3 rfl dL_law_392 (fun _ => ?_) trivial
  refine v_iload_n (pc := 393) C (F := True) 0 rfl dL_law_393 (fun _ => ?_) trivial
  refine v_iconst (pc := 394) C (F := True) 1 dL_law_394 (by decide) (fun _ => ?_) trivial
  refine v_iadd (pc := 395) C (F := True) dL_law_395 (fun _ => ?_) trivial
  refine v_sld (pc := 396) C X (sin1 hi hL) dL_law_396 ?_
  refine v_aload_n (pc := 397) C (F := True) 3 rfl dL_law_397 (fun _ => ?_) trivial
  refine v_iload_n (pc := 398) C (F := True) 0 rfl dL_law_398 (fun _ => ?_) trivial
  refine v_iconst (pc := 399) C (F := True) 2 dL_law_399 (by decide) (fun _ => ?_) trivial
  refine v_iadd (pc := 400) C (F := True) dL_law_400 (fun _ => ?_) trivial
  refine v_sld (pc := 401) C X (sin2 hi hL) dL_law_401 ?_
  refine v_aload_n (pc := 402) C (F := True) 3 rfl dL_law_402 (fun _ => ?_) trivial
  refine v_iload_n (pc := 403) C (F := True) 0 rfl dL_law_403 (fun _ => ?_) trivial
  refine v_iconst (pc := 404) C (F := True) 3 dL_law_404 (by decide) (fun _ => ?_) trivial
  refine v_iadd (pc := 405) C (F := True) dL_law_405 (fun _ => ?_) trivial
  refine v_sld (pc := 406) C X (sin3 hi hL) dL_law_406 ?_
  refine v_callLI (pc := 407) C (w1 := wX G σ) (w2 := wX G σ) (wr := wM G τ) (b := aX G 0) (As := [.int (xs (Int32.toNatClampNeg (nI i + 1))), .int (xs (Int32.toNatClampNeg (nI i + 2))), .int (xs (Int32.toNatClampNeg (nI i + 3)))]) (nargs := 3) (fun A => m5_step (gS G A) K.2.1 _ _ _ σ r hx) mw_429 mw_430 mw_431 mw_2 mw_432 rc_5 ⟨by decide +kernel, by decide +kernel, by decide +kernel⟩ ⟨(Nat.le_of_ble_eq_true rfl), (Nat.le_of_ble_eq_true rfl)⟩ rfl (Nat.le_of_ble_eq_true rfl) dL_law_407 ?_
  refine v_aload_n (pc := 410) C (F := True) 1 rfl dL_law_410 (fun _ => ?_) trivial
  refine v_aload_n (pc := 411) C (F := True) 3 rfl dL_law_411 (fun _ => ?_) trivial
  refine v_iload_n (pc := 412) C (F := True) 0 rfl dL_law_412 (fun _ => ?_) trivial
  refine v_iconst (pc := 413) C (F := True) 1 dL_law_413 (by decide) (fun _ => ?_) trivial
  refine v_iadd (pc := 414) C (F := True) dL_law_414 (fun _ => ?_) trivial
  refine v_sld (pc := 415) C X (sin1 hi hL) dL_law_415 ?_
  refine v_aload_n (pc := 416) C (F := True) 3 rfl dL_law_416 (fun _ => ?_) trivial
  refine v_iload_n (pc := 417) C (F := True) 0 rfl dL_law_417 (fun _ => ?_) trivial
  refine v_iconst (pc := 418) C (F := True) 2 dL_law_418 (by decide) (fun _ => ?_) trivial
  refine v_iadd (pc := 419) C (F := True) dL_law_419 (fun _ => ?_) trivial
  refine v_sld (pc := 420) C X (sin2 hi hL) dL_law_420 ?_
  refine v_aload_n (pc := 421) C (F := True) 3 rfl dL_law_421 (fun _ => ?_) trivial
  refine v_iload_n (pc := 422) C (F := True) 0 rfl dL_law_422 (fun _ => ?_) trivial
  refine v_iconst (pc := 423) C (F := True) 3 dL_law_423 (by decide) (fun _ => ?_) trivial
  refine v_iadd (pc := 424) C (F := True) dL_law_424 (fun _ => ?_) trivial
  refine v_sld (pc := 425) C X (sin3 hi hL) dL_law_425 ?_
  refine v_flip ?_
  refine v_callLI (pc := 426) C (w1 := wM G τ) (w2 := wM G τ') (wr := wX G σ) (b := aM G 0) (As := [.int (xs (Int32.toNatClampNeg (nI i + 1))), .int (xs (Int32.toNatClampNeg (nI i + 2))), .int (xs (Int32.toNatClampNeg (nI i + 3)))]) (nargs := 3) (fun A => m6_step (gS G A) K.2.1 _ _ _ τ r τ' hm) mw_454 mw_455 mw_456 mw_5 mw_457 rc_6 ⟨by decide +kernel, by decide +kernel, by decide +kernel⟩ ⟨(Nat.le_of_ble_eq_true rfl), (Nat.le_of_ble_eq_true rfl)⟩ rfl (Nat.le_of_ble_eq_true rfl) dL_law_426 ?_
  refine v_flip ?_
  refine (?_ : tp (if r = r then some () else (none : Option Unit)) (fun _ => True) → _) ⟨(), if_pos rfl, trivial⟩
  refine v_icmp_eq (pc := 429) C 1293 dL_law_429 (by decide) (fun _ => ?_) tp_no
  exact nx σ τ' h'
set_option maxHeartbeats 4000000 in
set_option maxRecDepth 100000 in
theorem lc_holds (C : Ctx G K code RL 4 13 474) (X : SX G K b L xs) (hL : L ≤ 2560) (hi : i + 5 ≤ L) (h : RR σ τ) (nx : NX G K b i) : V G K (wX G σ ++ wM G τ) 434 (lvL G b i) [] := by
  obtain ⟨r, σ', τ', hx, hm, h'⟩ := r_holds h (xs (Int32.toNatClampNeg (nI i + 1))) (xs (Int32.toNatClampNeg (nI i + 2)))
  obtain ⟨hx, eσ⟩ := pI_some hx
  rw [eσ] at h'
  refine v_aload_n (pc := 434) C (F := True) 2 rfl dL_law_434 (fun _ => ?_) trivial
  refine v_aload_n (pc := 435) C (F := True) 3 rfl dL_law_435 (fun _ => ?_) trivial
  refine v_iload_n (pc := 436) C (F := True) 0 rfl dL_law_436 (fun _ => ?_) trivial
  refine v_iconst (pc := 437) C (F := True) 1 dL_law_437 (by decide) (fun _ => ?_) trivial
  refine v_iadd (pc := 438) C (F := True) dL_law_438 (fun _ => ?_) trivial
  refine v_sld (pc := 439) C X (sin1 hi hL) dL_law_439 ?_
  refine v_aload_n (pc := 440) C (F := True) 3 rfl dL_law_440 (fun _ => ?_) trivial
  refine v_iload_n (pc := 441) C (F := True) 0 rfl dL_law_441 (fun _ => ?_) trivial
  refine v_iconst (pc := 442) C (F := True) 2 dL_law_442 (by decide) (fun _ => ?_) trivial
  refine v_iadd (pc := 443) C (F := True) dL_law_443 (fun _ => ?_) trivial
  refine v_sld (pc := 444) C X (sin2 hi hL) dL_law_444 ?_
  refine v_callLI (pc := 445) C (w1 := wX G σ) (w2 := wX G σ) (wr := wM G τ) (b := aX G 0) (As := [.int (xs (Int32.toNatClampNeg (nI i + 1))), .int (xs (Int32.toNatClampNeg (nI i + 2)))]) (nargs := 2) (fun A => m5_holds (gS G A) K.2.1 _ _ σ r hx) mw_482 mw_483 mw_484 mw_2 mw_485 rc_5 ⟨by decide +kernel, by decide +kernel, by decide +kernel⟩ ⟨(Nat.le_of_ble_eq_true rfl), (Nat.le_of_ble_eq_true rfl)⟩ rfl (Nat.le_of_ble_eq_true rfl) dL_law_445 ?_
  refine v_aload_n (pc := 448) C (F := True) 1 rfl dL_law_448 (fun _ => ?_) trivial
  refine v_aload_n (pc := 449) C (F := True) 3 rfl dL_law_449 (fun _ => ?_) trivial
  refine v_iload_n (pc := 450) C (F := True) 0 rfl dL_law_450 (fun _ => ?_) trivial
  refine v_iconst (pc := 451) C (F := True) 1 dL_law_451 (by decide) (fun _ => ?_) trivial
  refine v_iadd (pc := 452) C (F := True) dL_law_452 (fun _ => ?_) trivial
  refine v_sld (pc := 453) C X (sin1 hi hL) dL_law_453 ?_
  refine v_aload_n (pc := 454) C (F := True) 3 rfl dL_law_454 (fun _ => ?_) trivial
  refine v_iload_n (pc := 455) C (F := True) 0 rfl dL_law_455 (fun _ => ?_) trivial
  refine v_iconst (pc := 456) C (F := True) 2 dL_law_456 (by decide) (fun _ => ?_) trivial
  refine v_iadd (pc := 457) C (F := True) dL_law_457 (fun _ => ?_) trivial
  refine v_sld (pc := 458) C X (sin2 hi hL) dL_law_458 ?_
  refine v_flip ?_
  refine v_callLI (pc := 459) C (w1 := wM G τ) (w2 := wM G τ') (wr := wX G σ) (b := aM G 0) (As := [.int (xs (Int32.toNatClampNeg (nI i + 1))), .int (xs (Int32.toNatClampNeg (nI i + 2)))]) (nargs := 2) (fun A => m6_holds (gS G A) K.2.1 _ _ τ r τ' hm) mw_493 mw_494 mw_495 mw_5 mw_496 rc_6 ⟨by decide +kernel, by decide +kernel, by decide +kernel⟩ ⟨(Nat.le_of_ble_eq_true rfl), (Nat.le_of_ble_eq_true rfl)⟩ rfl (Nat.le_of_ble_eq_true rfl) dL_law_459 ?_
  refine v_flip ?_
  refine (?_ : tp (if r = r then some () else (none : Option Unit)) (fun _ => True) → _) ⟨(), if_pos rfl, trivial⟩
  refine v_icmp_eq (pc := 462) C 1293 dL_law_462 (by decide) (fun _ => ?_) tp_no
  exact nx σ τ' h'
set_option maxHeartbeats 4000000 in
set_option maxRecDepth 100000 in
theorem lc_best (C : Ctx G K code RL 4 13 474) (X : SX G K b L xs) (hL : L ≤ 2560) (hi : i + 5 ≤ L) (h : RR σ τ) (nx : NX G K b i) : V G K (wX G σ ++ wM G τ) 467 (lvL G b i) [] := by
  obtain ⟨r, σ', τ', hx, hm, h'⟩ := r_best h (xs (Int32.toNatClampNeg (nI i + 1))) (xs (Int32.toNatClampNeg (nI i + 2))) (xs (Int32.toNatClampNeg (nI i + 3))) (xs (Int32.toNatClampNeg (nI i + 4)))
  refine v_aload_n (pc := 467) C (F := True) 2 rfl dL_law_467 (fun _ => ?_) trivial
  refine v_aload_n (pc := 468) C (F := True) 3 rfl dL_law_468 (fun _ => ?_) trivial
  refine v_iload_n (pc := 469) C (F := True) 0 rfl dL_law_469 (fun _ => ?_) trivial
  refine v_iconst (pc := 470) C (F := True) 1 dL_law_470 (by decide) (fun _ => ?_) trivial
  refine v_iadd (pc := 471) C (F := True) dL_law_471 (fun _ => ?_) trivial
  refine v_sld (pc := 472) C X (sin1 hi hL) dL_law_472 ?_
  refine v_aload_n (pc := 473) C (F := True) 3 rfl dL_law_473 (fun _ => ?_) trivial
  refine v_iload_n (pc := 474) C (F := True) 0 rfl dL_law_474 (fun _ => ?_) trivial
  refine v_iconst (pc := 475) C (F := True) 2 dL_law_475 (by decide) (fun _ => ?_) trivial
  refine v_iadd (pc := 476) C (F := True) dL_law_476 (fun _ => ?_) trivial
  refine v_sld (pc := 477) C X (sin2 hi hL) dL_law_477 ?_
  refine v_aload_n (pc := 478) C (F := True) 3 rfl dL_law_478 (fun _ => ?_) trivial
  refine v_iload_n (pc := 479) C (F := True) 0 rfl dL_law_479 (fun _ => ?_) trivial
  refine v_iconst (pc := 480) C (F := True) 3 dL_law_480 (by decide) (fun _ => ?_) trivial
  refine v_iadd (pc := 481) C (F := True) dL_law_481 (fun _ => ?_) trivial
  refine v_sld (pc := 482) C X (sin3 hi hL) dL_law_482 ?_
  refine v_aload_n (pc := 483) C (F := True) 3 rfl dL_law_483 (fun _ => ?_) trivial
  refine v_iload_n (pc := 484) C (F := True) 0 rfl dL_law_484 (fun _ => ?_) trivial
  refine v_iconst (pc := 485) C (F := True) 4 dL_law_485 (by decide) (fun _ => ?_) trivial
  refine v_iadd (pc := 486) C (F := True) dL_law_486 (fun _ => ?_) trivial
  refine v_sld (pc := 487) C X (sin4 hi hL) dL_law_487 ?_
  refine v_callLL (pc := 488) C (w1 := wX G σ) (w2 := wX G σ') (wr := wM G τ) (b := aX G 0) (As := [.int (xs (Int32.toNatClampNeg (nI i + 1))), .int (xs (Int32.toNatClampNeg (nI i + 2))), .int (xs (Int32.toNatClampNeg (nI i + 3))), .int (xs (Int32.toNatClampNeg (nI i + 4)))]) (nargs := 4) (fun A => m5_best (gS G A) K.2.1 _ _ _ _ σ r σ' hx) mw_501 mw_502 mw_503 mw_2 mw_504 rc_5 ⟨by decide +kernel, by decide +kernel, by decide +kernel⟩ ⟨(Nat.le_of_ble_eq_true rfl), (Nat.le_of_ble_eq_true rfl)⟩ rfl (Nat.le_of_ble_eq_true rfl) dL_law_488 ?_
  refine v_aload_n (pc := 491) C (F := True) 1 rfl dL_law_491 (fun _ => ?_) trivial
  refine v_aload_n (pc := 492) C (F := True) 3 rfl dL_law_492 (fun _ => ?_) trivial
  refine v_iload_n (pc := 493) C (F := True) 0 rfl dL_law_493 (fun _ => ?_) trivial
  refine v_iconst (pc := 494) C (F := True) 1 dL_law_494 (by decide) (fun _ => ?_) trivial
  refine v_iadd (pc := 495) C (F := True) dL_law_495 (fun _ => ?_) trivial
  refine v_sld (pc := 496) C X (sin1 hi hL) dL_law_496 ?_
  refine v_aload_n (pc := 497) C (F := True) 3 rfl dL_law_497 (fun _ => ?_) trivial
  refine v_iload_n (pc := 498) C (F := True) 0 rfl dL_law_498 (fun _ => ?_) trivial
  refine v_iconst (pc := 499) C (F := True) 2 dL_law_499 (by decide) (fun _ => ?_) trivial
  refine v_iadd (pc := 500) C (F := True) dL_law_500 (fun _ => ?_) trivial
  refine v_sld (pc := 501) C X (sin2 hi hL) dL_law_501 ?_
  refine v_aload_n (pc := 502) C (F := True) 3 rfl dL_law_502 (fun _ => ?_) trivial
  refine v_iload_n (pc := 503) C (F := True) 0 rfl dL_law_503 (fun _ => ?_) trivial
  refine v_iconst (pc := 504) C (F := True) 3 dL_law_504 (by decide) (fun _ => ?_) trivial
  refine v_iadd (pc := 505) C (F := True) dL_law_505 (fun _ => ?_) trivial
  refine v_sld (pc := 506) C X (sin3 hi hL) dL_law_506 ?_
  refine v_aload_n (pc := 507) C (F := True) 3 rfl dL_law_507 (fun _ => ?_) trivial
  refine v_iload_n (pc := 508) C (F := True) 0 rfl dL_law_508 (fun _ => ?_) trivial
  refine v_iconst (pc := 509) C (F := True) 4 dL_law_509 (by decide) (fun _ => ?_) trivial
  refine v_iadd (pc := 510) C (F := True) dL_law_510 (fun _ => ?_) trivial
  refine v_sld (pc := 511) C X (sin4 hi hL) dL_law_511 ?_
  refine v_flip ?_
  refine v_callLL (pc := 512) C (w1 := wM G τ) (w2 := wM G τ') (wr := wX G σ') (b := aM G 0) (As := [.int (xs (Int32.toNatClampNeg (nI i + 1))), .int (xs (Int32.toNatClampNeg (nI i + 2))), .int (xs (Int32.toNatClampNeg (nI i + 3))), .int (xs (Int32.toNatClampNeg (nI i + 4)))]) (nargs := 4) (fun A => m6_best (gS G A) K.2.1 _ _ _ _ τ r τ' hm) mw_554 mw_555 mw_556 mw_5 mw_557 rc_6 ⟨by decide +kernel, by decide +kernel, by decide +kernel⟩ ⟨(Nat.le_of_ble_eq_true rfl), (Nat.le_of_ble_eq_true rfl)⟩ rfl (Nat.le_of_ble_eq_true rfl) dL_law_512 ?_
  refine v_flip ?_
  refine (?_ : tp (if r = r then some () else (none : Option Unit)) (fun _ => True) → _) ⟨(), if_pos rfl, trivial⟩
  refine v_lcmp_eq (pc := 515) C 1293 dL_law_515 dL_law_516 (by decide) (fun _ => ?_) tp_no
  exact nx σ' τ' h'
set_option maxHeartbeats 4000000 in
set_option maxRecDepth 100000 in
theorem lc_high (C : Ctx G K code RL 4 13 474) (X : SX G K b L xs) (hL : L ≤ 2560) (hi : i + 5 ≤ L) (h : RR σ τ) (nx : NX G K b i) : V G K (wX G σ ++ wM G τ) 521 (lvL G b i) [] := by
  obtain ⟨r, σ', τ', hx, hm, h'⟩ := r_high h (xs (Int32.toNatClampNeg (nI i + 1))) (xs (Int32.toNatClampNeg (nI i + 2)))
  refine v_aload_n (pc := 521) C (F := True) 2 rfl dL_law_521 (fun _ => ?_) trivial
  refine v_aload_n (pc := 522) C (F := True) 3 rfl dL_law_522 (fun _ => ?_) trivial
  refine v_iload_n (pc := 523) C (F := True) 0 rfl dL_law_523 (fun _ => ?_) trivial
  refine v_iconst (pc := 524) C (F := True) 1 dL_law_524 (by decide) (fun _ => ?_) trivial
  refine v_iadd (pc := 525) C (F := True) dL_law_525 (fun _ => ?_) trivial
  refine v_sld (pc := 526) C X (sin1 hi hL) dL_law_526 ?_
  refine v_aload_n (pc := 527) C (F := True) 3 rfl dL_law_527 (fun _ => ?_) trivial
  refine v_iload_n (pc := 528) C (F := True) 0 rfl dL_law_528 (fun _ => ?_) trivial
  refine v_iconst (pc := 529) C (F := True) 2 dL_law_529 (by decide) (fun _ => ?_) trivial
  refine v_iadd (pc := 530) C (F := True) dL_law_530 (fun _ => ?_) trivial
  refine v_sld (pc := 531) C X (sin2 hi hL) dL_law_531 ?_
  refine v_callLI (pc := 532) C (w1 := wX G σ) (w2 := wX G σ') (wr := wM G τ) (b := aX G 0) (As := [.int (xs (Int32.toNatClampNeg (nI i + 1))), .int (xs (Int32.toNatClampNeg (nI i + 2)))]) (nargs := 2) (fun A => m5_high (gS G A) K.2.1 _ _ σ r σ' hx) mw_576 mw_577 mw_578 mw_2 mw_579 rc_5 ⟨by decide +kernel, by decide +kernel, by decide +kernel⟩ ⟨(Nat.le_of_ble_eq_true rfl), (Nat.le_of_ble_eq_true rfl)⟩ rfl (Nat.le_of_ble_eq_true rfl) dL_law_532 ?_
  refine v_aload_n (pc := 535) C (F := True) 1 rfl dL_law_535 (fun _ => ?_) trivial
  refine v_aload_n (pc := 536) C (F := True) 3 rfl dL_law_536 (fun _ => ?_) trivial
  refine v_iload_n (pc := 537) C (F := True) 0 rfl dL_law_537 (fun _ => ?_) trivial
  refine v_iconst (pc := 538) C (F := True) 1 dL_law_538 (by decide) (fun _ => ?_) trivial
  refine v_iadd (pc := 539) C (F := True) dL_law_539 (fun _ => ?_) trivial
  refine v_sld (pc := 540) C X (sin1 hi hL) dL_law_540 ?_
  refine v_aload_n (pc := 541) C (F := True) 3 rfl dL_law_541 (fun _ => ?_) trivial
  refine v_iload_n (pc := 542) C (F := True) 0 rfl dL_law_542 (fun _ => ?_) trivial
  refine v_iconst (pc := 543) C (F := True) 2 dL_law_543 (by decide) (fun _ => ?_) trivial
  refine v_iadd (pc := 544) C (F := True) dL_law_544 (fun _ => ?_) trivial
  refine v_sld (pc := 545) C X (sin2 hi hL) dL_law_545 ?_
  refine v_flip ?_
  refine v_callLI (pc := 546) C (w1 := wM G τ) (w2 := wM G τ') (wr := wX G σ') (b := aM G 0) (As := [.int (xs (Int32.toNatClampNeg (nI i + 1))), .int (xs (Int32.toNatClampNeg (nI i + 2)))]) (nargs := 2) (fun A => m6_high (gS G A) K.2.1 _ _ τ r τ' hm) mw_609 mw_610 mw_611 mw_5 mw_612 rc_6 ⟨by decide +kernel, by decide +kernel, by decide +kernel⟩ ⟨(Nat.le_of_ble_eq_true rfl), (Nat.le_of_ble_eq_true rfl)⟩ rfl (Nat.le_of_ble_eq_true rfl) dL_law_546 ?_
  refine v_flip ?_
  refine (?_ : tp (if r = r then some () else (none : Option Unit)) (fun _ => True) → _) ⟨(), if_pos rfl, trivial⟩
  refine v_icmp_eq (pc := 549) C 1293 dL_law_549 (by decide) (fun _ => ?_) tp_no
  exact nx σ' τ' h'
set_option maxHeartbeats 4000000 in
set_option maxRecDepth 100000 in
theorem lc_sure (C : Ctx G K code RL 4 13 474) (X : SX G K b L xs) (hL : L ≤ 2560) (hi : i + 5 ≤ L) (h : RR σ τ) (nx : NX G K b i) : V G K (wX G σ ++ wM G τ) 554 (lvL G b i) [] := by
  obtain ⟨r, σ', τ', hx, hm, h'⟩ := r_sure h (xs (Int32.toNatClampNeg (nI i + 1))) (xs (Int32.toNatClampNeg (nI i + 2)))
  refine v_aload_n (pc := 554) C (F := True) 2 rfl dL_law_554 (fun _ => ?_) trivial
  refine v_aload_n (pc := 555) C (F := True) 3 rfl dL_law_555 (fun _ => ?_) trivial
  refine v_iload_n (pc := 556) C (F := True) 0 rfl dL_law_556 (fun _ => ?_) trivial
  refine v_iconst (pc := 557) C (F := True) 1 dL_law_557 (by decide) (fun _ => ?_) trivial
  refine v_iadd (pc := 558) C (F := True) dL_law_558 (fun _ => ?_) trivial
  refine v_sld (pc := 559) C X (sin1 hi hL) dL_law_559 ?_
  refine v_aload_n (pc := 560) C (F := True) 3 rfl dL_law_560 (fun _ => ?_) trivial
  refine v_iload_n (pc := 561) C (F := True) 0 rfl dL_law_561 (fun _ => ?_) trivial
  refine v_iconst (pc := 562) C (F := True) 2 dL_law_562 (by decide) (fun _ => ?_) trivial
  refine v_iadd (pc := 563) C (F := True) dL_law_563 (fun _ => ?_) trivial
  refine v_sld (pc := 564) C X (sin2 hi hL) dL_law_564 ?_
  refine v_callLI (pc := 565) C (w1 := wX G σ) (w2 := wX G σ') (wr := wM G τ) (b := aX G 0) (As := [.int (xs (Int32.toNatClampNeg (nI i + 1))), .int (xs (Int32.toNatClampNeg (nI i + 2)))]) (nargs := 2) (fun A => m5_sure (gS G A) K.2.1 _ _ σ r σ' hx) mw_626 mw_627 mw_628 mw_2 mw_629 rc_5 ⟨by decide +kernel, by decide +kernel, by decide +kernel⟩ ⟨(Nat.le_of_ble_eq_true rfl), (Nat.le_of_ble_eq_true rfl)⟩ rfl (Nat.le_of_ble_eq_true rfl) dL_law_565 ?_
  refine v_aload_n (pc := 568) C (F := True) 1 rfl dL_law_568 (fun _ => ?_) trivial
  refine v_aload_n (pc := 569) C (F := True) 3 rfl dL_law_569 (fun _ => ?_) trivial
  refine v_iload_n (pc := 570) C (F := True) 0 rfl dL_law_570 (fun _ => ?_) trivial
  refine v_iconst (pc := 571) C (F := True) 1 dL_law_571 (by decide) (fun _ => ?_) trivial
  refine v_iadd (pc := 572) C (F := True) dL_law_572 (fun _ => ?_) trivial
  refine v_sld (pc := 573) C X (sin1 hi hL) dL_law_573 ?_
  refine v_aload_n (pc := 574) C (F := True) 3 rfl dL_law_574 (fun _ => ?_) trivial
  refine v_iload_n (pc := 575) C (F := True) 0 rfl dL_law_575 (fun _ => ?_) trivial
  refine v_iconst (pc := 576) C (F := True) 2 dL_law_576 (by decide) (fun _ => ?_) trivial
  refine v_iadd (pc := 577) C (F := True) dL_law_577 (fun _ => ?_) trivial
  refine v_sld (pc := 578) C X (sin2 hi hL) dL_law_578 ?_
  refine v_flip ?_
  refine v_callLI (pc := 579) C (w1 := wM G τ) (w2 := wM G τ') (wr := wX G σ') (b := aM G 0) (As := [.int (xs (Int32.toNatClampNeg (nI i + 1))), .int (xs (Int32.toNatClampNeg (nI i + 2)))]) (nargs := 2) (fun A => m6_sure (gS G A) K.2.1 _ _ τ r τ' hm) mw_631 mw_632 mw_633 mw_5 mw_634 rc_6 ⟨by decide +kernel, by decide +kernel, by decide +kernel⟩ ⟨(Nat.le_of_ble_eq_true rfl), (Nat.le_of_ble_eq_true rfl)⟩ rfl (Nat.le_of_ble_eq_true rfl) dL_law_579 ?_
  refine v_flip ?_
  refine (?_ : tp (if r = r then some () else (none : Option Unit)) (fun _ => True) → _) ⟨(), if_pos rfl, trivial⟩
  refine v_icmp_eq (pc := 582) C 1293 dL_law_582 (by decide) (fun _ => ?_) tp_no
  exact nx σ' τ' h'
set_option maxHeartbeats 4000000 in
set_option maxRecDepth 100000 in
theorem lc_help (C : Ctx G K code RL 4 13 474) (X : SX G K b L xs) (hL : L ≤ 2560) (hi : i + 5 ≤ L) (h : RR σ τ) (nx : NX G K b i) : V G K (wX G σ ++ wM G τ) 587 (lvL G b i) [] := by
  obtain ⟨r, σ', τ', hx, hm, h'⟩ := r_help h (xs (Int32.toNatClampNeg (nI i + 1))) (xs (Int32.toNatClampNeg (nI i + 2)))
  refine v_aload_n (pc := 587) C (F := True) 2 rfl dL_law_587 (fun _ => ?_) trivial
  refine v_aload_n (pc := 588) C (F := True) 3 rfl dL_law_588 (fun _ => ?_) trivial
  refine v_iload_n (pc := 589) C (F := True) 0 rfl dL_law_589 (fun _ => ?_) trivial
  refine v_iconst (pc := 590) C (F := True) 1 dL_law_590 (by decide) (fun _ => ?_) trivial
  refine v_iadd (pc := 591) C (F := True) dL_law_591 (fun _ => ?_) trivial
  refine v_sld (pc := 592) C X (sin1 hi hL) dL_law_592 ?_
  refine v_aload_n (pc := 593) C (F := True) 3 rfl dL_law_593 (fun _ => ?_) trivial
  refine v_iload_n (pc := 594) C (F := True) 0 rfl dL_law_594 (fun _ => ?_) trivial
  refine v_iconst (pc := 595) C (F := True) 2 dL_law_595 (by decide) (fun _ => ?_) trivial
  refine v_iadd (pc := 596) C (F := True) dL_law_596 (fun _ => ?_) trivial
  refine v_sld (pc := 597) C X (sin2 hi hL) dL_law_597 ?_
  refine v_callLI (pc := 598) C (w1 := wX G σ) (w2 := wX G σ') (wr := wM G τ) (b := aX G 0) (As := [.int (xs (Int32.toNatClampNeg (nI i + 1))), .int (xs (Int32.toNatClampNeg (nI i + 2)))]) (nargs := 2) (fun A => m5_help (gS G A) K.2.1 _ _ σ r σ' hx) mw_635 mw_636 mw_637 mw_2 mw_638 rc_5 ⟨by decide +kernel, by decide +kernel, by decide +kernel⟩ ⟨(Nat.le_of_ble_eq_true rfl), (Nat.le_of_ble_eq_true rfl)⟩ rfl (Nat.le_of_ble_eq_true rfl) dL_law_598 ?_
  refine v_aload_n (pc := 601) C (F := True) 1 rfl dL_law_601 (fun _ => ?_) trivial
  refine v_aload_n (pc := 602) C (F := True) 3 rfl dL_law_602 (fun _ => ?_) trivial
  refine v_iload_n (pc := 603) C (F := True) 0 rfl dL_law_603 (fun _ => ?_) trivial
  refine v_iconst (pc := 604) C (F := True) 1 dL_law_604 (by decide) (fun _ => ?_) trivial
  refine v_iadd (pc := 605) C (F := True) dL_law_605 (fun _ => ?_) trivial
  refine v_sld (pc := 606) C X (sin1 hi hL) dL_law_606 ?_
  refine v_aload_n (pc := 607) C (F := True) 3 rfl dL_law_607 (fun _ => ?_) trivial
  refine v_iload_n (pc := 608) C (F := True) 0 rfl dL_law_608 (fun _ => ?_) trivial
  refine v_iconst (pc := 609) C (F := True) 2 dL_law_609 (by decide) (fun _ => ?_) trivial
  refine v_iadd (pc := 610) C (F := True) dL_law_610 (fun _ => ?_) trivial
  refine v_sld (pc := 611) C X (sin2 hi hL) dL_law_611 ?_
  refine v_flip ?_
  refine v_callLI (pc := 612) C (w1 := wM G τ) (w2 := wM G τ') (wr := wX G σ') (b := aM G 0) (As := [.int (xs (Int32.toNatClampNeg (nI i + 1))), .int (xs (Int32.toNatClampNeg (nI i + 2)))]) (nargs := 2) (fun A => m6_help (gS G A) K.2.1 _ _ τ r τ' hm) mw_639 mw_640 mw_641 mw_5 mw_642 rc_6 ⟨by decide +kernel, by decide +kernel, by decide +kernel⟩ ⟨(Nat.le_of_ble_eq_true rfl), (Nat.le_of_ble_eq_true rfl)⟩ rfl (Nat.le_of_ble_eq_true rfl) dL_law_612 ?_
  refine v_flip ?_
  refine (?_ : tp (if r = r then some () else (none : Option Unit)) (fun _ => True) → _) ⟨(), if_pos rfl, trivial⟩
  refine v_icmp_eq (pc := 615) C 1293 dL_law_615 (by decide) (fun _ => ?_) tp_no
  exact nx σ' τ' h'
set_option maxHeartbeats 4000000 in
set_option maxRecDepth 100000 in
theorem lc_stuck (C : Ctx G K code RL 4 13 474) (X : SX G K b L xs) (hL : L ≤ 2560) (hi : i + 5 ≤ L) (h : RR σ τ) (nx : NX G K b i) : V G K (wX G σ ++ wM G τ) 620 (lvL G b i) [] := by
  obtain ⟨r, σ', τ', hx, hm, h'⟩ := r_stuck h (xs (Int32.toNatClampNeg (nI i + 1))) (xs (Int32.toNatClampNeg (nI i + 2)))
  refine v_aload_n (pc := 620) C (F := True) 2 rfl dL_law_620 (fun _ => ?_) trivial
  refine v_aload_n (pc := 621) C (F := True) 3 rfl dL_law_621 (fun _ => ?_) trivial
  refine v_iload_n (pc := 622) C (F := True) 0 rfl dL_law_622 (fun _ => ?_) trivial
  refine v_iconst (pc := 623) C (F := True) 1 dL_law_623 (by decide) (fun _ => ?_) trivial
  refine v_iadd (pc := 624) C (F := True) dL_law_624 (fun _ => ?_) trivial
  refine v_sld (pc := 625) C X (sin1 hi hL) dL_law_625 ?_
  refine v_aload_n (pc := 626) C (F := True) 3 rfl dL_law_626 (fun _ => ?_) trivial
  refine v_iload_n (pc := 627) C (F := True) 0 rfl dL_law_627 (fun _ => ?_) trivial
  refine v_iconst (pc := 628) C (F := True) 2 dL_law_628 (by decide) (fun _ => ?_) trivial
  refine v_iadd (pc := 629) C (F := True) dL_law_629 (fun _ => ?_) trivial
  refine v_sld (pc := 630) C X (sin2 hi hL) dL_law_630 ?_
  refine v_callLI (pc := 631) C (w1 := wX G σ) (w2 := wX G σ') (wr := wM G τ) (b := aX G 0) (As := [.int (xs (Int32.toNatClampNeg (nI i + 1))), .int (xs (Int32.toNatClampNeg (nI i + 2)))]) (nargs := 2) (fun A => m5_stuck (gS G A) K.2.1 _ _ σ r σ' hx) mw_643 mw_644 mw_645 mw_2 mw_646 rc_5 ⟨by decide +kernel, by decide +kernel, by decide +kernel⟩ ⟨(Nat.le_of_ble_eq_true rfl), (Nat.le_of_ble_eq_true rfl)⟩ rfl (Nat.le_of_ble_eq_true rfl) dL_law_631 ?_
  refine v_aload_n (pc := 634) C (F := True) 1 rfl dL_law_634 (fun _ => ?_) trivial
  refine v_aload_n (pc := 635) C (F := True) 3 rfl dL_law_635 (fun _ => ?_) trivial
  refine v_iload_n (pc := 636) C (F := True) 0 rfl dL_law_636 (fun _ => ?_) trivial
  refine v_iconst (pc := 637) C (F := True) 1 dL_law_637 (by decide) (fun _ => ?_) trivial
  refine v_iadd (pc := 638) C (F := True) dL_law_638 (fun _ => ?_) trivial
  refine v_sld (pc := 639) C X (sin1 hi hL) dL_law_639 ?_
  refine v_aload_n (pc := 640) C (F := True) 3 rfl dL_law_640 (fun _ => ?_) trivial
  refine v_iload_n (pc := 641) C (F := True) 0 rfl dL_law_641 (fun _ => ?_) trivial
  refine v_iconst (pc := 642) C (F := True) 2 dL_law_642 (by decide) (fun _ => ?_) trivial
  refine v_iadd (pc := 643) C (F := True) dL_law_643 (fun _ => ?_) trivial
  refine v_sld (pc := 644) C X (sin2 hi hL) dL_law_644 ?_
  refine v_flip ?_
  refine v_callLI (pc := 645) C (w1 := wM G τ) (w2 := wM G τ') (wr := wX G σ') (b := aM G 0) (As := [.int (xs (Int32.toNatClampNeg (nI i + 1))), .int (xs (Int32.toNatClampNeg (nI i + 2)))]) (nargs := 2) (fun A => m6_stuck (gS G A) K.2.1 _ _ τ r τ' hm) mw_647 mw_648 mw_649 mw_5 mw_650 rc_6 ⟨by decide +kernel, by decide +kernel, by decide +kernel⟩ ⟨(Nat.le_of_ble_eq_true rfl), (Nat.le_of_ble_eq_true rfl)⟩ rfl (Nat.le_of_ble_eq_true rfl) dL_law_645 ?_
  refine v_flip ?_
  refine (?_ : tp (if r = r then some () else (none : Option Unit)) (fun _ => True) → _) ⟨(), if_pos rfl, trivial⟩
  refine v_icmp_eq (pc := 648) C 1293 dL_law_648 (by decide) (fun _ => ?_) tp_no
  exact nx σ' τ' h'
set_option maxHeartbeats 4000000 in
set_option maxRecDepth 100000 in
theorem lc_rubbed (C : Ctx G K code RL 4 13 474) (X : SX G K b L xs) (hL : L ≤ 2560) (hi : i + 5 ≤ L) (h : RR σ τ) (nx : NX G K b i) : V G K (wX G σ ++ wM G τ) 653 (lvL G b i) [] := by
  obtain ⟨r, σ', τ', hx, hm, h'⟩ := r_rubbed h (xs (Int32.toNatClampNeg (nI i + 1))) (xs (Int32.toNatClampNeg (nI i + 2))) (xs (Int32.toNatClampNeg (nI i + 3)))
  refine v_aload_n (pc := 653) C (F := True) 2 rfl dL_law_653 (fun _ => ?_) trivial
  refine v_aload_n (pc := 654) C (F := True) 3 rfl dL_law_654 (fun _ => ?_) trivial
  refine v_iload_n (pc := 655) C (F := True) 0 rfl dL_law_655 (fun _ => ?_) trivial
  refine v_iconst (pc := 656) C (F := True) 1 dL_law_656 (by decide) (fun _ => ?_) trivial
  refine v_iadd (pc := 657) C (F := True) dL_law_657 (fun _ => ?_) trivial
  refine v_sld (pc := 658) C X (sin1 hi hL) dL_law_658 ?_
  refine v_aload_n (pc := 659) C (F := True) 3 rfl dL_law_659 (fun _ => ?_) trivial
  refine v_iload_n (pc := 660) C (F := True) 0 rfl dL_law_660 (fun _ => ?_) trivial
  refine v_iconst (pc := 661) C (F := True) 2 dL_law_661 (by decide) (fun _ => ?_) trivial
  refine v_iadd (pc := 662) C (F := True) dL_law_662 (fun _ => ?_) trivial
  refine v_sld (pc := 663) C X (sin2 hi hL) dL_law_663 ?_
  refine v_aload_n (pc := 664) C (F := True) 3 rfl dL_law_664 (fun _ => ?_) trivial
  refine v_iload_n (pc := 665) C (F := True) 0 rfl dL_law_665 (fun _ => ?_) trivial
  refine v_iconst (pc := 666) C (F := True) 3 dL_law_666 (by decide) (fun _ => ?_) trivial
  refine v_iadd (pc := 667) C (F := True) dL_law_667 (fun _ => ?_) trivial
  refine v_sld (pc := 668) C X (sin3 hi hL) dL_law_668 ?_
  refine v_callLL (pc := 669) C (w1 := wX G σ) (w2 := wX G σ') (wr := wM G τ) (b := aX G 0) (As := [.int (xs (Int32.toNatClampNeg (nI i + 1))), .int (xs (Int32.toNatClampNeg (nI i + 2))), .int (xs (Int32.toNatClampNeg (nI i + 3)))]) (nargs := 3) (fun A => m5_rubbed (gS G A) K.2.1 _ _ _ σ r σ' hx) mw_651 mw_652 mw_653 mw_2 mw_654 rc_5 ⟨by decide +kernel, by decide +kernel, by decide +kernel⟩ ⟨(Nat.le_of_ble_eq_true rfl), (Nat.le_of_ble_eq_true rfl)⟩ rfl (Nat.le_of_ble_eq_true rfl) dL_law_669 ?_
  refine v_aload_n (pc := 672) C (F := True) 1 rfl dL_law_672 (fun _ => ?_) trivial
  refine v_aload_n (pc := 673) C (F := True) 3 rfl dL_law_673 (fun _ => ?_) trivial
  refine v_iload_n (pc := 674) C (F := True) 0 rfl dL_law_674 (fun _ => ?_) trivial
  refine v_iconst (pc := 675) C (F := True) 1 dL_law_675 (by decide) (fun _ => ?_) trivial
  refine v_iadd (pc := 676) C (F := True) dL_law_676 (fun _ => ?_) trivial
  refine v_sld (pc := 677) C X (sin1 hi hL) dL_law_677 ?_
  refine v_aload_n (pc := 678) C (F := True) 3 rfl dL_law_678 (fun _ => ?_) trivial
  refine v_iload_n (pc := 679) C (F := True) 0 rfl dL_law_679 (fun _ => ?_) trivial
  refine v_iconst (pc := 680) C (F := True) 2 dL_law_680 (by decide) (fun _ => ?_) trivial
  refine v_iadd (pc := 681) C (F := True) dL_law_681 (fun _ => ?_) trivial
  refine v_sld (pc := 682) C X (sin2 hi hL) dL_law_682 ?_
  refine v_aload_n (pc := 683) C (F := True) 3 rfl dL_law_683 (fun _ => ?_) trivial
  refine v_iload_n (pc := 684) C (F := True) 0 rfl dL_law_684 (fun _ => ?_) trivial
  refine v_iconst (pc := 685) C (F := True) 3 dL_law_685 (by decide) (fun _ => ?_) trivial
  refine v_iadd (pc := 686) C (F := True) dL_law_686 (fun _ => ?_) trivial
  refine v_sld (pc := 687) C X (sin3 hi hL) dL_law_687 ?_
  refine v_flip ?_
  refine v_callLL (pc := 688) C (w1 := wM G τ) (w2 := wM G τ') (wr := wX G σ') (b := aM G 0) (As := [.int (xs (Int32.toNatClampNeg (nI i + 1))), .int (xs (Int32.toNatClampNeg (nI i + 2))), .int (xs (Int32.toNatClampNeg (nI i + 3)))]) (nargs := 3) (fun A => m6_rubbed (gS G A) K.2.1 _ _ _ τ r τ' hm) mw_672 mw_673 mw_674 mw_5 mw_675 rc_6 ⟨by decide +kernel, by decide +kernel, by decide +kernel⟩ ⟨(Nat.le_of_ble_eq_true rfl), (Nat.le_of_ble_eq_true rfl)⟩ rfl (Nat.le_of_ble_eq_true rfl) dL_law_688 ?_
  refine v_flip ?_
  refine (?_ : tp (if r = r then some () else (none : Option Unit)) (fun _ => True) → _) ⟨(), if_pos rfl, trivial⟩
  refine v_lcmp_eq (pc := 691) C 1293 dL_law_691 dL_law_692 (by decide) (fun _ => ?_) tp_no
  exact nx σ' τ' h'
set_option maxHeartbeats 4000000 in
set_option maxRecDepth 100000 in
theorem lc_tried (C : Ctx G K code RL 4 13 474) (X : SX G K b L xs) (hL : L ≤ 2560) (hi : i + 5 ≤ L) (h : RR σ τ) (nx : NX G K b i) : V G K (wX G σ ++ wM G τ) 697 (lvL G b i) [] := by
  obtain ⟨r, σ', τ', hx, hm, h'⟩ := r_tried h (xs (Int32.toNatClampNeg (nI i + 1))) (xs (Int32.toNatClampNeg (nI i + 2))) (xs (Int32.toNatClampNeg (nI i + 3))) (xs (Int32.toNatClampNeg (nI i + 4)))
  obtain ⟨hx, eσ⟩ := pI_some hx
  rw [eσ] at h'
  obtain ⟨hm, eτ⟩ := pI_some hm
  rw [eτ] at h'
  refine v_aload_n (pc := 697) C (F := True) 2 rfl dL_law_697 (fun _ => ?_) trivial
  refine v_aload_n (pc := 698) C (F := True) 3 rfl dL_law_698 (fun _ => ?_) trivial
  refine v_iload_n (pc := 699) C (F := True) 0 rfl dL_law_699 (fun _ => ?_) trivial
  refine v_iconst (pc := 700) C (F := True) 1 dL_law_700 (by decide) (fun _ => ?_) trivial
  refine v_iadd (pc := 701) C (F := True) dL_law_701 (fun _ => ?_) trivial
  refine v_sld (pc := 702) C X (sin1 hi hL) dL_law_702 ?_
  refine v_aload_n (pc := 703) C (F := True) 3 rfl dL_law_703 (fun _ => ?_) trivial
  refine v_iload_n (pc := 704) C (F := True) 0 rfl dL_law_704 (fun _ => ?_) trivial
  refine v_iconst (pc := 705) C (F := True) 2 dL_law_705 (by decide) (fun _ => ?_) trivial
  refine v_iadd (pc := 706) C (F := True) dL_law_706 (fun _ => ?_) trivial
  refine v_sld (pc := 707) C X (sin2 hi hL) dL_law_707 ?_
  refine v_aload_n (pc := 708) C (F := True) 3 rfl dL_law_708 (fun _ => ?_) trivial
  refine v_iload_n (pc := 709) C (F := True) 0 rfl dL_law_709 (fun _ => ?_) trivial
  refine v_iconst (pc := 710) C (F := True) 3 dL_law_710 (by decide) (fun _ => ?_) trivial
  refine v_iadd (pc := 711) C (F := True) dL_law_711 (fun _ => ?_) trivial
  refine v_sld (pc := 712) C X (sin3 hi hL) dL_law_712 ?_
  refine v_aload_n (pc := 713) C (F := True) 3 rfl dL_law_713 (fun _ => ?_) trivial
  refine v_iload_n (pc := 714) C (F := True) 0 rfl dL_law_714 (fun _ => ?_) trivial
  refine v_iconst (pc := 715) C (F := True) 4 dL_law_715 (by decide) (fun _ => ?_) trivial
  refine v_iadd (pc := 716) C (F := True) dL_law_716 (fun _ => ?_) trivial
  refine v_sld (pc := 717) C X (sin4 hi hL) dL_law_717 ?_
  refine v_callLL (pc := 718) C (w1 := wX G σ) (w2 := wX G σ) (wr := wM G τ) (b := aX G 0) (As := [.int (xs (Int32.toNatClampNeg (nI i + 1))), .int (xs (Int32.toNatClampNeg (nI i + 2))), .int (xs (Int32.toNatClampNeg (nI i + 3))), .int (xs (Int32.toNatClampNeg (nI i + 4)))]) (nargs := 4) (fun A => m5_tried (gS G A) K.2.1 _ _ _ _ σ r hx) mw_680 mw_681 mw_682 mw_2 mw_683 rc_5 ⟨by decide +kernel, by decide +kernel, by decide +kernel⟩ ⟨(Nat.le_of_ble_eq_true rfl), (Nat.le_of_ble_eq_true rfl)⟩ rfl (Nat.le_of_ble_eq_true rfl) dL_law_718 ?_
  refine v_aload_n (pc := 721) C (F := True) 1 rfl dL_law_721 (fun _ => ?_) trivial
  refine v_aload_n (pc := 722) C (F := True) 3 rfl dL_law_722 (fun _ => ?_) trivial
  refine v_iload_n (pc := 723) C (F := True) 0 rfl dL_law_723 (fun _ => ?_) trivial
  refine v_iconst (pc := 724) C (F := True) 1 dL_law_724 (by decide) (fun _ => ?_) trivial
  refine v_iadd (pc := 725) C (F := True) dL_law_725 (fun _ => ?_) trivial
  refine v_sld (pc := 726) C X (sin1 hi hL) dL_law_726 ?_
  refine v_aload_n (pc := 727) C (F := True) 3 rfl dL_law_727 (fun _ => ?_) trivial
  refine v_iload_n (pc := 728) C (F := True) 0 rfl dL_law_728 (fun _ => ?_) trivial
  refine v_iconst (pc := 729) C (F := True) 2 dL_law_729 (by decide) (fun _ => ?_) trivial
  refine v_iadd (pc := 730) C (F := True) dL_law_730 (fun _ => ?_) trivial
  refine v_sld (pc := 731) C X (sin2 hi hL) dL_law_731 ?_
  refine v_aload_n (pc := 732) C (F := True) 3 rfl dL_law_732 (fun _ => ?_) trivial
  refine v_iload_n (pc := 733) C (F := True) 0 rfl dL_law_733 (fun _ => ?_) trivial
  refine v_iconst (pc := 734) C (F := True) 3 dL_law_734 (by decide) (fun _ => ?_) trivial
  refine v_iadd (pc := 735) C (F := True) dL_law_735 (fun _ => ?_) trivial
  refine v_sld (pc := 736) C X (sin3 hi hL) dL_law_736 ?_
  refine v_aload_n (pc := 737) C (F := True) 3 rfl dL_law_737 (fun _ => ?_) trivial
  refine v_iload_n (pc := 738) C (F := True) 0 rfl dL_law_738 (fun _ => ?_) trivial
  refine v_iconst (pc := 739) C (F := True) 4 dL_law_739 (by decide) (fun _ => ?_) trivial
  refine v_iadd (pc := 740) C (F := True) dL_law_740 (fun _ => ?_) trivial
  refine v_sld (pc := 741) C X (sin4 hi hL) dL_law_741 ?_
  refine v_flip ?_
  refine v_callLL (pc := 742) C (w1 := wM G τ) (w2 := wM G τ) (wr := wX G σ) (b := aM G 0) (As := [.int (xs (Int32.toNatClampNeg (nI i + 1))), .int (xs (Int32.toNatClampNeg (nI i + 2))), .int (xs (Int32.toNatClampNeg (nI i + 3))), .int (xs (Int32.toNatClampNeg (nI i + 4)))]) (nargs := 4) (fun A => m6_tried (gS G A) K.2.1 _ _ _ _ τ r hm) mw_696 mw_697 mw_698 mw_5 mw_699 rc_6 ⟨by decide +kernel, by decide +kernel, by decide +kernel⟩ ⟨(Nat.le_of_ble_eq_true rfl), (Nat.le_of_ble_eq_true rfl)⟩ rfl (Nat.le_of_ble_eq_true rfl) dL_law_742 ?_
  refine v_flip ?_
  refine (?_ : tp (if r = r then some () else (none : Option Unit)) (fun _ => True) → _) ⟨(), if_pos rfl, trivial⟩
  refine v_lcmp_eq (pc := 745) C 1293 dL_law_745 dL_law_746 (by decide) (fun _ => ?_) tp_no
  exact nx σ τ h'
set_option maxHeartbeats 4000000 in
set_option maxRecDepth 100000 in
theorem lc_tries (C : Ctx G K code RL 4 13 474) (X : SX G K b L xs) (hL : L ≤ 2560) (hi : i + 5 ≤ L) (h : RR σ τ) (nx : NX G K b i) : V G K (wX G σ ++ wM G τ) 751 (lvL G b i) [] := by
  obtain ⟨r, σ', τ', hx, hm, h'⟩ := r_tries h (xs (Int32.toNatClampNeg (nI i + 1))) (xs (Int32.toNatClampNeg (nI i + 2))) (xs (Int32.toNatClampNeg (nI i + 3)))
  obtain ⟨hx, eσ⟩ := pI_some hx
  rw [eσ] at h'
  obtain ⟨hm, eτ⟩ := pI_some hm
  rw [eτ] at h'
  refine v_aload_n (pc := 751) C (F := True) 2 rfl dL_law_751 (fun _ => ?_) trivial
  refine v_aload_n (pc := 752) C (F := True) 3 rfl dL_law_752 (fun _ => ?_) trivial
  refine v_iload_n (pc := 753) C (F := True) 0 rfl dL_law_753 (fun _ => ?_) trivial
  refine v_iconst (pc := 754) C (F := True) 1 dL_law_754 (by decide) (fun _ => ?_) trivial
  refine v_iadd (pc := 755) C (F := True) dL_law_755 (fun _ => ?_) trivial
  refine v_sld (pc := 756) C X (sin1 hi hL) dL_law_756 ?_
  refine v_aload_n (pc := 757) C (F := True) 3 rfl dL_law_757 (fun _ => ?_) trivial
  refine v_iload_n (pc := 758) C (F := True) 0 rfl dL_law_758 (fun _ => ?_) trivial
  refine v_iconst (pc := 759) C (F := True) 2 dL_law_759 (by decide) (fun _ => ?_) trivial
  refine v_iadd (pc := 760) C (F := True) dL_law_760 (fun _ => ?_) trivial
  refine v_sld (pc := 761) C X (sin2 hi hL) dL_law_761 ?_
  refine v_aload_n (pc := 762) C (F := True) 3 rfl dL_law_762 (fun _ => ?_) trivial
  refine v_iload_n (pc := 763) C (F := True) 0 rfl dL_law_763 (fun _ => ?_) trivial
  refine v_iconst (pc := 764) C (F := True) 3 dL_law_764 (by decide) (fun _ => ?_) trivial
  refine v_iadd (pc := 765) C (F := True) dL_law_765 (fun _ => ?_) trivial
  refine v_sld (pc := 766) C X (sin3 hi hL) dL_law_766 ?_
  refine v_callLI (pc := 767) C (w1 := wX G σ) (w2 := wX G σ) (wr := wM G τ) (b := aX G 0) (As := [.int (xs (Int32.toNatClampNeg (nI i + 1))), .int (xs (Int32.toNatClampNeg (nI i + 2))), .int (xs (Int32.toNatClampNeg (nI i + 3)))]) (nargs := 3) (fun A => m5_tries (gS G A) K.2.1 _ _ _ σ r hx) mw_711 mw_712 mw_713 mw_2 mw_714 rc_5 ⟨by decide +kernel, by decide +kernel, by decide +kernel⟩ ⟨(Nat.le_of_ble_eq_true rfl), (Nat.le_of_ble_eq_true rfl)⟩ rfl (Nat.le_of_ble_eq_true rfl) dL_law_767 ?_
  refine v_aload_n (pc := 770) C (F := True) 1 rfl dL_law_770 (fun _ => ?_) trivial
  refine v_aload_n (pc := 771) C (F := True) 3 rfl dL_law_771 (fun _ => ?_) trivial
  refine v_iload_n (pc := 772) C (F := True) 0 rfl dL_law_772 (fun _ => ?_) trivial
  refine v_iconst (pc := 773) C (F := True) 1 dL_law_773 (by decide) (fun _ => ?_) trivial
  refine v_iadd (pc := 774) C (F := True) dL_law_774 (fun _ => ?_) trivial
  refine v_sld (pc := 775) C X (sin1 hi hL) dL_law_775 ?_
  refine v_aload_n (pc := 776) C (F := True) 3 rfl dL_law_776 (fun _ => ?_) trivial
  refine v_iload_n (pc := 777) C (F := True) 0 rfl dL_law_777 (fun _ => ?_) trivial
  refine v_iconst (pc := 778) C (F := True) 2 dL_law_778 (by decide) (fun _ => ?_) trivial
  refine v_iadd (pc := 779) C (F := True) dL_law_779 (fun _ => ?_) trivial
  refine v_sld (pc := 780) C X (sin2 hi hL) dL_law_780 ?_
  refine v_aload_n (pc := 781) C (F := True) 3 rfl dL_law_781 (fun _ => ?_) trivial
  refine v_iload_n (pc := 782) C (F := True) 0 rfl dL_law_782 (fun _ => ?_) trivial
  refine v_iconst (pc := 783) C (F := True) 3 dL_law_783 (by decide) (fun _ => ?_) trivial
  refine v_iadd (pc := 784) C (F := True) dL_law_784 (fun _ => ?_) trivial
  refine v_sld (pc := 785) C X (sin3 hi hL) dL_law_785 ?_
  refine v_flip ?_
  refine v_callLI (pc := 786) C (w1 := wM G τ) (w2 := wM G τ) (wr := wX G σ) (b := aM G 0) (As := [.int (xs (Int32.toNatClampNeg (nI i + 1))), .int (xs (Int32.toNatClampNeg (nI i + 2))), .int (xs (Int32.toNatClampNeg (nI i + 3)))]) (nargs := 3) (fun A => m6_tries (gS G A) K.2.1 _ _ _ τ r hm) mw_715 mw_716 mw_717 mw_5 mw_718 rc_6 ⟨by decide +kernel, by decide +kernel, by decide +kernel⟩ ⟨(Nat.le_of_ble_eq_true rfl), (Nat.le_of_ble_eq_true rfl)⟩ rfl (Nat.le_of_ble_eq_true rfl) dL_law_786 ?_
  refine v_flip ?_
  refine (?_ : tp (if r = r then some () else (none : Option Unit)) (fun _ => True) → _) ⟨(), if_pos rfl, trivial⟩
  refine v_icmp_eq (pc := 789) C 1293 dL_law_789 (by decide) (fun _ => ?_) tp_no
  exact nx σ τ h'
set_option maxHeartbeats 4000000 in
set_option maxRecDepth 100000 in
theorem lc_sway (C : Ctx G K code RL 4 13 474) (X : SX G K b L xs) (hL : L ≤ 2560) (hi : i + 5 ≤ L) (h : RR σ τ) (nx : NX G K b i) : V G K (wX G σ ++ wM G τ) 794 (lvL G b i) [] := by
  obtain ⟨r, σ', τ', hx, hm, h'⟩ := r_sway h (xs (Int32.toNatClampNeg (nI i + 1))) (xs (Int32.toNatClampNeg (nI i + 2))) (xs (Int32.toNatClampNeg (nI i + 3)))
  obtain ⟨hx, eσ⟩ := pI_some hx
  rw [eσ] at h'
  refine v_aload_n (pc := 794) C (F := True) 2 rfl dL_law_794 (fun _ => ?_) trivial
  refine v_aload_n (pc := 795) C (F := True) 3 rfl dL_law_795 (fun _ => ?_) trivial
  refine v_iload_n (pc := 796) C (F := True) 0 rfl dL_law_796 (fun _ => ?_) trivial
  refine v_iconst (pc := 797) C (F := True) 1 dL_law_797 (by decide) (fun _ => ?_) trivial
  refine v_iadd (pc := 798) C (F := True) dL_law_798 (fun _ => ?_) trivial
  refine v_sld (pc := 799) C X (sin1 hi hL) dL_law_799 ?_
  refine v_aload_n (pc := 800) C (F := True) 3 rfl dL_law_800 (fun _ => ?_) trivial
  refine v_iload_n (pc := 801) C (F := True) 0 rfl dL_law_801 (fun _ => ?_) trivial
  refine v_iconst (pc := 802) C (F := True) 2 dL_law_802 (by decide) (fun _ => ?_) trivial
  refine v_iadd (pc := 803) C (F := True) dL_law_803 (fun _ => ?_) trivial
  refine v_sld (pc := 804) C X (sin2 hi hL) dL_law_804 ?_
  refine v_aload_n (pc := 805) C (F := True) 3 rfl dL_law_805 (fun _ => ?_) trivial
  refine v_iload_n (pc := 806) C (F := True) 0 rfl dL_law_806 (fun _ => ?_) trivial
  refine v_iconst (pc := 807) C (F := True) 3 dL_law_807 (by decide) (fun _ => ?_) trivial
  refine v_iadd (pc := 808) C (F := True) dL_law_808 (fun _ => ?_) trivial
  refine v_sld (pc := 809) C X (sin3 hi hL) dL_law_809 ?_
  refine v_callLI (pc := 810) C (w1 := wX G σ) (w2 := wX G σ) (wr := wM G τ) (b := aX G 0) (As := [.int (xs (Int32.toNatClampNeg (nI i + 1))), .int (xs (Int32.toNatClampNeg (nI i + 2))), .int (xs (Int32.toNatClampNeg (nI i + 3)))]) (nargs := 3) (fun A => m5_sway (gS G A) K.2.1 _ _ _ σ r hx) mw_719 mw_720 mw_721 mw_2 mw_722 rc_5 ⟨by decide +kernel, by decide +kernel, by decide +kernel⟩ ⟨(Nat.le_of_ble_eq_true rfl), (Nat.le_of_ble_eq_true rfl)⟩ rfl (Nat.le_of_ble_eq_true rfl) dL_law_810 ?_
  refine v_aload_n (pc := 813) C (F := True) 1 rfl dL_law_813 (fun _ => ?_) trivial
  refine v_aload_n (pc := 814) C (F := True) 3 rfl dL_law_814 (fun _ => ?_) trivial
  refine v_iload_n (pc := 815) C (F := True) 0 rfl dL_law_815 (fun _ => ?_) trivial
  refine v_iconst (pc := 816) C (F := True) 1 dL_law_816 (by decide) (fun _ => ?_) trivial
  refine v_iadd (pc := 817) C (F := True) dL_law_817 (fun _ => ?_) trivial
  refine v_sld (pc := 818) C X (sin1 hi hL) dL_law_818 ?_
  refine v_aload_n (pc := 819) C (F := True) 3 rfl dL_law_819 (fun _ => ?_) trivial
  refine v_iload_n (pc := 820) C (F := True) 0 rfl dL_law_820 (fun _ => ?_) trivial
  refine v_iconst (pc := 821) C (F := True) 2 dL_law_821 (by decide) (fun _ => ?_) trivial
  refine v_iadd (pc := 822) C (F := True) dL_law_822 (fun _ => ?_) trivial
  refine v_sld (pc := 823) C X (sin2 hi hL) dL_law_823 ?_
  refine v_aload_n (pc := 824) C (F := True) 3 rfl dL_law_824 (fun _ => ?_) trivial
  refine v_iload_n (pc := 825) C (F := True) 0 rfl dL_law_825 (fun _ => ?_) trivial
  refine v_iconst (pc := 826) C (F := True) 3 dL_law_826 (by decide) (fun _ => ?_) trivial
  refine v_iadd (pc := 827) C (F := True) dL_law_827 (fun _ => ?_) trivial
  refine v_sld (pc := 828) C X (sin3 hi hL) dL_law_828 ?_
  refine v_flip ?_
  refine v_callLI (pc := 829) C (w1 := wM G τ) (w2 := wM G τ') (wr := wX G σ) (b := aM G 0) (As := [.int (xs (Int32.toNatClampNeg (nI i + 1))), .int (xs (Int32.toNatClampNeg (nI i + 2))), .int (xs (Int32.toNatClampNeg (nI i + 3)))]) (nargs := 3) (fun A => m6_sway (gS G A) K.2.1 _ _ _ τ r τ' hm) mw_728 mw_729 mw_730 mw_5 mw_731 rc_6 ⟨by decide +kernel, by decide +kernel, by decide +kernel⟩ ⟨(Nat.le_of_ble_eq_true rfl), (Nat.le_of_ble_eq_true rfl)⟩ rfl (Nat.le_of_ble_eq_true rfl) dL_law_829 ?_
  refine v_flip ?_
  refine (?_ : tp (if r = r then some () else (none : Option Unit)) (fun _ => True) → _) ⟨(), if_pos rfl, trivial⟩
  refine v_icmp_eq (pc := 832) C 1293 dL_law_832 (by decide) (fun _ => ?_) tp_no
  exact nx σ τ' h'
set_option maxHeartbeats 4000000 in
set_option maxRecDepth 100000 in
theorem lc_calm (C : Ctx G K code RL 4 13 474) (X : SX G K b L xs) (hL : L ≤ 2560) (hi : i + 5 ≤ L) (h : RR σ τ) (nx : NX G K b i) : V G K (wX G σ ++ wM G τ) 837 (lvL G b i) [] := by
  obtain ⟨r, σ', τ', hx, hm, h'⟩ := r_calm h (xs (Int32.toNatClampNeg (nI i + 1))) (xs (Int32.toNatClampNeg (nI i + 2))) (xs (Int32.toNatClampNeg (nI i + 3)))
  obtain ⟨hx, eσ⟩ := pI_some hx
  rw [eσ] at h'
  refine v_aload_n (pc := 837) C (F := True) 2 rfl dL_law_837 (fun _ => ?_) trivial
  refine v_aload_n (pc := 838) C (F := True) 3 rfl dL_law_838 (fun _ => ?_) trivial
  refine v_iload_n (pc := 839) C (F := True) 0 rfl dL_law_839 (fun _ => ?_) trivial
  refine v_iconst (pc := 840) C (F := True) 1 dL_law_840 (by decide) (fun _ => ?_) trivial
  refine v_iadd (pc := 841) C (F := True) dL_law_841 (fun _ => ?_) trivial
  refine v_sld (pc := 842) C X (sin1 hi hL) dL_law_842 ?_
  refine v_aload_n (pc := 843) C (F := True) 3 rfl dL_law_843 (fun _ => ?_) trivial
  refine v_iload_n (pc := 844) C (F := True) 0 rfl dL_law_844 (fun _ => ?_) trivial
  refine v_iconst (pc := 845) C (F := True) 2 dL_law_845 (by decide) (fun _ => ?_) trivial
  refine v_iadd (pc := 846) C (F := True) dL_law_846 (fun _ => ?_) trivial
  refine v_sld (pc := 847) C X (sin2 hi hL) dL_law_847 ?_
  refine v_aload_n (pc := 848) C (F := True) 3 rfl dL_law_848 (fun _ => ?_) trivial
  refine v_iload_n (pc := 849) C (F := True) 0 rfl dL_law_849 (fun _ => ?_) trivial
  refine v_iconst (pc := 850) C (F := True) 3 dL_law_850 (by decide) (fun _ => ?_) trivial
  refine v_iadd (pc := 851) C (F := True) dL_law_851 (fun _ => ?_) trivial
  refine v_sld (pc := 852) C X (sin3 hi hL) dL_law_852 ?_
  refine v_callLI (pc := 853) C (w1 := wX G σ) (w2 := wX G σ) (wr := wM G τ) (b := aX G 0) (As := [.int (xs (Int32.toNatClampNeg (nI i + 1))), .int (xs (Int32.toNatClampNeg (nI i + 2))), .int (xs (Int32.toNatClampNeg (nI i + 3)))]) (nargs := 3) (fun A => m5_calm (gS G A) K.2.1 _ _ _ σ r hx) mw_736 mw_737 mw_738 mw_2 mw_739 rc_5 ⟨by decide +kernel, by decide +kernel, by decide +kernel⟩ ⟨(Nat.le_of_ble_eq_true rfl), (Nat.le_of_ble_eq_true rfl)⟩ rfl (Nat.le_of_ble_eq_true rfl) dL_law_853 ?_
  refine v_aload_n (pc := 856) C (F := True) 1 rfl dL_law_856 (fun _ => ?_) trivial
  refine v_aload_n (pc := 857) C (F := True) 3 rfl dL_law_857 (fun _ => ?_) trivial
  refine v_iload_n (pc := 858) C (F := True) 0 rfl dL_law_858 (fun _ => ?_) trivial
  refine v_iconst (pc := 859) C (F := True) 1 dL_law_859 (by decide) (fun _ => ?_) trivial
  refine v_iadd (pc := 860) C (F := True) dL_law_860 (fun _ => ?_) trivial
  refine v_sld (pc := 861) C X (sin1 hi hL) dL_law_861 ?_
  refine v_aload_n (pc := 862) C (F := True) 3 rfl dL_law_862 (fun _ => ?_) trivial
  refine v_iload_n (pc := 863) C (F := True) 0 rfl dL_law_863 (fun _ => ?_) trivial
  refine v_iconst (pc := 864) C (F := True) 2 dL_law_864 (by decide) (fun _ => ?_) trivial
  refine v_iadd (pc := 865) C (F := True) dL_law_865 (fun _ => ?_) trivial
  refine v_sld (pc := 866) C X (sin2 hi hL) dL_law_866 ?_
  refine v_aload_n (pc := 867) C (F := True) 3 rfl dL_law_867 (fun _ => ?_) trivial
  refine v_iload_n (pc := 868) C (F := True) 0 rfl dL_law_868 (fun _ => ?_) trivial
  refine v_iconst (pc := 869) C (F := True) 3 dL_law_869 (by decide) (fun _ => ?_) trivial
  refine v_iadd (pc := 870) C (F := True) dL_law_870 (fun _ => ?_) trivial
  refine v_sld (pc := 871) C X (sin3 hi hL) dL_law_871 ?_
  refine v_flip ?_
  refine v_callLI (pc := 872) C (w1 := wM G τ) (w2 := wM G τ') (wr := wX G σ) (b := aM G 0) (As := [.int (xs (Int32.toNatClampNeg (nI i + 1))), .int (xs (Int32.toNatClampNeg (nI i + 2))), .int (xs (Int32.toNatClampNeg (nI i + 3)))]) (nargs := 3) (fun A => m6_calm (gS G A) K.2.1 _ _ _ τ r τ' hm) mw_740 mw_741 mw_742 mw_5 mw_743 rc_6 ⟨by decide +kernel, by decide +kernel, by decide +kernel⟩ ⟨(Nat.le_of_ble_eq_true rfl), (Nat.le_of_ble_eq_true rfl)⟩ rfl (Nat.le_of_ble_eq_true rfl) dL_law_872 ?_
  refine v_flip ?_
  refine (?_ : tp (if r = r then some () else (none : Option Unit)) (fun _ => True) → _) ⟨(), if_pos rfl, trivial⟩
  refine v_icmp_eq (pc := 875) C 1293 dL_law_875 (by decide) (fun _ => ?_) tp_no
  exact nx σ τ' h'
set_option maxHeartbeats 4000000 in
set_option maxRecDepth 100000 in
theorem lc_fall (C : Ctx G K code RL 4 13 474) (X : SX G K b L xs) (hL : L ≤ 2560) (hi : i + 5 ≤ L) (h : RR σ τ) (nx : NX G K b i) : V G K (wX G σ ++ wM G τ) 880 (lvL G b i) [] := by
  obtain ⟨r, σ', τ', hx, hm, h'⟩ := r_fall h (xs (Int32.toNatClampNeg (nI i + 1))) (xs (Int32.toNatClampNeg (nI i + 2)))
  obtain ⟨hx, eσ⟩ := pI_some hx
  rw [eσ] at h'
  refine v_aload_n (pc := 880) C (F := True) 2 rfl dL_law_880 (fun _ => ?_) trivial
  refine v_aload_n (pc := 881) C (F := True) 3 rfl dL_law_881 (fun _ => ?_) trivial
  refine v_iload_n (pc := 882) C (F := True) 0 rfl dL_law_882 (fun _ => ?_) trivial
  refine v_iconst (pc := 883) C (F := True) 1 dL_law_883 (by decide) (fun _ => ?_) trivial
  refine v_iadd (pc := 884) C (F := True) dL_law_884 (fun _ => ?_) trivial
  refine v_sld (pc := 885) C X (sin1 hi hL) dL_law_885 ?_
  refine v_aload_n (pc := 886) C (F := True) 3 rfl dL_law_886 (fun _ => ?_) trivial
  refine v_iload_n (pc := 887) C (F := True) 0 rfl dL_law_887 (fun _ => ?_) trivial
  refine v_iconst (pc := 888) C (F := True) 2 dL_law_888 (by decide) (fun _ => ?_) trivial
  refine v_iadd (pc := 889) C (F := True) dL_law_889 (fun _ => ?_) trivial
  refine v_sld (pc := 890) C X (sin2 hi hL) dL_law_890 ?_
  refine v_callLI (pc := 891) C (w1 := wX G σ) (w2 := wX G σ) (wr := wM G τ) (b := aX G 0) (As := [.int (xs (Int32.toNatClampNeg (nI i + 1))), .int (xs (Int32.toNatClampNeg (nI i + 2)))]) (nargs := 2) (fun A => m5_fall (gS G A) K.2.1 _ _ σ r hx) mw_744 mw_745 mw_746 mw_2 mw_747 rc_5 ⟨by decide +kernel, by decide +kernel, by decide +kernel⟩ ⟨(Nat.le_of_ble_eq_true rfl), (Nat.le_of_ble_eq_true rfl)⟩ rfl (Nat.le_of_ble_eq_true rfl) dL_law_891 ?_
  refine v_aload_n (pc := 894) C (F := True) 1 rfl dL_law_894 (fun _ => ?_) trivial
  refine v_aload_n (pc := 895) C (F := True) 3 rfl dL_law_895 (fun _ => ?_) trivial
  refine v_iload_n (pc := 896) C (F := True) 0 rfl dL_law_896 (fun _ => ?_) trivial
  refine v_iconst (pc := 897) C (F := True) 1 dL_law_897 (by decide) (fun _ => ?_) trivial
  refine v_iadd (pc := 898) C (F := True) dL_law_898 (fun _ => ?_) trivial
  refine v_sld (pc := 899) C X (sin1 hi hL) dL_law_899 ?_
  refine v_aload_n (pc := 900) C (F := True) 3 rfl dL_law_900 (fun _ => ?_) trivial
  refine v_iload_n (pc := 901) C (F := True) 0 rfl dL_law_901 (fun _ => ?_) trivial
  refine v_iconst (pc := 902) C (F := True) 2 dL_law_902 (by decide) (fun _ => ?_) trivial
  refine v_iadd (pc := 903) C (F := True) dL_law_903 (fun _ => ?_) trivial
  refine v_sld (pc := 904) C X (sin2 hi hL) dL_law_904 ?_
  refine v_flip ?_
  refine v_callLI (pc := 905) C (w1 := wM G τ) (w2 := wM G τ') (wr := wX G σ) (b := aM G 0) (As := [.int (xs (Int32.toNatClampNeg (nI i + 1))), .int (xs (Int32.toNatClampNeg (nI i + 2)))]) (nargs := 2) (fun A => m6_fall (gS G A) K.2.1 _ _ τ r τ' hm) mw_757 mw_758 mw_759 mw_5 mw_760 rc_6 ⟨by decide +kernel, by decide +kernel, by decide +kernel⟩ ⟨(Nat.le_of_ble_eq_true rfl), (Nat.le_of_ble_eq_true rfl)⟩ rfl (Nat.le_of_ble_eq_true rfl) dL_law_905 ?_
  refine v_flip ?_
  refine (?_ : tp (if r = r then some () else (none : Option Unit)) (fun _ => True) → _) ⟨(), if_pos rfl, trivial⟩
  refine v_icmp_eq (pc := 908) C 1293 dL_law_908 (by decide) (fun _ => ?_) tp_no
  exact nx σ τ' h'
set_option maxHeartbeats 4000000 in
set_option maxRecDepth 100000 in
theorem lc_saw (C : Ctx G K code RL 4 13 474) (X : SX G K b L xs) (hL : L ≤ 2560) (hi : i + 5 ≤ L) (h : RR σ τ) (nx : NX G K b i) : V G K (wX G σ ++ wM G τ) 913 (lvL G b i) [] := by
  obtain ⟨r, σ', τ', hx, hm, h'⟩ := r_saw h (xs (Int32.toNatClampNeg (nI i + 1))) (xs (Int32.toNatClampNeg (nI i + 2))) (xs (Int32.toNatClampNeg (nI i + 3))) (xs (Int32.toNatClampNeg (nI i + 4)))
  refine v_aload_n (pc := 913) C (F := True) 2 rfl dL_law_913 (fun _ => ?_) trivial
  refine v_aload_n (pc := 914) C (F := True) 3 rfl dL_law_914 (fun _ => ?_) trivial
  refine v_iload_n (pc := 915) C (F := True) 0 rfl dL_law_915 (fun _ => ?_) trivial
  refine v_iconst (pc := 916) C (F := True) 1 dL_law_916 (by decide) (fun _ => ?_) trivial
  refine v_iadd (pc := 917) C (F := True) dL_law_917 (fun _ => ?_) trivial
  refine v_sld (pc := 918) C X (sin1 hi hL) dL_law_918 ?_
  refine v_aload_n (pc := 919) C (F := True) 3 rfl dL_law_919 (fun _ => ?_) trivial
  refine v_iload_n (pc := 920) C (F := True) 0 rfl dL_law_920 (fun _ => ?_) trivial
  refine v_iconst (pc := 921) C (F := True) 2 dL_law_921 (by decide) (fun _ => ?_) trivial
  refine v_iadd (pc := 922) C (F := True) dL_law_922 (fun _ => ?_) trivial
  refine v_sld (pc := 923) C X (sin2 hi hL) dL_law_923 ?_
  refine v_aload_n (pc := 924) C (F := True) 3 rfl dL_law_924 (fun _ => ?_) trivial
  refine v_iload_n (pc := 925) C (F := True) 0 rfl dL_law_925 (fun _ => ?_) trivial
  refine v_iconst (pc := 926) C (F := True) 3 dL_law_926 (by decide) (fun _ => ?_) trivial
  refine v_iadd (pc := 927) C (F := True) dL_law_927 (fun _ => ?_) trivial
  refine v_sld (pc := 928) C X (sin3 hi hL) dL_law_928 ?_
  refine v_aload_n (pc := 929) C (F := True) 3 rfl dL_law_929 (fun _ => ?_) trivial
  refine v_iload_n (pc := 930) C (F := True) 0 rfl dL_law_930 (fun _ => ?_) trivial
  refine v_iconst (pc := 931) C (F := True) 4 dL_law_931 (by decide) (fun _ => ?_) trivial
  refine v_iadd (pc := 932) C (F := True) dL_law_932 (fun _ => ?_) trivial
  refine v_sld (pc := 933) C X (sin4 hi hL) dL_law_933 ?_
  refine v_callLI (pc := 934) C (w1 := wX G σ) (w2 := wX G σ') (wr := wM G τ) (b := aX G 0) (As := [.int (xs (Int32.toNatClampNeg (nI i + 1))), .int (xs (Int32.toNatClampNeg (nI i + 2))), .int (xs (Int32.toNatClampNeg (nI i + 3))), .int (xs (Int32.toNatClampNeg (nI i + 4)))]) (nargs := 4) (fun A => m5_saw (gS G A) K.2.1 _ _ _ _ σ r σ' hx) mw_766 mw_767 mw_768 mw_2 mw_769 rc_5 ⟨by decide +kernel, by decide +kernel, by decide +kernel⟩ ⟨(Nat.le_of_ble_eq_true rfl), (Nat.le_of_ble_eq_true rfl)⟩ rfl (Nat.le_of_ble_eq_true rfl) dL_law_934 ?_
  refine v_aload_n (pc := 937) C (F := True) 1 rfl dL_law_937 (fun _ => ?_) trivial
  refine v_aload_n (pc := 938) C (F := True) 3 rfl dL_law_938 (fun _ => ?_) trivial
  refine v_iload_n (pc := 939) C (F := True) 0 rfl dL_law_939 (fun _ => ?_) trivial
  refine v_iconst (pc := 940) C (F := True) 1 dL_law_940 (by decide) (fun _ => ?_) trivial
  refine v_iadd (pc := 941) C (F := True) dL_law_941 (fun _ => ?_) trivial
  refine v_sld (pc := 942) C X (sin1 hi hL) dL_law_942 ?_
  refine v_aload_n (pc := 943) C (F := True) 3 rfl dL_law_943 (fun _ => ?_) trivial
  refine v_iload_n (pc := 944) C (F := True) 0 rfl dL_law_944 (fun _ => ?_) trivial
  refine v_iconst (pc := 945) C (F := True) 2 dL_law_945 (by decide) (fun _ => ?_) trivial
  refine v_iadd (pc := 946) C (F := True) dL_law_946 (fun _ => ?_) trivial
  refine v_sld (pc := 947) C X (sin2 hi hL) dL_law_947 ?_
  refine v_aload_n (pc := 948) C (F := True) 3 rfl dL_law_948 (fun _ => ?_) trivial
  refine v_iload_n (pc := 949) C (F := True) 0 rfl dL_law_949 (fun _ => ?_) trivial
  refine v_iconst (pc := 950) C (F := True) 3 dL_law_950 (by decide) (fun _ => ?_) trivial
  refine v_iadd (pc := 951) C (F := True) dL_law_951 (fun _ => ?_) trivial
  refine v_sld (pc := 952) C X (sin3 hi hL) dL_law_952 ?_
  refine v_aload_n (pc := 953) C (F := True) 3 rfl dL_law_953 (fun _ => ?_) trivial
  refine v_iload_n (pc := 954) C (F := True) 0 rfl dL_law_954 (fun _ => ?_) trivial
  refine v_iconst (pc := 955) C (F := True) 4 dL_law_955 (by decide) (fun _ => ?_) trivial
  refine v_iadd (pc := 956) C (F := True) dL_law_956 (fun _ => ?_) trivial
  refine v_sld (pc := 957) C X (sin4 hi hL) dL_law_957 ?_
  refine v_flip ?_
  refine v_callLI (pc := 958) C (w1 := wM G τ) (w2 := wM G τ') (wr := wX G σ') (b := aM G 0) (As := [.int (xs (Int32.toNatClampNeg (nI i + 1))), .int (xs (Int32.toNatClampNeg (nI i + 2))), .int (xs (Int32.toNatClampNeg (nI i + 3))), .int (xs (Int32.toNatClampNeg (nI i + 4)))]) (nargs := 4) (fun A => m6_saw (gS G A) K.2.1 _ _ _ _ τ r τ' hm) mw_784 mw_785 mw_786 mw_5 mw_787 rc_6 ⟨by decide +kernel, by decide +kernel, by decide +kernel⟩ ⟨(Nat.le_of_ble_eq_true rfl), (Nat.le_of_ble_eq_true rfl)⟩ rfl (Nat.le_of_ble_eq_true rfl) dL_law_958 ?_
  refine v_flip ?_
  refine (?_ : tp (if r = r then some () else (none : Option Unit)) (fun _ => True) → _) ⟨(), if_pos rfl, trivial⟩
  refine v_icmp_eq (pc := 961) C 1293 dL_law_961 (by decide) (fun _ => ?_) tp_no
  exact nx σ' τ' h'
set_option maxHeartbeats 4000000 in
set_option maxRecDepth 100000 in
theorem lc_afternoon (C : Ctx G K code RL 4 13 474) (X : SX G K b L xs) (hL : L ≤ 2560) (hi : i + 5 ≤ L) (h : RR σ τ) (nx : NX G K b i) : V G K (wX G σ ++ wM G τ) 966 (lvL G b i) [] := by
  obtain ⟨r, σ', τ', hx, hm, h'⟩ := r_afternoon h (xs (Int32.toNatClampNeg (nI i + 1))) (xs (Int32.toNatClampNeg (nI i + 2))) (xs (Int32.toNatClampNeg (nI i + 3)))
  refine v_aload_n (pc := 966) C (F := True) 2 rfl dL_law_966 (fun _ => ?_) trivial
  refine v_aload_n (pc := 967) C (F := True) 3 rfl dL_law_967 (fun _ => ?_) trivial
  refine v_iload_n (pc := 968) C (F := True) 0 rfl dL_law_968 (fun _ => ?_) trivial
  refine v_iconst (pc := 969) C (F := True) 1 dL_law_969 (by decide) (fun _ => ?_) trivial
  refine v_iadd (pc := 970) C (F := True) dL_law_970 (fun _ => ?_) trivial
  refine v_sld (pc := 971) C X (sin1 hi hL) dL_law_971 ?_
  refine v_aload_n (pc := 972) C (F := True) 3 rfl dL_law_972 (fun _ => ?_) trivial
  refine v_iload_n (pc := 973) C (F := True) 0 rfl dL_law_973 (fun _ => ?_) trivial
  refine v_iconst (pc := 974) C (F := True) 2 dL_law_974 (by decide) (fun _ => ?_) trivial
  refine v_iadd (pc := 975) C (F := True) dL_law_975 (fun _ => ?_) trivial
  refine v_sld (pc := 976) C X (sin2 hi hL) dL_law_976 ?_
  refine v_aload_n (pc := 977) C (F := True) 3 rfl dL_law_977 (fun _ => ?_) trivial
  refine v_iload_n (pc := 978) C (F := True) 0 rfl dL_law_978 (fun _ => ?_) trivial
  refine v_iconst (pc := 979) C (F := True) 3 dL_law_979 (by decide) (fun _ => ?_) trivial
  refine v_iadd (pc := 980) C (F := True) dL_law_980 (fun _ => ?_) trivial
  refine v_sld (pc := 981) C X (sin3 hi hL) dL_law_981 ?_
  refine v_callLI (pc := 982) C (w1 := wX G σ) (w2 := wX G σ') (wr := wM G τ) (b := aX G 0) (As := [.int (xs (Int32.toNatClampNeg (nI i + 1))), .int (xs (Int32.toNatClampNeg (nI i + 2))), .int (xs (Int32.toNatClampNeg (nI i + 3)))]) (nargs := 3) (fun A => m5_afternoon (gS G A) K.2.1 _ _ _ σ r σ' hx) mw_795 mw_796 mw_797 mw_2 mw_798 rc_5 ⟨by decide +kernel, by decide +kernel, by decide +kernel⟩ ⟨(Nat.le_of_ble_eq_true rfl), (Nat.le_of_ble_eq_true rfl)⟩ rfl (Nat.le_of_ble_eq_true rfl) dL_law_982 ?_
  refine v_aload_n (pc := 985) C (F := True) 1 rfl dL_law_985 (fun _ => ?_) trivial
  refine v_aload_n (pc := 986) C (F := True) 3 rfl dL_law_986 (fun _ => ?_) trivial
  refine v_iload_n (pc := 987) C (F := True) 0 rfl dL_law_987 (fun _ => ?_) trivial
  refine v_iconst (pc := 988) C (F := True) 1 dL_law_988 (by decide) (fun _ => ?_) trivial
  refine v_iadd (pc := 989) C (F := True) dL_law_989 (fun _ => ?_) trivial
  refine v_sld (pc := 990) C X (sin1 hi hL) dL_law_990 ?_
  refine v_aload_n (pc := 991) C (F := True) 3 rfl dL_law_991 (fun _ => ?_) trivial
  refine v_iload_n (pc := 992) C (F := True) 0 rfl dL_law_992 (fun _ => ?_) trivial
  refine v_iconst (pc := 993) C (F := True) 2 dL_law_993 (by decide) (fun _ => ?_) trivial
  refine v_iadd (pc := 994) C (F := True) dL_law_994 (fun _ => ?_) trivial
  refine v_sld (pc := 995) C X (sin2 hi hL) dL_law_995 ?_
  refine v_aload_n (pc := 996) C (F := True) 3 rfl dL_law_996 (fun _ => ?_) trivial
  refine v_iload_n (pc := 997) C (F := True) 0 rfl dL_law_997 (fun _ => ?_) trivial
  refine v_iconst (pc := 998) C (F := True) 3 dL_law_998 (by decide) (fun _ => ?_) trivial
  refine v_iadd (pc := 999) C (F := True) dL_law_999 (fun _ => ?_) trivial
  refine v_sld (pc := 1000) C X (sin3 hi hL) dL_law_1000 ?_
  refine v_flip ?_
  refine v_callLI (pc := 1001) C (w1 := wM G τ) (w2 := wM G τ') (wr := wX G σ') (b := aM G 0) (As := [.int (xs (Int32.toNatClampNeg (nI i + 1))), .int (xs (Int32.toNatClampNeg (nI i + 2))), .int (xs (Int32.toNatClampNeg (nI i + 3)))]) (nargs := 3) (fun A => m6_afternoon (gS G A) K.2.1 _ _ _ τ r τ' hm) mw_803 mw_804 mw_805 mw_5 mw_806 rc_6 ⟨by decide +kernel, by decide +kernel, by decide +kernel⟩ ⟨(Nat.le_of_ble_eq_true rfl), (Nat.le_of_ble_eq_true rfl)⟩ rfl (Nat.le_of_ble_eq_true rfl) dL_law_1001 ?_
  refine v_flip ?_
  refine (?_ : tp (if r = r then some () else (none : Option Unit)) (fun _ => True) → _) ⟨(), if_pos rfl, trivial⟩
  refine v_icmp_eq (pc := 1004) C 1293 dL_law_1004 (by decide) (fun _ => ?_) tp_no
  exact nx σ' τ' h'
set_option maxHeartbeats 4000000 in
set_option maxRecDepth 100000 in
theorem lc_dares (C : Ctx G K code RL 4 13 474) (X : SX G K b L xs) (hL : L ≤ 2560) (hi : i + 5 ≤ L) (h : RR σ τ) (nx : NX G K b i) : V G K (wX G σ ++ wM G τ) 1009 (lvL G b i) [] := by
  obtain ⟨r, σ', τ', hx, hm, h'⟩ := r_dares h (xs (Int32.toNatClampNeg (nI i + 1))) (xs (Int32.toNatClampNeg (nI i + 2))) (xs (Int32.toNatClampNeg (nI i + 3))) (xs (Int32.toNatClampNeg (nI i + 4)))
  obtain ⟨hx, eσ⟩ := pI_some hx
  rw [eσ] at h'
  obtain ⟨hm, eτ⟩ := pI_some hm
  rw [eτ] at h'
  refine v_aload_n (pc := 1009) C (F := True) 2 rfl dL_law_1009 (fun _ => ?_) trivial
  refine v_aload_n (pc := 1010) C (F := True) 3 rfl dL_law_1010 (fun _ => ?_) trivial
  refine v_iload_n (pc := 1011) C (F := True) 0 rfl dL_law_1011 (fun _ => ?_) trivial
  refine v_iconst (pc := 1012) C (F := True) 1 dL_law_1012 (by decide) (fun _ => ?_) trivial
  refine v_iadd (pc := 1013) C (F := True) dL_law_1013 (fun _ => ?_) trivial
  refine v_sld (pc := 1014) C X (sin1 hi hL) dL_law_1014 ?_
  refine v_aload_n (pc := 1015) C (F := True) 3 rfl dL_law_1015 (fun _ => ?_) trivial
  refine v_iload_n (pc := 1016) C (F := True) 0 rfl dL_law_1016 (fun _ => ?_) trivial
  refine v_iconst (pc := 1017) C (F := True) 2 dL_law_1017 (by decide) (fun _ => ?_) trivial
  refine v_iadd (pc := 1018) C (F := True) dL_law_1018 (fun _ => ?_) trivial
  refine v_sld (pc := 1019) C X (sin2 hi hL) dL_law_1019 ?_
  refine v_aload_n (pc := 1020) C (F := True) 3 rfl dL_law_1020 (fun _ => ?_) trivial
  refine v_iload_n (pc := 1021) C (F := True) 0 rfl dL_law_1021 (fun _ => ?_) trivial
  refine v_iconst (pc := 1022) C (F := True) 3 dL_law_1022 (by decide) (fun _ => ?_) trivial
  refine v_iadd (pc := 1023) C (F := True) dL_law_1023 (fun _ => ?_) trivial
  refine v_sld (pc := 1024) C X (sin3 hi hL) dL_law_1024 ?_
  refine v_aload_n (pc := 1025) C (F := True) 3 rfl dL_law_1025 (fun _ => ?_) trivial
  refine v_iload_n (pc := 1026) C (F := True) 0 rfl dL_law_1026 (fun _ => ?_) trivial
  refine v_iconst (pc := 1027) C (F := True) 4 dL_law_1027 (by decide) (fun _ => ?_) trivial
  refine v_iadd (pc := 1028) C (F := True) dL_law_1028 (fun _ => ?_) trivial
  refine v_sld (pc := 1029) C X (sin4 hi hL) dL_law_1029 ?_
  refine v_callLI (pc := 1030) C (w1 := wX G σ) (w2 := wX G σ) (wr := wM G τ) (b := aX G 0) (As := [.int (xs (Int32.toNatClampNeg (nI i + 1))), .int (xs (Int32.toNatClampNeg (nI i + 2))), .int (xs (Int32.toNatClampNeg (nI i + 3))), .int (xs (Int32.toNatClampNeg (nI i + 4)))]) (nargs := 4) (fun A => m5_dares (gS G A) K.2.1 _ _ _ _ σ r hx) mw_807 mw_808 mw_809 mw_2 mw_810 rc_5 ⟨by decide +kernel, by decide +kernel, by decide +kernel⟩ ⟨(Nat.le_of_ble_eq_true rfl), (Nat.le_of_ble_eq_true rfl)⟩ rfl (Nat.le_of_ble_eq_true rfl) dL_law_1030 ?_
  refine v_aload_n (pc := 1033) C (F := True) 1 rfl dL_law_1033 (fun _ => ?_) trivial
  refine v_aload_n (pc := 1034) C (F := True) 3 rfl dL_law_1034 (fun _ => ?_) trivial
  refine v_iload_n (pc := 1035) C (F := True) 0 rfl dL_law_1035 (fun _ => ?_) trivial
  refine v_iconst (pc := 1036) C (F := True) 1 dL_law_1036 (by decide) (fun _ => ?_) trivial
  refine v_iadd (pc := 1037) C (F := True) dL_law_1037 (fun _ => ?_) trivial
  refine v_sld (pc := 1038) C X (sin1 hi hL) dL_law_1038 ?_
  refine v_aload_n (pc := 1039) C (F := True) 3 rfl dL_law_1039 (fun _ => ?_) trivial
  refine v_iload_n (pc := 1040) C (F := True) 0 rfl dL_law_1040 (fun _ => ?_) trivial
  refine v_iconst (pc := 1041) C (F := True) 2 dL_law_1041 (by decide) (fun _ => ?_) trivial
  refine v_iadd (pc := 1042) C (F := True) dL_law_1042 (fun _ => ?_) trivial
  refine v_sld (pc := 1043) C X (sin2 hi hL) dL_law_1043 ?_
  refine v_aload_n (pc := 1044) C (F := True) 3 rfl dL_law_1044 (fun _ => ?_) trivial
  refine v_iload_n (pc := 1045) C (F := True) 0 rfl dL_law_1045 (fun _ => ?_) trivial
  refine v_iconst (pc := 1046) C (F := True) 3 dL_law_1046 (by decide) (fun _ => ?_) trivial
  refine v_iadd (pc := 1047) C (F := True) dL_law_1047 (fun _ => ?_) trivial
  refine v_sld (pc := 1048) C X (sin3 hi hL) dL_law_1048 ?_
  refine v_aload_n (pc := 1049) C (F := True) 3 rfl dL_law_1049 (fun _ => ?_) trivial
  refine v_iload_n (pc := 1050) C (F := True) 0 rfl dL_law_1050 (fun _ => ?_) trivial
  refine v_iconst (pc := 1051) C (F := True) 4 dL_law_1051 (by decide) (fun _ => ?_) trivial
  refine v_iadd (pc := 1052) C (F := True) dL_law_1052 (fun _ => ?_) trivial
  refine v_sld (pc := 1053) C X (sin4 hi hL) dL_law_1053 ?_
  refine v_flip ?_
  refine v_callLI (pc := 1054) C (w1 := wM G τ) (w2 := wM G τ) (wr := wX G σ) (b := aM G 0) (As := [.int (xs (Int32.toNatClampNeg (nI i + 1))), .int (xs (Int32.toNatClampNeg (nI i + 2))), .int (xs (Int32.toNatClampNeg (nI i + 3))), .int (xs (Int32.toNatClampNeg (nI i + 4)))]) (nargs := 4) (fun A => m6_dares (gS G A) K.2.1 _ _ _ _ τ r hm) mw_819 mw_820 mw_821 mw_5 mw_822 rc_6 ⟨by decide +kernel, by decide +kernel, by decide +kernel⟩ ⟨(Nat.le_of_ble_eq_true rfl), (Nat.le_of_ble_eq_true rfl)⟩ rfl (Nat.le_of_ble_eq_true rfl) dL_law_1054 ?_
  refine v_flip ?_
  refine (?_ : tp (if r = r then some () else (none : Option Unit)) (fun _ => True) → _) ⟨(), if_pos rfl, trivial⟩
  refine v_icmp_eq (pc := 1057) C 1293 dL_law_1057 (by decide) (fun _ => ?_) tp_no
  exact nx σ τ h'
set_option maxHeartbeats 4000000 in
set_option maxRecDepth 100000 in
theorem lc_looked (C : Ctx G K code RL 4 13 474) (X : SX G K b L xs) (hL : L ≤ 2560) (hi : i + 5 ≤ L) (h : RR σ τ) (nx : NX G K b i) : V G K (wX G σ ++ wM G τ) 1062 (lvL G b i) [] := by
  obtain ⟨r, σ', τ', hx, hm, h'⟩ := r_looked h (xs (Int32.toNatClampNeg (nI i + 1)))
  obtain ⟨hx, eσ⟩ := pI_some hx
  rw [eσ] at h'
  obtain ⟨hm, eτ⟩ := pI_some hm
  rw [eτ] at h'
  refine v_aload_n (pc := 1062) C (F := True) 2 rfl dL_law_1062 (fun _ => ?_) trivial
  refine v_aload_n (pc := 1063) C (F := True) 3 rfl dL_law_1063 (fun _ => ?_) trivial
  refine v_iload_n (pc := 1064) C (F := True) 0 rfl dL_law_1064 (fun _ => ?_) trivial
  refine v_iconst (pc := 1065) C (F := True) 1 dL_law_1065 (by decide) (fun _ => ?_) trivial
  refine v_iadd (pc := 1066) C (F := True) dL_law_1066 (fun _ => ?_) trivial
  refine v_sld (pc := 1067) C X (sin1 hi hL) dL_law_1067 ?_
  refine v_callLI (pc := 1068) C (w1 := wX G σ) (w2 := wX G σ) (wr := wM G τ) (b := aX G 0) (As := [.int (xs (Int32.toNatClampNeg (nI i + 1)))]) (nargs := 1) (fun A => m5_looked (gS G A) K.2.1 _ σ r hx) mw_823 mw_824 mw_825 mw_2 mw_826 rc_5 ⟨by decide +kernel, by decide +kernel, by decide +kernel⟩ ⟨(Nat.le_of_ble_eq_true rfl), (Nat.le_of_ble_eq_true rfl)⟩ rfl (Nat.le_of_ble_eq_true rfl) dL_law_1068 ?_
  refine v_aload_n (pc := 1071) C (F := True) 1 rfl dL_law_1071 (fun _ => ?_) trivial
  refine v_aload_n (pc := 1072) C (F := True) 3 rfl dL_law_1072 (fun _ => ?_) trivial
  refine v_iload_n (pc := 1073) C (F := True) 0 rfl dL_law_1073 (fun _ => ?_) trivial
  refine v_iconst (pc := 1074) C (F := True) 1 dL_law_1074 (by decide) (fun _ => ?_) trivial
  refine v_iadd (pc := 1075) C (F := True) dL_law_1075 (fun _ => ?_) trivial
  refine v_sld (pc := 1076) C X (sin1 hi hL) dL_law_1076 ?_
  refine v_flip ?_
  refine v_callLI (pc := 1077) C (w1 := wM G τ) (w2 := wM G τ) (wr := wX G σ) (b := aM G 0) (As := [.int (xs (Int32.toNatClampNeg (nI i + 1)))]) (nargs := 1) (fun A => m6_looked (gS G A) K.2.1 _ τ r hm) mw_832 mw_833 mw_834 mw_5 mw_835 rc_6 ⟨by decide +kernel, by decide +kernel, by decide +kernel⟩ ⟨(Nat.le_of_ble_eq_true rfl), (Nat.le_of_ble_eq_true rfl)⟩ rfl (Nat.le_of_ble_eq_true rfl) dL_law_1077 ?_
  refine v_flip ?_
  refine (?_ : tp (if r = r then some () else (none : Option Unit)) (fun _ => True) → _) ⟨(), if_pos rfl, trivial⟩
  refine v_icmp_eq (pc := 1080) C 1293 dL_law_1080 (by decide) (fun _ => ?_) tp_no
  exact nx σ τ h'
set_option maxHeartbeats 4000000 in
set_option maxRecDepth 100000 in
theorem lc_goes (C : Ctx G K code RL 4 13 474) (X : SX G K b L xs) (hL : L ≤ 2560) (hi : i + 5 ≤ L) (h : RR σ τ) (nx : NX G K b i) : V G K (wX G σ ++ wM G τ) 1085 (lvL G b i) [] := by
  obtain ⟨r, σ', τ', hx, hm, h'⟩ := r_goes h (xs (Int32.toNatClampNeg (nI i + 1)))
  refine v_aload_n (pc := 1085) C (F := True) 2 rfl dL_law_1085 (fun _ => ?_) trivial
  refine v_aload_n (pc := 1086) C (F := True) 3 rfl dL_law_1086 (fun _ => ?_) trivial
  refine v_iload_n (pc := 1087) C (F := True) 0 rfl dL_law_1087 (fun _ => ?_) trivial
  refine v_iconst (pc := 1088) C (F := True) 1 dL_law_1088 (by decide) (fun _ => ?_) trivial
  refine v_iadd (pc := 1089) C (F := True) dL_law_1089 (fun _ => ?_) trivial
  refine v_sld (pc := 1090) C X (sin1 hi hL) dL_law_1090 ?_
  refine v_callLI (pc := 1091) C (w1 := wX G σ) (w2 := wX G σ') (wr := wM G τ) (b := aX G 0) (As := [.int (xs (Int32.toNatClampNeg (nI i + 1)))]) (nargs := 1) (fun A => m5_goes (gS G A) K.2.1 _ σ r σ' hx) mw_837 mw_838 mw_839 mw_2 mw_840 rc_5 ⟨by decide +kernel, by decide +kernel, by decide +kernel⟩ ⟨(Nat.le_of_ble_eq_true rfl), (Nat.le_of_ble_eq_true rfl)⟩ rfl (Nat.le_of_ble_eq_true rfl) dL_law_1091 ?_
  refine v_aload_n (pc := 1094) C (F := True) 1 rfl dL_law_1094 (fun _ => ?_) trivial
  refine v_aload_n (pc := 1095) C (F := True) 3 rfl dL_law_1095 (fun _ => ?_) trivial
  refine v_iload_n (pc := 1096) C (F := True) 0 rfl dL_law_1096 (fun _ => ?_) trivial
  refine v_iconst (pc := 1097) C (F := True) 1 dL_law_1097 (by decide) (fun _ => ?_) trivial
  refine v_iadd (pc := 1098) C (F := True) dL_law_1098 (fun _ => ?_) trivial
  refine v_sld (pc := 1099) C X (sin1 hi hL) dL_law_1099 ?_
  refine v_flip ?_
  refine v_callLI (pc := 1100) C (w1 := wM G τ) (w2 := wM G τ') (wr := wX G σ') (b := aM G 0) (As := [.int (xs (Int32.toNatClampNeg (nI i + 1)))]) (nargs := 1) (fun A => m6_goes (gS G A) K.2.1 _ τ r τ' hm) mw_842 mw_843 mw_844 mw_5 mw_845 rc_6 ⟨by decide +kernel, by decide +kernel, by decide +kernel⟩ ⟨(Nat.le_of_ble_eq_true rfl), (Nat.le_of_ble_eq_true rfl)⟩ rfl (Nat.le_of_ble_eq_true rfl) dL_law_1100 ?_
  refine v_flip ?_
  refine (?_ : tp (if r = r then some () else (none : Option Unit)) (fun _ => True) → _) ⟨(), if_pos rfl, trivial⟩
  refine v_icmp_eq (pc := 1103) C 1293 dL_law_1103 (by decide) (fun _ => ?_) tp_no
  exact nx σ' τ' h'
set_option maxHeartbeats 4000000 in
set_option maxRecDepth 100000 in
theorem lc_climb (C : Ctx G K code RL 4 13 474) (X : SX G K b L xs) (hL : L ≤ 2560) (hi : i + 5 ≤ L) (h : RR σ τ) (nx : NX G K b i) : V G K (wX G σ ++ wM G τ) 1108 (lvL G b i) [] := by
  obtain ⟨r, σ', τ', hx, hm, h'⟩ := r_climb h (xs (Int32.toNatClampNeg (nI i + 1)))
  refine v_aload_n (pc := 1108) C (F := True) 2 rfl dL_law_1108 (fun _ => ?_) trivial
  refine v_aload_n (pc := 1109) C (F := True) 3 rfl dL_law_1109 (fun _ => ?_) trivial
  refine v_iload_n (pc := 1110) C (F := True) 0 rfl dL_law_1110 (fun _ => ?_) trivial
  refine v_iconst (pc := 1111) C (F := True) 1 dL_law_1111 (by decide) (fun _ => ?_) trivial
  refine v_iadd (pc := 1112) C (F := True) dL_law_1112 (fun _ => ?_) trivial
  refine v_sld (pc := 1113) C X (sin1 hi hL) dL_law_1113 ?_
  refine v_callLI (pc := 1114) C (w1 := wX G σ) (w2 := wX G σ') (wr := wM G τ) (b := aX G 0) (As := [.int (xs (Int32.toNatClampNeg (nI i + 1)))]) (nargs := 1) (fun A => m5_climb (gS G A) K.2.1 _ σ r σ' hx) mw_846 mw_847 mw_848 mw_2 mw_849 rc_5 ⟨by decide +kernel, by decide +kernel, by decide +kernel⟩ ⟨(Nat.le_of_ble_eq_true rfl), (Nat.le_of_ble_eq_true rfl)⟩ rfl (Nat.le_of_ble_eq_true rfl) dL_law_1114 ?_
  refine v_aload_n (pc := 1117) C (F := True) 1 rfl dL_law_1117 (fun _ => ?_) trivial
  refine v_aload_n (pc := 1118) C (F := True) 3 rfl dL_law_1118 (fun _ => ?_) trivial
  refine v_iload_n (pc := 1119) C (F := True) 0 rfl dL_law_1119 (fun _ => ?_) trivial
  refine v_iconst (pc := 1120) C (F := True) 1 dL_law_1120 (by decide) (fun _ => ?_) trivial
  refine v_iadd (pc := 1121) C (F := True) dL_law_1121 (fun _ => ?_) trivial
  refine v_sld (pc := 1122) C X (sin1 hi hL) dL_law_1122 ?_
  refine v_flip ?_
  refine v_callLI (pc := 1123) C (w1 := wM G τ) (w2 := wM G τ') (wr := wX G σ') (b := aM G 0) (As := [.int (xs (Int32.toNatClampNeg (nI i + 1)))]) (nargs := 1) (fun A => m6_climb (gS G A) K.2.1 _ τ r τ' hm) mw_865 mw_866 mw_867 mw_5 mw_868 rc_6 ⟨by decide +kernel, by decide +kernel, by decide +kernel⟩ ⟨(Nat.le_of_ble_eq_true rfl), (Nat.le_of_ble_eq_true rfl)⟩ rfl (Nat.le_of_ble_eq_true rfl) dL_law_1123 ?_
  refine v_flip ?_
  refine (?_ : tp (if r = r then some () else (none : Option Unit)) (fun _ => True) → _) ⟨(), if_pos rfl, trivial⟩
  refine v_icmp_eq (pc := 1126) C 1293 dL_law_1126 (by decide) (fun _ => ?_) tp_no
  exact nx σ' τ' h'
set_option maxHeartbeats 4000000 in
set_option maxRecDepth 100000 in
theorem lc_now (C : Ctx G K code RL 4 13 474) (X : SX G K b L xs) (hL : L ≤ 2560) (hi : i + 5 ≤ L) (h : RR σ τ) (nx : NX G K b i) : V G K (wX G σ ++ wM G τ) 1131 (lvL G b i) [] := by
  obtain ⟨r, σ', τ', hx, hm, h'⟩ := r_now h (xs (Int32.toNatClampNeg (nI i + 1)))
  obtain ⟨hx, eσ⟩ := pI_some hx
  rw [eσ] at h'
  obtain ⟨hm, eτ⟩ := pI_some hm
  rw [eτ] at h'
  refine v_aload_n (pc := 1131) C (F := True) 2 rfl dL_law_1131 (fun _ => ?_) trivial
  refine v_aload_n (pc := 1132) C (F := True) 3 rfl dL_law_1132 (fun _ => ?_) trivial
  refine v_iload_n (pc := 1133) C (F := True) 0 rfl dL_law_1133 (fun _ => ?_) trivial
  refine v_iconst (pc := 1134) C (F := True) 1 dL_law_1134 (by decide) (fun _ => ?_) trivial
  refine v_iadd (pc := 1135) C (F := True) dL_law_1135 (fun _ => ?_) trivial
  refine v_sld (pc := 1136) C X (sin1 hi hL) dL_law_1136 ?_
  refine v_callLI (pc := 1137) C (w1 := wX G σ) (w2 := wX G σ) (wr := wM G τ) (b := aX G 0) (As := [.int (xs (Int32.toNatClampNeg (nI i + 1)))]) (nargs := 1) (fun A => m5_now (gS G A) K.2.1 _ σ r hx) mw_874 mw_875 mw_876 mw_2 mw_877 rc_5 ⟨by decide +kernel, by decide +kernel, by decide +kernel⟩ ⟨(Nat.le_of_ble_eq_true rfl), (Nat.le_of_ble_eq_true rfl)⟩ rfl (Nat.le_of_ble_eq_true rfl) dL_law_1137 ?_
  refine v_aload_n (pc := 1140) C (F := True) 1 rfl dL_law_1140 (fun _ => ?_) trivial
  refine v_aload_n (pc := 1141) C (F := True) 3 rfl dL_law_1141 (fun _ => ?_) trivial
  refine v_iload_n (pc := 1142) C (F := True) 0 rfl dL_law_1142 (fun _ => ?_) trivial
  refine v_iconst (pc := 1143) C (F := True) 1 dL_law_1143 (by decide) (fun _ => ?_) trivial
  refine v_iadd (pc := 1144) C (F := True) dL_law_1144 (fun _ => ?_) trivial
  refine v_sld (pc := 1145) C X (sin1 hi hL) dL_law_1145 ?_
  refine v_flip ?_
  refine v_callLI (pc := 1146) C (w1 := wM G τ) (w2 := wM G τ) (wr := wX G σ) (b := aM G 0) (As := [.int (xs (Int32.toNatClampNeg (nI i + 1)))]) (nargs := 1) (fun A => m6_now (gS G A) K.2.1 _ τ r hm) mw_882 mw_883 mw_884 mw_5 mw_885 rc_6 ⟨by decide +kernel, by decide +kernel, by decide +kernel⟩ ⟨(Nat.le_of_ble_eq_true rfl), (Nat.le_of_ble_eq_true rfl)⟩ rfl (Nat.le_of_ble_eq_true rfl) dL_law_1146 ?_
  refine v_flip ?_
  refine (?_ : tp (if r = r then some () else (none : Option Unit)) (fun _ => True) → _) ⟨(), if_pos rfl, trivial⟩
  refine v_icmp_eq (pc := 1149) C 1293 dL_law_1149 (by decide) (fun _ => ?_) tp_no
  exact nx σ τ h'
set_option maxHeartbeats 4000000 in
set_option maxRecDepth 100000 in
theorem lc_lot (C : Ctx G K code RL 4 13 474) (X : SX G K b L xs) (hL : L ≤ 2560) (hi : i + 5 ≤ L) (h : RR σ τ) (nx : NX G K b i) : V G K (wX G σ ++ wM G τ) 1154 (lvL G b i) [] := by
  obtain ⟨r, σ', τ', hx, hm, h'⟩ := r_lot h (xs (Int32.toNatClampNeg (nI i + 1)))
  refine v_aload_n (pc := 1154) C (F := True) 2 rfl dL_law_1154 (fun _ => ?_) trivial
  refine v_aload_n (pc := 1155) C (F := True) 3 rfl dL_law_1155 (fun _ => ?_) trivial
  refine v_iload_n (pc := 1156) C (F := True) 0 rfl dL_law_1156 (fun _ => ?_) trivial
  refine v_iconst (pc := 1157) C (F := True) 1 dL_law_1157 (by decide) (fun _ => ?_) trivial
  refine v_iadd (pc := 1158) C (F := True) dL_law_1158 (fun _ => ?_) trivial
  refine v_sld (pc := 1159) C X (sin1 hi hL) dL_law_1159 ?_
  refine v_callLI (pc := 1160) C (w1 := wX G σ) (w2 := wX G σ') (wr := wM G τ) (b := aX G 0) (As := [.int (xs (Int32.toNatClampNeg (nI i + 1)))]) (nargs := 1) (fun A => m5_lot (gS G A) K.2.1 _ σ r σ' hx) mw_886 mw_887 mw_888 mw_2 mw_889 rc_5 ⟨by decide +kernel, by decide +kernel, by decide +kernel⟩ ⟨(Nat.le_of_ble_eq_true rfl), (Nat.le_of_ble_eq_true rfl)⟩ rfl (Nat.le_of_ble_eq_true rfl) dL_law_1160 ?_
  refine v_aload_n (pc := 1163) C (F := True) 1 rfl dL_law_1163 (fun _ => ?_) trivial
  refine v_aload_n (pc := 1164) C (F := True) 3 rfl dL_law_1164 (fun _ => ?_) trivial
  refine v_iload_n (pc := 1165) C (F := True) 0 rfl dL_law_1165 (fun _ => ?_) trivial
  refine v_iconst (pc := 1166) C (F := True) 1 dL_law_1166 (by decide) (fun _ => ?_) trivial
  refine v_iadd (pc := 1167) C (F := True) dL_law_1167 (fun _ => ?_) trivial
  refine v_sld (pc := 1168) C X (sin1 hi hL) dL_law_1168 ?_
  refine v_flip ?_
  refine v_callLI (pc := 1169) C (w1 := wM G τ) (w2 := wM G τ') (wr := wX G σ') (b := aM G 0) (As := [.int (xs (Int32.toNatClampNeg (nI i + 1)))]) (nargs := 1) (fun A => m6_lot (gS G A) K.2.1 _ τ r τ' hm) mw_890 mw_891 mw_892 mw_5 mw_893 rc_6 ⟨by decide +kernel, by decide +kernel, by decide +kernel⟩ ⟨(Nat.le_of_ble_eq_true rfl), (Nat.le_of_ble_eq_true rfl)⟩ rfl (Nat.le_of_ble_eq_true rfl) dL_law_1169 ?_
  refine v_flip ?_
  refine (?_ : tp (if r = r then some () else (none : Option Unit)) (fun _ => True) → _) ⟨(), if_pos rfl, trivial⟩
  refine v_icmp_eq (pc := 1172) C 1293 dL_law_1172 (by decide) (fun _ => ?_) tp_no
  exact nx σ' τ' h'
set_option maxHeartbeats 4000000 in
set_option maxRecDepth 100000 in
theorem lc_mark (C : Ctx G K code RL 4 13 474) (X : SX G K b L xs) (hL : L ≤ 2560) (hi : i + 5 ≤ L) (h : RR σ τ) (nx : NX G K b i) : V G K (wX G σ ++ wM G τ) 1177 (lvL G b i) [] := by
  obtain ⟨r, σ', τ', hx, hm, h'⟩ := r_mark h (xs (Int32.toNatClampNeg (nI i + 1))) (xs (Int32.toNatClampNeg (nI i + 2)))
  refine v_aload_n (pc := 1177) C (F := True) 2 rfl dL_law_1177 (fun _ => ?_) trivial
  refine v_aload_n (pc := 1178) C (F := True) 3 rfl dL_law_1178 (fun _ => ?_) trivial
  refine v_iload_n (pc := 1179) C (F := True) 0 rfl dL_law_1179 (fun _ => ?_) trivial
  refine v_iconst (pc := 1180) C (F := True) 1 dL_law_1180 (by decide) (fun _ => ?_) trivial
  refine v_iadd (pc := 1181) C (F := True) dL_law_1181 (fun _ => ?_) trivial
  refine v_sld (pc := 1182) C X (sin1 hi hL) dL_law_1182 ?_
  refine v_aload_n (pc := 1183) C (F := True) 3 rfl dL_law_1183 (fun _ => ?_) trivial
  refine v_iload_n (pc := 1184) C (F := True) 0 rfl dL_law_1184 (fun _ => ?_) trivial
  refine v_iconst (pc := 1185) C (F := True) 2 dL_law_1185 (by decide) (fun _ => ?_) trivial
  refine v_iadd (pc := 1186) C (F := True) dL_law_1186 (fun _ => ?_) trivial
  refine v_sld (pc := 1187) C X (sin2 hi hL) dL_law_1187 ?_
  refine v_callLI (pc := 1188) C (w1 := wX G σ) (w2 := wX G σ') (wr := wM G τ) (b := aX G 0) (As := [.int (xs (Int32.toNatClampNeg (nI i + 1))), .int (xs (Int32.toNatClampNeg (nI i + 2)))]) (nargs := 2) (fun A => m5_mark (gS G A) K.2.1 _ _ σ r σ' hx) mw_894 mw_895 mw_896 mw_2 mw_897 rc_5 ⟨by decide +kernel, by decide +kernel, by decide +kernel⟩ ⟨(Nat.le_of_ble_eq_true rfl), (Nat.le_of_ble_eq_true rfl)⟩ rfl (Nat.le_of_ble_eq_true rfl) dL_law_1188 ?_
  refine v_aload_n (pc := 1191) C (F := True) 1 rfl dL_law_1191 (fun _ => ?_) trivial
  refine v_aload_n (pc := 1192) C (F := True) 3 rfl dL_law_1192 (fun _ => ?_) trivial
  refine v_iload_n (pc := 1193) C (F := True) 0 rfl dL_law_1193 (fun _ => ?_) trivial
  refine v_iconst (pc := 1194) C (F := True) 1 dL_law_1194 (by decide) (fun _ => ?_) trivial
  refine v_iadd (pc := 1195) C (F := True) dL_law_1195 (fun _ => ?_) trivial
  refine v_sld (pc := 1196) C X (sin1 hi hL) dL_law_1196 ?_
  refine v_aload_n (pc := 1197) C (F := True) 3 rfl dL_law_1197 (fun _ => ?_) trivial
  refine v_iload_n (pc := 1198) C (F := True) 0 rfl dL_law_1198 (fun _ => ?_) trivial
  refine v_iconst (pc := 1199) C (F := True) 2 dL_law_1199 (by decide) (fun _ => ?_) trivial
  refine v_iadd (pc := 1200) C (F := True) dL_law_1200 (fun _ => ?_) trivial
  refine v_sld (pc := 1201) C X (sin2 hi hL) dL_law_1201 ?_
  refine v_flip ?_
  refine v_callLI (pc := 1202) C (w1 := wM G τ) (w2 := wM G τ') (wr := wX G σ') (b := aM G 0) (As := [.int (xs (Int32.toNatClampNeg (nI i + 1))), .int (xs (Int32.toNatClampNeg (nI i + 2)))]) (nargs := 2) (fun A => m6_mark (gS G A) K.2.1 _ _ τ r τ' hm) mw_926 mw_927 mw_928 mw_5 mw_929 rc_6 ⟨by decide +kernel, by decide +kernel, by decide +kernel⟩ ⟨(Nat.le_of_ble_eq_true rfl), (Nat.le_of_ble_eq_true rfl)⟩ rfl (Nat.le_of_ble_eq_true rfl) dL_law_1202 ?_
  refine v_flip ?_
  refine (?_ : tp (if r = r then some () else (none : Option Unit)) (fun _ => True) → _) ⟨(), if_pos rfl, trivial⟩
  refine v_icmp_eq (pc := 1205) C 1293 dL_law_1205 (by decide) (fun _ => ?_) tp_no
  exact nx σ' τ' h'
set_option maxHeartbeats 4000000 in
set_option maxRecDepth 100000 in
theorem lc_keep (C : Ctx G K code RL 4 13 474) (X : SX G K b L xs) (hL : L ≤ 2560) (hi : i + 5 ≤ L) (h : RR σ τ) (nx : NX G K b i) : V G K (wX G σ ++ wM G τ) 1210 (lvL G b i) [] := by
  obtain ⟨r, σ', τ', hx, hm, h'⟩ := r_keep h (xs (Int32.toNatClampNeg (nI i + 1)))
  refine v_aload_n (pc := 1210) C (F := True) 2 rfl dL_law_1210 (fun _ => ?_) trivial
  refine v_aload_n (pc := 1211) C (F := True) 3 rfl dL_law_1211 (fun _ => ?_) trivial
  refine v_iload_n (pc := 1212) C (F := True) 0 rfl dL_law_1212 (fun _ => ?_) trivial
  refine v_iconst (pc := 1213) C (F := True) 1 dL_law_1213 (by decide) (fun _ => ?_) trivial
  refine v_iadd (pc := 1214) C (F := True) dL_law_1214 (fun _ => ?_) trivial
  refine v_sld (pc := 1215) C X (sin1 hi hL) dL_law_1215 ?_
  refine v_callLI (pc := 1216) C (w1 := wX G σ) (w2 := wX G σ') (wr := wM G τ) (b := aX G 0) (As := [.int (xs (Int32.toNatClampNeg (nI i + 1)))]) (nargs := 1) (fun A => m5_keep (gS G A) K.2.1 _ σ r σ' hx) mw_936 mw_937 mw_938 mw_2 mw_939 rc_5 ⟨by decide +kernel, by decide +kernel, by decide +kernel⟩ ⟨(Nat.le_of_ble_eq_true rfl), (Nat.le_of_ble_eq_true rfl)⟩ rfl (Nat.le_of_ble_eq_true rfl) dL_law_1216 ?_
  refine v_aload_n (pc := 1219) C (F := True) 1 rfl dL_law_1219 (fun _ => ?_) trivial
  refine v_aload_n (pc := 1220) C (F := True) 3 rfl dL_law_1220 (fun _ => ?_) trivial
  refine v_iload_n (pc := 1221) C (F := True) 0 rfl dL_law_1221 (fun _ => ?_) trivial
  refine v_iconst (pc := 1222) C (F := True) 1 dL_law_1222 (by decide) (fun _ => ?_) trivial
  refine v_iadd (pc := 1223) C (F := True) dL_law_1223 (fun _ => ?_) trivial
  refine v_sld (pc := 1224) C X (sin1 hi hL) dL_law_1224 ?_
  refine v_flip ?_
  refine v_callLI (pc := 1225) C (w1 := wM G τ) (w2 := wM G τ') (wr := wX G σ') (b := aM G 0) (As := [.int (xs (Int32.toNatClampNeg (nI i + 1)))]) (nargs := 1) (fun A => m6_keep (gS G A) K.2.1 _ τ r τ' hm) mw_944 mw_945 mw_946 mw_5 mw_947 rc_6 ⟨by decide +kernel, by decide +kernel, by decide +kernel⟩ ⟨(Nat.le_of_ble_eq_true rfl), (Nat.le_of_ble_eq_true rfl)⟩ rfl (Nat.le_of_ble_eq_true rfl) dL_law_1225 ?_
  refine v_flip ?_
  refine (?_ : tp (if r = r then some () else (none : Option Unit)) (fun _ => True) → _) ⟨(), if_pos rfl, trivial⟩
  refine v_icmp_eq (pc := 1228) C 1293 dL_law_1228 (by decide) (fun _ => ?_) tp_no
  exact nx σ' τ' h'
set_option maxHeartbeats 4000000 in
set_option maxRecDepth 100000 in
theorem lc_back (C : Ctx G K code RL 4 13 474) (X : SX G K b L xs) (hL : L ≤ 2560) (hi : i + 5 ≤ L) (h : RR σ τ) (nx : NX G K b i) : V G K (wX G σ ++ wM G τ) 1233 (lvL G b i) [] := by
  obtain ⟨r, σ', τ', hx, hm, h'⟩ := r_back h (xs (Int32.toNatClampNeg (nI i + 1)))
  refine v_aload_n (pc := 1233) C (F := True) 2 rfl dL_law_1233 (fun _ => ?_) trivial
  refine v_aload_n (pc := 1234) C (F := True) 3 rfl dL_law_1234 (fun _ => ?_) trivial
  refine v_iload_n (pc := 1235) C (F := True) 0 rfl dL_law_1235 (fun _ => ?_) trivial
  refine v_iconst (pc := 1236) C (F := True) 1 dL_law_1236 (by decide) (fun _ => ?_) trivial
  refine v_iadd (pc := 1237) C (F := True) dL_law_1237 (fun _ => ?_) trivial
  refine v_sld (pc := 1238) C X (sin1 hi hL) dL_law_1238 ?_
  refine v_callLI (pc := 1239) C (w1 := wX G σ) (w2 := wX G σ') (wr := wM G τ) (b := aX G 0) (As := [.int (xs (Int32.toNatClampNeg (nI i + 1)))]) (nargs := 1) (fun A => m5_back (gS G A) K.2.1 _ σ r σ' hx) mw_952 mw_953 mw_954 mw_2 mw_955 rc_5 ⟨by decide +kernel, by decide +kernel, by decide +kernel⟩ ⟨(Nat.le_of_ble_eq_true rfl), (Nat.le_of_ble_eq_true rfl)⟩ rfl (Nat.le_of_ble_eq_true rfl) dL_law_1239 ?_
  refine v_aload_n (pc := 1242) C (F := True) 1 rfl dL_law_1242 (fun _ => ?_) trivial
  refine v_aload_n (pc := 1243) C (F := True) 3 rfl dL_law_1243 (fun _ => ?_) trivial
  refine v_iload_n (pc := 1244) C (F := True) 0 rfl dL_law_1244 (fun _ => ?_) trivial
  refine v_iconst (pc := 1245) C (F := True) 1 dL_law_1245 (by decide) (fun _ => ?_) trivial
  refine v_iadd (pc := 1246) C (F := True) dL_law_1246 (fun _ => ?_) trivial
  refine v_sld (pc := 1247) C X (sin1 hi hL) dL_law_1247 ?_
  refine v_flip ?_
  refine v_callLI (pc := 1248) C (w1 := wM G τ) (w2 := wM G τ') (wr := wX G σ') (b := aM G 0) (As := [.int (xs (Int32.toNatClampNeg (nI i + 1)))]) (nargs := 1) (fun A => m6_back (gS G A) K.2.1 _ τ r τ' hm) mw_956 mw_957 mw_958 mw_5 mw_959 rc_6 ⟨by decide +kernel, by decide +kernel, by decide +kernel⟩ ⟨(Nat.le_of_ble_eq_true rfl), (Nat.le_of_ble_eq_true rfl)⟩ rfl (Nat.le_of_ble_eq_true rfl) dL_law_1248 ?_
  refine v_flip ?_
  refine (?_ : tp (if r = r then some () else (none : Option Unit)) (fun _ => True) → _) ⟨(), if_pos rfl, trivial⟩
  refine v_icmp_eq (pc := 1251) C 1293 dL_law_1251 (by decide) (fun _ => ?_) tp_no
  exact nx σ' τ' h'
set_option maxHeartbeats 4000000 in
set_option maxRecDepth 100000 in
theorem lc_count (C : Ctx G K code RL 4 13 474) (X : SX G K b L xs) (hL : L ≤ 2560) (hi : i + 5 ≤ L) (h : RR σ τ) (nx : NX G K b i) : V G K (wX G σ ++ wM G τ) 1256 (lvL G b i) [] := by
  obtain ⟨r, σ', τ', hx, hm, h'⟩ := r_count h (xs (Int32.toNatClampNeg (nI i + 1)))
  obtain ⟨hx, eσ⟩ := pI_some hx
  rw [eσ] at h'
  obtain ⟨hm, eτ⟩ := pI_some hm
  rw [eτ] at h'
  refine v_aload_n (pc := 1256) C (F := True) 2 rfl dL_law_1256 (fun _ => ?_) trivial
  refine v_aload_n (pc := 1257) C (F := True) 3 rfl dL_law_1257 (fun _ => ?_) trivial
  refine v_iload_n (pc := 1258) C (F := True) 0 rfl dL_law_1258 (fun _ => ?_) trivial
  refine v_iconst (pc := 1259) C (F := True) 1 dL_law_1259 (by decide) (fun _ => ?_) trivial
  refine v_iadd (pc := 1260) C (F := True) dL_law_1260 (fun _ => ?_) trivial
  refine v_sld (pc := 1261) C X (sin1 hi hL) dL_law_1261 ?_
  refine v_callLI (pc := 1262) C (w1 := wX G σ) (w2 := wX G σ) (wr := wM G τ) (b := aX G 0) (As := [.int (xs (Int32.toNatClampNeg (nI i + 1)))]) (nargs := 1) (fun A => m5_count (gS G A) K.2.1 _ σ r hx) mw_960 mw_961 mw_962 mw_2 mw_963 rc_5 ⟨by decide +kernel, by decide +kernel, by decide +kernel⟩ ⟨(Nat.le_of_ble_eq_true rfl), (Nat.le_of_ble_eq_true rfl)⟩ rfl (Nat.le_of_ble_eq_true rfl) dL_law_1262 ?_
  refine v_aload_n (pc := 1265) C (F := True) 1 rfl dL_law_1265 (fun _ => ?_) trivial
  refine v_aload_n (pc := 1266) C (F := True) 3 rfl dL_law_1266 (fun _ => ?_) trivial
  refine v_iload_n (pc := 1267) C (F := True) 0 rfl dL_law_1267 (fun _ => ?_) trivial
  refine v_iconst (pc := 1268) C (F := True) 1 dL_law_1268 (by decide) (fun _ => ?_) trivial
  refine v_iadd (pc := 1269) C (F := True) dL_law_1269 (fun _ => ?_) trivial
  refine v_sld (pc := 1270) C X (sin1 hi hL) dL_law_1270 ?_
  refine v_flip ?_
  refine v_callLI (pc := 1271) C (w1 := wM G τ) (w2 := wM G τ) (wr := wX G σ) (b := aM G 0) (As := [.int (xs (Int32.toNatClampNeg (nI i + 1)))]) (nargs := 1) (fun A => m6_count (gS G A) K.2.1 _ τ r hm) mw_964 mw_965 mw_966 mw_5 mw_967 rc_6 ⟨by decide +kernel, by decide +kernel, by decide +kernel⟩ ⟨(Nat.le_of_ble_eq_true rfl), (Nat.le_of_ble_eq_true rfl)⟩ rfl (Nat.le_of_ble_eq_true rfl) dL_law_1271 ?_
  refine v_flip ?_
  refine (?_ : tp (if r = r then some () else (none : Option Unit)) (fun _ => True) → _) ⟨(), if_pos rfl, trivial⟩
  refine v_icmp_eq (pc := 1274) C 1293 dL_law_1274 (by decide) (fun _ => ?_) tp_no
  exact nx σ τ h'
set_option maxHeartbeats 4000000 in
set_option maxRecDepth 100000 in
theorem lc_trace (C : Ctx G K code RL 4 13 474) (X : SX G K b L xs) (hL : L ≤ 2560) (hi : i + 5 ≤ L) (h : RR σ τ) (nx : NX G K b i) : V G K (wX G σ ++ wM G τ) 1279 (lvL G b i) [] := by
  obtain ⟨r, σ', τ', hx, hm, h'⟩ := r_trace h 
  obtain ⟨hx, eσ⟩ := pI_some hx
  rw [eσ] at h'
  obtain ⟨hm, eτ⟩ := pI_some hm
  rw [eτ] at h'
  refine v_aload_n (pc := 1279) C (F := True) 2 rfl dL_law_1279 (fun _ => ?_) trivial
  refine v_callLL (pc := 1280) C (w1 := wX G σ) (w2 := wX G σ) (wr := wM G τ) (b := aX G 0) (As := []) (nargs := 0) (fun A => m5_trace (gS G A) K.2.1 σ r hx) mw_968 mw_969 mw_970 mw_2 mw_971 rc_5 ⟨by decide +kernel, by decide +kernel, by decide +kernel⟩ ⟨(Nat.le_of_ble_eq_true rfl), (Nat.le_of_ble_eq_true rfl)⟩ rfl (Nat.le_of_ble_eq_true rfl) dL_law_1280 ?_
  refine v_aload_n (pc := 1283) C (F := True) 1 rfl dL_law_1283 (fun _ => ?_) trivial
  refine v_flip ?_
  refine v_callLL (pc := 1284) C (w1 := wM G τ) (w2 := wM G τ) (wr := wX G σ) (b := aM G 0) (As := []) (nargs := 0) (fun A => m6_trace (gS G A) K.2.1 τ r hm) mw_972 mw_973 mw_974 mw_5 mw_975 rc_6 ⟨by decide +kernel, by decide +kernel, by decide +kernel⟩ ⟨(Nat.le_of_ble_eq_true rfl), (Nat.le_of_ble_eq_true rfl)⟩ rfl (Nat.le_of_ble_eq_true rfl) dL_law_1284 ?_
  refine v_flip ?_
  refine (?_ : tp (if r = r then some () else (none : Option Unit)) (fun _ => True) → _) ⟨(), if_pos rfl, trivial⟩
  refine v_lcmp_eq (pc := 1287) C 1293 dL_law_1287 dL_law_1288 (by decide) (fun _ => ?_) tp_no
  exact nx σ τ h'
end CASES
