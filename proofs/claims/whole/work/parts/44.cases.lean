/-! THE LAW'S CASES: calls that may throw -/
section LCS
variable {p : Program} {l : Launch} {e : Env} {s : State} {m : MethodId} {below : List Frame} {meth : Method} {c : Code} {cells slots : Nat} {Q : State → Prop}
variable {b L : Nat} {xs : Nat → Int32} {D : va_G} {cI cC cZ cB cJ : ClassId} {ad : Nat → Nat} {G : Nat → va_E}
set_option maxRecDepth 100000 in
set_option maxHeartbeats 4000000 in
theorem lc_horse (K : lwC p l s m meth c b L xs D cI cC cZ cB cJ ad) {i : Nat} (hi : i + 5 ≤ L) (hc : cells + 6 ≤ 601024) (hs : slots + 36 ≤ 7293034) (hV : lwV ad cI cC cZ cB cJ G) (kont : ∀ (mc : Nat) (G' : Nat → va_E), mc ≤ 6 → lwV ad cI cC cZ cB cJ G' → kJ p l e room_1 s m #[Value.ref b] below meth c (cells + mc) (slots + 6 * mc) Q 9 D ad 80 (lwA s) G' 1399 (lwB b ad i) []) : kJ p l e room_1 s m #[Value.ref b] below meth c cells slots Q 9 D ad 80 (lwA s) G 148 (lwB b ad i) [] := by
  obtain ⟨v, w, x, hi0, z0, z1, f, kp, tx, fi, gr, st, ty, th, at0, re, fo, hF, hM, hO, hI⟩ := hV
  have O := hI.O
  have R := hI.R
  have T := hI.T
  have H := hI.H
  obtain ⟨C, hl0, E, -⟩ := id K
  refine k_aload_n C dL_law_148 rfl (j := 1) rfl ?_
  refine kL_arg K 1 rfl (by omega) 0 4 rfl rfl dL_law_149 dL_law_150 dL_law_152 dL_law_153 dL_law_154 ?_
  refine kL_arg K 2 rfl (by omega) 0 4 rfl rfl dL_law_155 dL_law_156 dL_law_158 dL_law_159 dL_law_160 ?_
  refine k_aload_n C dL_law_161 rfl (j := 3) rfl ?_
  refine kh_callS C E (hh := [(0, 10, 13, 13), (0, 10, 17, 15)]) (As := [.ref (ad 0), .int (xs (i + 1)), .int (xs (i + 2)), .ref (ad 79)]) (rest := []) (m_L_horse l D cI cC cZ cB cJ ad 80 G v w x hi0 z0 z1 (xs (i + 1)) (xs (i + 2)) fo hl0 (by decide) hF hO) gL_law_L_horse rfl kd_L_horse rfl rfl ⟨(Nat.le_of_ble_eq_true rfl), (Nat.le_of_ble_eq_true rfl)⟩ rfl rfl (Nat.le_of_ble_eq_true rfl) ⟨by show cells + 3 ≤ 601024; omega, by show slots + 18 ≤ 7293034; omega⟩ dL_law_162 (fun r1 G1 h1 => ?_)
  have hfr1 := h1.2.2
  have hM1 := hM.keep (G' := G1) (fun j h8 h9 => hfr1 j h8 (by omega))
  refine k_istore C (lv' := (5, .int r1) :: lwB b ad i) dL_law_165 (by decide) rfl ?_
  refine k_aload_n C dL_law_167 rfl (j := 3) rfl ?_
  refine kL_arg K 1 rfl (by omega) 1 5 rfl rfl dL_law_168 dL_law_169 dL_law_171 dL_law_172 dL_law_173 ?_
  refine kL_arg K 2 rfl (by omega) 1 5 rfl rfl dL_law_174 dL_law_175 dL_law_177 dL_law_178 dL_law_179 ?_
  refine k_callVi C (As := [.int (xs (i + 1)), .int (xs (i + 2))]) (rest := []) 73 (m_X7_horse l D cI cC cZ cB cJ ad 80 G1 f kp tx fi gr st ty th at0 re (bnH v) (bnB v) (bnL v) (xs (i + 1)) (xs (i + 2)) (by decide) hM1 ⟨R.n0, O.nH⟩ H.le) gL_law_X7_horse rfl kd_X7_horse rfl rfl ⟨(Nat.le_of_ble_eq_true rfl), (Nat.le_of_ble_eq_true rfl)⟩ (by decide) hM1.1 rfl rfl rfl (Nat.le_of_ble_eq_true rfl) ⟨by show cells + 3 ≤ 601024; omega, by show slots + 18 ≤ 7293034; omega⟩ dL_law_180 (fun r2 G2 h2 => ?_)
  obtain ⟨ha, hb, hfr2⟩ := h2
  have hXb := Nat.lt_of_le_of_lt (xb_horse v (xs (i + 1)) (xs (i + 2))) (show 2 < 2 ^ 31 by decide)
  have hXT := (x_horse O R (xs (i + 1)) (xs (i + 2)))
  obtain ⟨e1, hV2, f9, kp9, tx9, fi9, gr9, st9, ty9, at9, re9, fo9, hM9, hO9, hA9⟩ := lw_two h1 hO hXT hXb hI (fun q => ⟨rfl, s_horse hI q⟩) (fun q => ⟨(ha q).1, fi, gr, at0, re, (ha q).2⟩) (fun q => ⟨fi, gr, at0, re, (hb q).2⟩) hfr2
  subst e1
  exact kL_tail K (by show cells + 3 ≤ 601024; omega) (by show slots + 18 ≤ 7293034; omega) hM9 hO9 hXT hXb hA9 dL_law_183 dL_law_185 dL_law_186 dL_law_189 dL_law_191 dL_law_196 dL_law_198 dL_law_201 dL_law_202 dL_law_203 dL_law_204 dL_law_206 dL_law_207 dL_law_208 dL_law_213 (by decide) (kont 3 G2 (by decide) hV2)
set_option maxRecDepth 100000 in
set_option maxHeartbeats 4000000 in
theorem lc_price (K : lwC p l s m meth c b L xs D cI cC cZ cB cJ ad) {i : Nat} (hi : i + 5 ≤ L) (hc : cells + 6 ≤ 601024) (hs : slots + 36 ≤ 7293034) (hV : lwV ad cI cC cZ cB cJ G) (kont : ∀ (mc : Nat) (G' : Nat → va_E), mc ≤ 6 → lwV ad cI cC cZ cB cJ G' → kJ p l e room_1 s m #[Value.ref b] below meth c (cells + mc) (slots + 6 * mc) Q 9 D ad 80 (lwA s) G' 1399 (lwB b ad i) []) : kJ p l e room_1 s m #[Value.ref b] below meth c cells slots Q 9 D ad 80 (lwA s) G 216 (lwB b ad i) [] := by
  obtain ⟨v, w, x, hi0, z0, z1, f, kp, tx, fi, gr, st, ty, th, at0, re, fo, hF, hM, hO, hI⟩ := hV
  have O := hI.O
  have R := hI.R
  have T := hI.T
  have H := hI.H
  obtain ⟨C, hl0, E, -⟩ := id K
  refine k_aload_n C dL_law_216 rfl (j := 1) rfl ?_
  refine kL_arg K 1 rfl (by omega) 0 4 rfl rfl dL_law_217 dL_law_218 dL_law_220 dL_law_221 dL_law_222 ?_
  refine kL_arg K 2 rfl (by omega) 0 4 rfl rfl dL_law_223 dL_law_224 dL_law_226 dL_law_227 dL_law_228 ?_
  refine kL_arg K 3 rfl (by omega) 0 4 rfl rfl dL_law_229 dL_law_230 dL_law_232 dL_law_233 dL_law_234 ?_
  refine k_aload_n C dL_law_235 rfl (j := 3) rfl ?_
  refine kh_callS C E (hh := [(0, 12, 15, 21), (0, 12, 19, 13), (0, 12, 23, 15)]) (As := [.ref (ad 0), .int (xs (i + 1)), .int (xs (i + 2)), .int (xs (i + 3)), .ref (ad 79)]) (rest := []) (m_L_price l D cI cC cZ cB cJ ad 80 G v w x hi0 z0 z1 (xs (i + 1)) (xs (i + 2)) (xs (i + 3)) fo hl0 (by decide) hF hO) gL_law_L_price rfl kd_L_price rfl rfl ⟨(Nat.le_of_ble_eq_true rfl), (Nat.le_of_ble_eq_true rfl)⟩ rfl rfl (Nat.le_of_ble_eq_true rfl) ⟨by show cells + 4 ≤ 601024; omega, by show slots + 24 ≤ 7293034; omega⟩ dL_law_236 (fun r1 G1 h1 => ?_)
  have hfr1 := h1.2.2
  have hM1 := hM.keep (G' := G1) (fun j h8 h9 => hfr1 j h8 (by omega))
  refine k_istore C (lv' := (5, .int r1) :: lwB b ad i) dL_law_239 (by decide) rfl ?_
  refine k_aload_n C dL_law_241 rfl (j := 3) rfl ?_
  refine kL_arg K 1 rfl (by omega) 1 5 rfl rfl dL_law_242 dL_law_243 dL_law_245 dL_law_246 dL_law_247 ?_
  refine kL_arg K 2 rfl (by omega) 1 5 rfl rfl dL_law_248 dL_law_249 dL_law_251 dL_law_252 dL_law_253 ?_
  refine kL_arg K 3 rfl (by omega) 1 5 rfl rfl dL_law_254 dL_law_255 dL_law_257 dL_law_258 dL_law_259 ?_
  refine k_callVi C (As := [.int (xs (i + 1)), .int (xs (i + 2)), .int (xs (i + 3))]) (rest := []) 73 (m_X7_price l D cI cC cZ cB cJ ad 80 G1 f kp tx fi gr st ty th at0 re (bnH v) (bnB v) (bnL v) (xs (i + 1)) (xs (i + 2)) (xs (i + 3)) (by decide) hM1 ⟨R.n0, O.nH⟩ ⟨R.n1, O.nB⟩ H.le) gL_law_X7_price rfl kd_X7_price rfl rfl ⟨(Nat.le_of_ble_eq_true rfl), (Nat.le_of_ble_eq_true rfl)⟩ (by decide) hM1.1 rfl rfl rfl (Nat.le_of_ble_eq_true rfl) ⟨by show cells + 4 ≤ 601024; omega, by show slots + 24 ≤ 7293034; omega⟩ dL_law_260 (fun r2 G2 h2 => ?_)
  obtain ⟨ha, hb, hfr2⟩ := h2
  have hXb := Nat.lt_of_le_of_lt (xb_price v (xs (i + 1)) (xs (i + 2)) (xs (i + 3))) (show 3 < 2 ^ 31 by decide)
  have hXT := (x_price O R (xs (i + 1)) (xs (i + 2)) (xs (i + 3)))
  obtain ⟨e1, hV2, f9, kp9, tx9, fi9, gr9, st9, ty9, at9, re9, fo9, hM9, hO9, hA9⟩ := lw_two h1 hO hXT hXb hI (fun q => ⟨(s_price hI q).2, (s_price hI q).1⟩) (fun q => ⟨(ha q).1, fi, gr, at0, re, (ha q).2⟩) (fun q => ⟨fi, gr, at0, re, (hb q).2⟩) hfr2
  subst e1
  exact kL_tail K (by show cells + 4 ≤ 601024; omega) (by show slots + 24 ≤ 7293034; omega) hM9 hO9 hXT hXb hA9 dL_law_263 dL_law_265 dL_law_266 dL_law_269 dL_law_271 dL_law_276 dL_law_278 dL_law_281 dL_law_282 dL_law_283 dL_law_284 dL_law_286 dL_law_287 dL_law_288 dL_law_293 (by decide) (kont 4 G2 (by decide) hV2)
set_option maxRecDepth 100000 in
set_option maxHeartbeats 4000000 in
theorem lc_take0 (K : lwC p l s m meth c b L xs D cI cC cZ cB cJ ad) {i : Nat} (hi : i + 5 ≤ L) (hc : cells + 6 ≤ 601024) (hs : slots + 36 ≤ 7293034) (hV : lwV ad cI cC cZ cB cJ G) (hz : xs (i + 3) = 0) (kont : ∀ (mc : Nat) (G' : Nat → va_E), mc ≤ 6 → lwV ad cI cC cZ cB cJ G' → kJ p l e room_1 s m #[Value.ref b] below meth c (cells + mc) (slots + 6 * mc) Q 9 D ad 80 (lwA s) G' 1399 (lwB b ad i) []) : kJ p l e room_1 s m #[Value.ref b] below meth c cells slots Q 9 D ad 80 (lwA s) G 296 (lwB b ad i) [] := by
  obtain ⟨v, w, x, hi0, z0, z1, f, kp, tx, fi, gr, st, ty, th, at0, re, fo, hF, hM, hO, hI⟩ := hV
  have O := hI.O
  have R := hI.R
  have T := hI.T
  have H := hI.H
  obtain ⟨C, hl0, E, -⟩ := id K
  refine k_aload_n C dL_law_296 rfl (j := 1) rfl ?_
  refine kL_arg K 1 rfl (by omega) 0 4 rfl rfl dL_law_297 dL_law_298 dL_law_300 dL_law_301 dL_law_302 ?_
  refine kL_arg K 2 rfl (by omega) 0 4 rfl rfl dL_law_303 dL_law_304 dL_law_306 dL_law_307 dL_law_308 ?_
  refine kL_arg K 3 rfl (by omega) 0 4 rfl rfl dL_law_309 dL_law_310 dL_law_312 dL_law_313 dL_law_314 ?_
  refine k_if_eq C 322 dL_law_315 (by decide) (fun _ => ?_) (fun q => absurd hz q)
  refine k_iconst C (v := 0) dL_law_322 (by decide) ?_
  refine k_aload_n C dL_law_323 rfl (j := 3) rfl ?_
  refine kh_callS C E (hh := [(0, 12, 15, 21), (0, 12, 19, 13), (0, 12, 23, 15)]) (As := [.ref (ad 0), .int (xs (i + 1)), .int (xs (i + 2)), .int 0, .ref (ad 79)]) (rest := []) (m_L_take l D cI cC cZ cB cJ ad 80 G v w x hi0 z0 z1 (xs (i + 1)) (xs (i + 2)) false fo hl0 (by decide) hF hO) gL_law_L_take rfl kd_L_take rfl rfl ⟨(Nat.le_of_ble_eq_true rfl), (Nat.le_of_ble_eq_true rfl)⟩ rfl rfl (Nat.le_of_ble_eq_true rfl) ⟨by show cells + 5 ≤ 601024; omega, by show slots + 30 ≤ 7293034; omega⟩ dL_law_324 (fun r1 G1 h1 => ?_)
  have hfr1 := h1.2.2
  have hM1 := hM.keep (G' := G1) (fun j h8 h9 => hfr1 j h8 (by omega))
  refine k_istore C (lv' := (5, .int r1) :: lwB b ad i) dL_law_327 (by decide) rfl ?_
  refine k_aload_n C dL_law_329 rfl (j := 3) rfl ?_
  refine kL_arg K 1 rfl (by omega) 1 5 rfl rfl dL_law_330 dL_law_331 dL_law_333 dL_law_334 dL_law_335 ?_
  refine kL_arg K 2 rfl (by omega) 1 5 rfl rfl dL_law_336 dL_law_337 dL_law_339 dL_law_340 dL_law_341 ?_
  refine kL_arg K 3 rfl (by omega) 1 5 rfl rfl dL_law_342 dL_law_343 dL_law_345 dL_law_346 dL_law_347 ?_
  refine k_if_eq C 355 dL_law_348 (by decide) (fun _ => ?_) (fun q => absurd hz q)
  refine k_iconst C (v := 0) dL_law_355 (by decide) ?_
  refine k_callVi C (As := [.int (xs (i + 1)), .int (xs (i + 2)), .int 0]) (rest := []) 73 (m_X7_take l D cI cC cZ cB cJ ad 80 G1 f kp tx fi gr st ty th at0 re (bnH v) (bnB v) (bnL v) (xs (i + 1)) (xs (i + 2)) false (by decide) hM1 ⟨R.n0, O.nH⟩ ⟨R.n1, O.nB⟩ H.le) gL_law_X7_take rfl kd_X7_take rfl rfl ⟨(Nat.le_of_ble_eq_true rfl), (Nat.le_of_ble_eq_true rfl)⟩ (by decide) hM1.1 rfl rfl rfl (Nat.le_of_ble_eq_true rfl) ⟨by show cells + 5 ≤ 601024; omega, by show slots + 30 ≤ 7293034; omega⟩ dL_law_356 (fun r2 G2 h2 => ?_)
  obtain ⟨ha, hb, hfr2⟩ := h2
  have hXb := Nat.lt_of_le_of_lt (xb_take v (xs (i + 1)) (xs (i + 2))) (show 3 < 2 ^ 31 by decide)
  have hXT := (x_take O R (xs (i + 1)) (xs (i + 2)))
  obtain ⟨e1, hV2, f9, kp9, tx9, fi9, gr9, st9, ty9, at9, re9, fo9, hM9, hO9, hA9⟩ := lw_two h1 hO hXT hXb hI (fun q => ⟨rfl, s_take hI q⟩) (fun q => ⟨(ha q).1, fi, gr, at0, re, (ha q).2⟩) (fun q => ⟨fi, gr, at0, re, (hb q).2⟩) hfr2
  subst e1
  exact kL_tail K (by show cells + 5 ≤ 601024; omega) (by show slots + 30 ≤ 7293034; omega) hM9 hO9 hXT hXb hA9 dL_law_359 dL_law_361 dL_law_362 dL_law_365 dL_law_367 dL_law_372 dL_law_374 dL_law_377 dL_law_378 dL_law_379 dL_law_380 dL_law_382 dL_law_383 dL_law_384 dL_law_389 (by decide) (kont 5 G2 (by decide) hV2)
set_option maxRecDepth 100000 in
set_option maxHeartbeats 4000000 in
theorem lc_take1 (K : lwC p l s m meth c b L xs D cI cC cZ cB cJ ad) {i : Nat} (hi : i + 5 ≤ L) (hc : cells + 6 ≤ 601024) (hs : slots + 36 ≤ 7293034) (hV : lwV ad cI cC cZ cB cJ G) (hz : ¬ xs (i + 3) = 0) (kont : ∀ (mc : Nat) (G' : Nat → va_E), mc ≤ 6 → lwV ad cI cC cZ cB cJ G' → kJ p l e room_1 s m #[Value.ref b] below meth c (cells + mc) (slots + 6 * mc) Q 9 D ad 80 (lwA s) G' 1399 (lwB b ad i) []) : kJ p l e room_1 s m #[Value.ref b] below meth c cells slots Q 9 D ad 80 (lwA s) G 296 (lwB b ad i) [] := by
  obtain ⟨v, w, x, hi0, z0, z1, f, kp, tx, fi, gr, st, ty, th, at0, re, fo, hF, hM, hO, hI⟩ := hV
  have O := hI.O
  have R := hI.R
  have T := hI.T
  have H := hI.H
  obtain ⟨C, hl0, E, -⟩ := id K
  refine k_aload_n C dL_law_296 rfl (j := 1) rfl ?_
  refine kL_arg K 1 rfl (by omega) 0 4 rfl rfl dL_law_297 dL_law_298 dL_law_300 dL_law_301 dL_law_302 ?_
  refine kL_arg K 2 rfl (by omega) 0 4 rfl rfl dL_law_303 dL_law_304 dL_law_306 dL_law_307 dL_law_308 ?_
  refine kL_arg K 3 rfl (by omega) 0 4 rfl rfl dL_law_309 dL_law_310 dL_law_312 dL_law_313 dL_law_314 ?_
  refine k_if_eq C 322 dL_law_315 (by decide) (fun q => absurd q hz) (fun _ => ?_)
  refine k_iconst C (v := 1) dL_law_318 (by decide) ?_
  refine k_goto C 323 dL_law_319 (by decide) ?_
  refine k_aload_n C dL_law_323 rfl (j := 3) rfl ?_
  refine kh_callS C E (hh := [(0, 12, 15, 21), (0, 12, 19, 13), (0, 12, 23, 15)]) (As := [.ref (ad 0), .int (xs (i + 1)), .int (xs (i + 2)), .int 1, .ref (ad 79)]) (rest := []) (m_L_take l D cI cC cZ cB cJ ad 80 G v w x hi0 z0 z1 (xs (i + 1)) (xs (i + 2)) true fo hl0 (by decide) hF hO) gL_law_L_take rfl kd_L_take rfl rfl ⟨(Nat.le_of_ble_eq_true rfl), (Nat.le_of_ble_eq_true rfl)⟩ rfl rfl (Nat.le_of_ble_eq_true rfl) ⟨by show cells + 5 ≤ 601024; omega, by show slots + 30 ≤ 7293034; omega⟩ dL_law_324 (fun r1 G1 h1 => ?_)
  have hfr1 := h1.2.2
  have hM1 := hM.keep (G' := G1) (fun j h8 h9 => hfr1 j h8 (by omega))
  refine k_istore C (lv' := (5, .int r1) :: lwB b ad i) dL_law_327 (by decide) rfl ?_
  refine k_aload_n C dL_law_329 rfl (j := 3) rfl ?_
  refine kL_arg K 1 rfl (by omega) 1 5 rfl rfl dL_law_330 dL_law_331 dL_law_333 dL_law_334 dL_law_335 ?_
  refine kL_arg K 2 rfl (by omega) 1 5 rfl rfl dL_law_336 dL_law_337 dL_law_339 dL_law_340 dL_law_341 ?_
  refine kL_arg K 3 rfl (by omega) 1 5 rfl rfl dL_law_342 dL_law_343 dL_law_345 dL_law_346 dL_law_347 ?_
  refine k_if_eq C 355 dL_law_348 (by decide) (fun q => absurd q hz) (fun _ => ?_)
  refine k_iconst C (v := 1) dL_law_351 (by decide) ?_
  refine k_goto C 356 dL_law_352 (by decide) ?_
  refine k_callVi C (As := [.int (xs (i + 1)), .int (xs (i + 2)), .int 1]) (rest := []) 73 (m_X7_take l D cI cC cZ cB cJ ad 80 G1 f kp tx fi gr st ty th at0 re (bnH v) (bnB v) (bnL v) (xs (i + 1)) (xs (i + 2)) true (by decide) hM1 ⟨R.n0, O.nH⟩ ⟨R.n1, O.nB⟩ H.le) gL_law_X7_take rfl kd_X7_take rfl rfl ⟨(Nat.le_of_ble_eq_true rfl), (Nat.le_of_ble_eq_true rfl)⟩ (by decide) hM1.1 rfl rfl rfl (Nat.le_of_ble_eq_true rfl) ⟨by show cells + 5 ≤ 601024; omega, by show slots + 30 ≤ 7293034; omega⟩ dL_law_356 (fun r2 G2 h2 => ?_)
  obtain ⟨ha, hb, hfr2⟩ := h2
  have hXb := Nat.lt_of_le_of_lt (xb_take v (xs (i + 1)) (xs (i + 2))) (show 3 < 2 ^ 31 by decide)
  have hXT := (x_take O R (xs (i + 1)) (xs (i + 2)))
  obtain ⟨e1, hV2, f9, kp9, tx9, fi9, gr9, st9, ty9, at9, re9, fo9, hM9, hO9, hA9⟩ := lw_two h1 hO hXT hXb hI (fun q => ⟨rfl, s_take hI q⟩) (fun q => ⟨(ha q).1, fi, gr, at0, re, (ha q).2⟩) (fun q => ⟨fi, gr, at0, re, (hb q).2⟩) hfr2
  subst e1
  exact kL_tail K (by show cells + 5 ≤ 601024; omega) (by show slots + 30 ≤ 7293034; omega) hM9 hO9 hXT hXb hA9 dL_law_359 dL_law_361 dL_law_362 dL_law_365 dL_law_367 dL_law_372 dL_law_374 dL_law_377 dL_law_378 dL_law_379 dL_law_380 dL_law_382 dL_law_383 dL_law_384 dL_law_389 (by decide) (kont 5 G2 (by decide) hV2)
set_option maxRecDepth 100000 in
set_option maxHeartbeats 4000000 in
theorem lc_layOff (K : lwC p l s m meth c b L xs D cI cC cZ cB cJ ad) {i : Nat} (hi : i + 5 ≤ L) (hc : cells + 6 ≤ 601024) (hs : slots + 36 ≤ 7293034) (hV : lwV ad cI cC cZ cB cJ G) (kont : ∀ (mc : Nat) (G' : Nat → va_E), mc ≤ 6 → lwV ad cI cC cZ cB cJ G' → kJ p l e room_1 s m #[Value.ref b] below meth c (cells + mc) (slots + 6 * mc) Q 9 D ad 80 (lwA s) G' 1399 (lwB b ad i) []) : kJ p l e room_1 s m #[Value.ref b] below meth c cells slots Q 9 D ad 80 (lwA s) G 392 (lwB b ad i) [] := by
  obtain ⟨v, w, x, hi0, z0, z1, f, kp, tx, fi, gr, st, ty, th, at0, re, fo, hF, hM, hO, hI⟩ := hV
  have O := hI.O
  have R := hI.R
  have T := hI.T
  have H := hI.H
  obtain ⟨C, hl0, E, -⟩ := id K
  refine k_aload_n C dL_law_392 rfl (j := 1) rfl ?_
  refine kL_arg K 1 rfl (by omega) 0 4 rfl rfl dL_law_393 dL_law_394 dL_law_396 dL_law_397 dL_law_398 ?_
  refine kL_arg K 2 rfl (by omega) 0 4 rfl rfl dL_law_399 dL_law_400 dL_law_402 dL_law_403 dL_law_404 ?_
  refine kL_arg K 3 rfl (by omega) 0 4 rfl rfl dL_law_405 dL_law_406 dL_law_408 dL_law_409 dL_law_410 ?_
  refine kL_arg K 4 rfl (by omega) 0 4 rfl rfl dL_law_411 dL_law_412 dL_law_414 dL_law_415 dL_law_416 ?_
  refine k_aload_n C dL_law_417 rfl (j := 3) rfl ?_
  refine kh_callS C E (hh := [(0, 14, 17, 21), (0, 14, 21, 13), (0, 14, 25, 15)]) (As := [.ref (ad 0), .int (xs (i + 1)), .int (xs (i + 2)), .int (xs (i + 3)), .int (xs (i + 4)), .ref (ad 79)]) (rest := []) (m_L_layOff l D cI cC cZ cB cJ ad 80 G v w x hi0 z0 z1 (xs (i + 1)) (xs (i + 2)) (xs (i + 3)) (xs (i + 4)) fo hl0 (by decide) hF hO) gL_law_L_layOff rfl kd_L_layOff rfl rfl ⟨(Nat.le_of_ble_eq_true rfl), (Nat.le_of_ble_eq_true rfl)⟩ rfl rfl (Nat.le_of_ble_eq_true rfl) ⟨by show cells + 6 ≤ 601024; omega, by show slots + 36 ≤ 7293034; omega⟩ dL_law_418 (fun r1 G1 h1 => ?_)
  have hfr1 := h1.2.2
  have hM1 := hM.keep (G' := G1) (fun j h8 h9 => hfr1 j h8 (by omega))
  refine k_istore C (lv' := (5, .int r1) :: lwB b ad i) dL_law_421 (by decide) rfl ?_
  refine k_aload_n C dL_law_423 rfl (j := 3) rfl ?_
  refine kL_arg K 1 rfl (by omega) 1 5 rfl rfl dL_law_424 dL_law_425 dL_law_427 dL_law_428 dL_law_429 ?_
  refine kL_arg K 2 rfl (by omega) 1 5 rfl rfl dL_law_430 dL_law_431 dL_law_433 dL_law_434 dL_law_435 ?_
  refine kL_arg K 3 rfl (by omega) 1 5 rfl rfl dL_law_436 dL_law_437 dL_law_439 dL_law_440 dL_law_441 ?_
  refine kL_arg K 4 rfl (by omega) 1 5 rfl rfl dL_law_442 dL_law_443 dL_law_445 dL_law_446 dL_law_447 ?_
  refine k_callVi C (As := [.int (xs (i + 1)), .int (xs (i + 2)), .int (xs (i + 3)), .int (xs (i + 4))]) (rest := []) 73 (m_X7_layOff l D cI cC cZ cB cJ ad 80 G1 f kp tx fi gr st ty th at0 re (bnH v) (bnB v) (bnL v) (xs (i + 1)) (xs (i + 2)) (xs (i + 3)) (xs (i + 4)) (by decide) hM1 ⟨R.n0, O.nH⟩ ⟨R.n2, O.nL⟩ H.le) gL_law_X7_layOff rfl kd_X7_layOff rfl rfl ⟨(Nat.le_of_ble_eq_true rfl), (Nat.le_of_ble_eq_true rfl)⟩ (by decide) hM1.1 rfl rfl rfl (Nat.le_of_ble_eq_true rfl) ⟨by show cells + 6 ≤ 601024; omega, by show slots + 36 ≤ 7293034; omega⟩ dL_law_448 (fun r2 G2 h2 => ?_)
  obtain ⟨ha, hb, hfr2⟩ := h2
  have hXb := Nat.lt_of_le_of_lt (xb_layOff v (xs (i + 1)) (xs (i + 2)) (xs (i + 3)) (xs (i + 4))) (show 3 < 2 ^ 31 by decide)
  have hXT := (x_lay O R (xs (i + 1)) (xs (i + 2)) (xs (i + 3)) (xs (i + 4)))
  obtain ⟨e1, hV2, f9, kp9, tx9, fi9, gr9, st9, ty9, at9, re9, fo9, hM9, hO9, hA9⟩ := lw_two h1 hO hXT hXb hI (fun q => ⟨rfl, s_lay hI q⟩) (fun q => ⟨(ha q).1, fi, gr, at0, re, (ha q).2⟩) (fun q => ⟨fi, gr, at0, re, (hb q).2⟩) hfr2
  subst e1
  exact kL_tail K (by show cells + 6 ≤ 601024; omega) (by show slots + 36 ≤ 7293034; omega) hM9 hO9 hXT hXb hA9 dL_law_451 dL_law_453 dL_law_454 dL_law_457 dL_law_459 dL_law_464 dL_law_466 dL_law_469 dL_law_470 dL_law_471 dL_law_472 dL_law_474 dL_law_475 dL_law_476 dL_law_481 (by decide) (kont 6 G2 (by decide) hV2)
set_option maxRecDepth 100000 in
set_option maxHeartbeats 4000000 in
theorem lc_withdraw (K : lwC p l s m meth c b L xs D cI cC cZ cB cJ ad) {i : Nat} (hi : i + 5 ≤ L) (hc : cells + 6 ≤ 601024) (hs : slots + 36 ≤ 7293034) (hV : lwV ad cI cC cZ cB cJ G) (kont : ∀ (mc : Nat) (G' : Nat → va_E), mc ≤ 6 → lwV ad cI cC cZ cB cJ G' → kJ p l e room_1 s m #[Value.ref b] below meth c (cells + mc) (slots + 6 * mc) Q 9 D ad 80 (lwA s) G' 1399 (lwB b ad i) []) : kJ p l e room_1 s m #[Value.ref b] below meth c cells slots Q 9 D ad 80 (lwA s) G 484 (lwB b ad i) [] := by
  obtain ⟨v, w, x, hi0, z0, z1, f, kp, tx, fi, gr, st, ty, th, at0, re, fo, hF, hM, hO, hI⟩ := hV
  have O := hI.O
  have R := hI.R
  have T := hI.T
  have H := hI.H
  obtain ⟨C, hl0, E, -⟩ := id K
  refine k_aload_n C dL_law_484 rfl (j := 1) rfl ?_
  refine kL_arg K 1 rfl (by omega) 0 4 rfl rfl dL_law_485 dL_law_486 dL_law_488 dL_law_489 dL_law_490 ?_
  refine k_aload_n C dL_law_491 rfl (j := 3) rfl ?_
  refine kh_callS C E (hh := [(0, 9, 12, 21), (0, 9, 15, 15)]) (As := [.ref (ad 0), .int (xs (i + 1)), .ref (ad 79)]) (rest := []) (m_L_withdraw l D cI cC cZ cB cJ ad 80 G v w x hi0 z0 z1 (xs (i + 1)) fo hl0 (by decide) hF hO) gL_law_L_withdraw rfl kd_L_withdraw rfl rfl ⟨(Nat.le_of_ble_eq_true rfl), (Nat.le_of_ble_eq_true rfl)⟩ rfl rfl (Nat.le_of_ble_eq_true rfl) ⟨by show cells + 3 ≤ 601024; omega, by show slots + 18 ≤ 7293034; omega⟩ dL_law_492 (fun r1 G1 h1 => ?_)
  have hfr1 := h1.2.2
  have hM1 := hM.keep (G' := G1) (fun j h8 h9 => hfr1 j h8 (by omega))
  refine k_istore C (lv' := (5, .int r1) :: lwB b ad i) dL_law_495 (by decide) rfl ?_
  refine k_aload_n C dL_law_497 rfl (j := 3) rfl ?_
  refine kL_arg K 1 rfl (by omega) 1 5 rfl rfl dL_law_498 dL_law_499 dL_law_501 dL_law_502 dL_law_503 ?_
  refine k_callVi C (As := [.int (xs (i + 1))]) (rest := []) 73 (m_X7_withdraw l D cI cC cZ cB cJ ad 80 G1 f kp tx fi gr st ty th at0 re (bnH v) (bnB v) (bnL v) (xs (i + 1)) (by decide) hM1 ⟨R.n0, O.nH⟩ ⟨R.n1, O.nB⟩ (r_P0 O R) H.le) gL_law_X7_withdraw rfl kd_X7_withdraw rfl rfl ⟨(Nat.le_of_ble_eq_true rfl), (Nat.le_of_ble_eq_true rfl)⟩ (by decide) hM1.1 rfl rfl rfl (Nat.le_of_ble_eq_true rfl) ⟨by show cells + 3 ≤ 601024; omega, by show slots + 18 ≤ 7293034; omega⟩ dL_law_504 (fun r2 G2 h2 => ?_)
  obtain ⟨ha, hb, hfr2⟩ := h2
  have hXb := Nat.lt_of_le_of_lt (xb_withdraw v (xs (i + 1))) (show 2 < 2 ^ 31 by decide)
  have hXT := (x_with O R (xs (i + 1)))
  obtain ⟨e1, hV2, f9, kp9, tx9, fi9, gr9, st9, ty9, at9, re9, fo9, hM9, hO9, hA9⟩ := lw_two h1 hO hXT hXb hI (fun q => s_with hI q) (fun q => ⟨(ha q).1, fi, gr, at0, re, (ha q).2⟩) (fun q => ⟨fi, gr, at0, re, (hb q).2⟩) hfr2
  subst e1
  exact kL_tail K (by show cells + 3 ≤ 601024; omega) (by show slots + 18 ≤ 7293034; omega) hM9 hO9 hXT hXb hA9 dL_law_507 dL_law_509 dL_law_510 dL_law_513 dL_law_515 dL_law_520 dL_law_522 dL_law_525 dL_law_526 dL_law_527 dL_law_528 dL_law_530 dL_law_531 dL_law_532 dL_law_537 (by decide) (kont 3 G2 (by decide) hV2)
set_option maxRecDepth 100000 in
set_option maxHeartbeats 4000000 in
theorem lc_settle (K : lwC p l s m meth c b L xs D cI cC cZ cB cJ ad) {i : Nat} (hi : i + 5 ≤ L) (hc : cells + 6 ≤ 601024) (hs : slots + 36 ≤ 7293034) (hV : lwV ad cI cC cZ cB cJ G) (kont : ∀ (mc : Nat) (G' : Nat → va_E), mc ≤ 6 → lwV ad cI cC cZ cB cJ G' → kJ p l e room_1 s m #[Value.ref b] below meth c (cells + mc) (slots + 6 * mc) Q 9 D ad 80 (lwA s) G' 1399 (lwB b ad i) []) : kJ p l e room_1 s m #[Value.ref b] below meth c cells slots Q 9 D ad 80 (lwA s) G 540 (lwB b ad i) [] := by
  obtain ⟨v, w, x, hi0, z0, z1, f, kp, tx, fi, gr, st, ty, th, at0, re, fo, hF, hM, hO, hI⟩ := hV
  have O := hI.O
  have R := hI.R
  have T := hI.T
  have H := hI.H
  obtain ⟨C, hl0, E, -⟩ := id K
  refine k_aload_n C dL_law_540 rfl (j := 1) rfl ?_
  refine k_aload_n C dL_law_541 rfl (j := 3) rfl ?_
  refine kh_callS C E (hh := [(0, 8, 11, 13), (0, 8, 14, 15)]) (As := [.ref (ad 0), .ref (ad 79)]) (rest := []) (m_L_settle l D cI cC cZ cB cJ ad 80 G v w x hi0 z0 z1  fo hl0 (by decide) hF hO) gL_law_L_settle rfl kd_L_settle rfl rfl ⟨(Nat.le_of_ble_eq_true rfl), (Nat.le_of_ble_eq_true rfl)⟩ rfl rfl (Nat.le_of_ble_eq_true rfl) ⟨by show cells + 2 ≤ 601024; omega, by show slots + 12 ≤ 7293034; omega⟩ dL_law_542 (fun r1 G1 h1 => ?_)
  have hfr1 := h1.2.2
  have hM1 := hM.keep (G' := G1) (fun j h8 h9 => hfr1 j h8 (by omega))
  refine k_istore C (lv' := (5, .int r1) :: lwB b ad i) dL_law_545 (by decide) rfl ?_
  refine k_aload_n C dL_law_547 rfl (j := 3) rfl ?_
  refine k_callVi C (As := []) (rest := []) 73 (m_X7_settle l D cI cC cZ cB cJ ad 80 G1 f kp tx fi gr st ty th at0 re (bnH v) (bnB v) (bnL v)  (by decide) hM1 ⟨R.n0, O.nH⟩ ⟨R.n1, O.nB⟩ ⟨R.n2, O.nL⟩ (fun k hk => r_okB O R hk) (fun k hk => r_okO O R hk) T.le T.ok H.le) gL_law_X7_settle rfl kd_X7_settle rfl rfl ⟨(Nat.le_of_ble_eq_true rfl), (Nat.le_of_ble_eq_true rfl)⟩ (by decide) hM1.1 rfl rfl rfl (Nat.le_of_ble_eq_true rfl) ⟨by show cells + 2 ≤ 601024; omega, by show slots + 12 ≤ 7293034; omega⟩ dL_law_548 (fun r2 G2 h2 => ?_)
  obtain ⟨ha, hb, hfr2⟩ := h2
  have hXb := Nat.lt_of_le_of_lt (xb_settle v x) (show 2 < 2 ^ 31 by decide)
  have hXT := (x_settle O R T)
  obtain ⟨e1, hV2, f9, kp9, tx9, fi9, gr9, st9, ty9, at9, re9, fo9, hM9, hO9, hA9⟩ := lw_two h1 hO hXT hXb hI (fun q => s_settle hI q) ha (fun q => (hb q).2) hfr2
  subst e1
  exact kL_tail K (by show cells + 2 ≤ 601024; omega) (by show slots + 12 ≤ 7293034; omega) hM9 hO9 hXT hXb hA9 dL_law_551 dL_law_553 dL_law_554 dL_law_557 dL_law_559 dL_law_564 dL_law_566 dL_law_569 dL_law_570 dL_law_571 dL_law_572 dL_law_574 dL_law_575 dL_law_576 dL_law_581 (by decide) (kont 2 G2 (by decide) hV2)
set_option maxRecDepth 100000 in
set_option maxHeartbeats 4000000 in
theorem lc_set (K : lwC p l s m meth c b L xs D cI cC cZ cB cJ ad) {i : Nat} (hi : i + 5 ≤ L) (hc : cells + 6 ≤ 601024) (hs : slots + 36 ≤ 7293034) (hV : lwV ad cI cC cZ cB cJ G) (kont : ∀ (mc : Nat) (G' : Nat → va_E), mc ≤ 6 → lwV ad cI cC cZ cB cJ G' → kJ p l e room_1 s m #[Value.ref b] below meth c (cells + mc) (slots + 6 * mc) Q 9 D ad 80 (lwA s) G' 1399 (lwB b ad i) []) : kJ p l e room_1 s m #[Value.ref b] below meth c cells slots Q 9 D ad 80 (lwA s) G 584 (lwB b ad i) [] := by
  obtain ⟨v, w, x, hi0, z0, z1, f, kp, tx, fi, gr, st, ty, th, at0, re, fo, hF, hM, hO, hI⟩ := hV
  have O := hI.O
  have R := hI.R
  have T := hI.T
  have H := hI.H
  obtain ⟨C, hl0, E, -⟩ := id K
  refine k_aload_n C dL_law_584 rfl (j := 1) rfl ?_
  refine kL_arg K 1 rfl (by omega) 0 4 rfl rfl dL_law_585 dL_law_586 dL_law_588 dL_law_589 dL_law_590 ?_
  refine kL_arg K 2 rfl (by omega) 0 4 rfl rfl dL_law_591 dL_law_592 dL_law_594 dL_law_595 dL_law_596 ?_
  refine k_aload_n C dL_law_597 rfl (j := 3) rfl ?_
  refine kh_callS C E (hh := [(0, 10, 13, 21), (0, 10, 17, 13), (0, 10, 21, 15)]) (As := [.ref (ad 0), .int (xs (i + 1)), .int (xs (i + 2)), .ref (ad 79)]) (rest := []) (m_L_set l D cI cC cZ cB cJ ad 80 G v w x hi0 z0 z1 (xs (i + 1)) (xs (i + 2)) fo hl0 (by decide) hF hO) gL_law_L_set rfl kd_L_set rfl rfl ⟨(Nat.le_of_ble_eq_true rfl), (Nat.le_of_ble_eq_true rfl)⟩ rfl rfl (Nat.le_of_ble_eq_true rfl) ⟨by show cells + 3 ≤ 601024; omega, by show slots + 18 ≤ 7293034; omega⟩ dL_law_598 (fun r1 G1 h1 => ?_)
  have hfr1 := h1.2.2
  have hM1 := hM.keep (G' := G1) (fun j h8 h9 => hfr1 j h8 (by omega))
  refine k_istore C (lv' := (5, .int r1) :: lwB b ad i) dL_law_601 (by decide) rfl ?_
  refine k_aload_n C dL_law_603 rfl (j := 3) rfl ?_
  refine kL_arg K 1 rfl (by omega) 1 5 rfl rfl dL_law_604 dL_law_605 dL_law_607 dL_law_608 dL_law_609 ?_
  refine kL_arg K 2 rfl (by omega) 1 5 rfl rfl dL_law_610 dL_law_611 dL_law_613 dL_law_614 dL_law_615 ?_
  refine k_callVi C (As := [.int (xs (i + 1)), .int (xs (i + 2))]) (rest := []) 73 (m_X7_set l D cI cC cZ cB cJ ad 80 G1 f kp tx fi gr st ty th at0 re (bnH v) (bnB v) (bnL v) (xs (i + 1)) (xs (i + 2)) (by decide) hM1 H.le) gL_law_X7_set rfl kd_X7_set rfl rfl ⟨(Nat.le_of_ble_eq_true rfl), (Nat.le_of_ble_eq_true rfl)⟩ (by decide) hM1.1 rfl rfl rfl (Nat.le_of_ble_eq_true rfl) ⟨by show cells + 3 ≤ 601024; omega, by show slots + 18 ≤ 7293034; omega⟩ dL_law_616 (fun r2 G2 h2 => ?_)
  obtain ⟨ha, hb, hfr2⟩ := h2
  have hXb := Nat.lt_of_le_of_lt (xb_set v (xs (i + 1)) (xs (i + 2))) (show 3 < 2 ^ 31 by decide)
  have hXT := (x_set R (xs (i + 1)) (xs (i + 2)))
  obtain ⟨e1, hV2, f9, kp9, tx9, fi9, gr9, st9, ty9, at9, re9, fo9, hM9, hO9, hA9⟩ := lw_two h1 hO hXT hXb hI (fun q => s_set hI q) (fun q => ⟨(ha q).1, fi, gr, at0, re, (ha q).2⟩) (fun q => ⟨fi, gr, at0, re, (hb q).2⟩) hfr2
  subst e1
  exact kL_tail K (by show cells + 3 ≤ 601024; omega) (by show slots + 18 ≤ 7293034; omega) hM9 hO9 hXT hXb hA9 dL_law_619 dL_law_621 dL_law_622 dL_law_625 dL_law_627 dL_law_632 dL_law_634 dL_law_637 dL_law_638 dL_law_639 dL_law_640 dL_law_642 dL_law_643 dL_law_644 dL_law_649 (by decide) (kont 3 G2 (by decide) hV2)
set_option maxRecDepth 100000 in
set_option maxHeartbeats 4000000 in
theorem lc_append (K : lwC p l s m meth c b L xs D cI cC cZ cB cJ ad) {i : Nat} (hi : i + 5 ≤ L) (hc : cells + 6 ≤ 601024) (hs : slots + 36 ≤ 7293034) (hV : lwV ad cI cC cZ cB cJ G) (kont : ∀ (mc : Nat) (G' : Nat → va_E), mc ≤ 6 → lwV ad cI cC cZ cB cJ G' → kJ p l e room_1 s m #[Value.ref b] below meth c (cells + mc) (slots + 6 * mc) Q 9 D ad 80 (lwA s) G' 1399 (lwB b ad i) []) : kJ p l e room_1 s m #[Value.ref b] below meth c cells slots Q 9 D ad 80 (lwA s) G 652 (lwB b ad i) [] := by
  obtain ⟨v, w, x, hi0, z0, z1, f, kp, tx, fi, gr, st, ty, th, at0, re, fo, hF, hM, hO, hI⟩ := hV
  have O := hI.O
  have R := hI.R
  have T := hI.T
  have H := hI.H
  obtain ⟨C, hl0, E, -⟩ := id K
  refine k_aload_n C dL_law_652 rfl (j := 1) rfl ?_
  refine kL_arg K 1 rfl (by omega) 0 4 rfl rfl dL_law_653 dL_law_654 dL_law_656 dL_law_657 dL_law_658 ?_
  refine k_aload_n C dL_law_659 rfl (j := 3) rfl ?_
  refine kh_callS C E (hh := [(0, 9, 12, 13), (0, 9, 15, 15)]) (As := [.ref (ad 0), .int (xs (i + 1)), .ref (ad 79)]) (rest := []) (m_L_append l D cI cC cZ cB cJ ad 80 G v w x hi0 z0 z1 (xs (i + 1)) fo hl0 (by decide) hF hO) gL_law_L_append rfl kd_L_append rfl rfl ⟨(Nat.le_of_ble_eq_true rfl), (Nat.le_of_ble_eq_true rfl)⟩ rfl rfl (Nat.le_of_ble_eq_true rfl) ⟨by show cells + 1 ≤ 601024; omega, by show slots + 6 ≤ 7293034; omega⟩ dL_law_660 (fun r1 G1 h1 => ?_)
  have hfr1 := h1.2.2
  have hM1 := hM.keep (G' := G1) (fun j h8 h9 => hfr1 j h8 (by omega))
  refine k_istore C (lv' := (5, .int r1) :: lwB b ad i) dL_law_663 (by decide) rfl ?_
  refine k_aload_n C dL_law_665 rfl (j := 3) rfl ?_
  refine kL_arg K 1 rfl (by omega) 1 5 rfl rfl dL_law_666 dL_law_667 dL_law_669 dL_law_670 dL_law_671 ?_
  refine k_callVi C (As := [.int (xs (i + 1))]) (rest := []) 73 (m_X7_append l D cI cC cZ cB cJ ad 80 G1 f kp tx fi gr st ty th at0 re (bnH v) (bnB v) (bnL v) (xs (i + 1)) (by decide) hM1 T.le) gL_law_X7_append rfl kd_X7_append rfl rfl ⟨(Nat.le_of_ble_eq_true rfl), (Nat.le_of_ble_eq_true rfl)⟩ (by decide) hM1.1 rfl rfl rfl (Nat.le_of_ble_eq_true rfl) ⟨by show cells + 1 ≤ 601024; omega, by show slots + 6 ≤ 7293034; omega⟩ dL_law_672 (fun r2 G2 h2 => ?_)
  obtain ⟨ha, hb, hfr2⟩ := h2
  have hXb := Nat.lt_of_le_of_lt (xb_append x (xs (i + 1))) (show 2 < 2 ^ 31 by decide)
  have hXT := (x_append T (xs (i + 1)))
  obtain ⟨e1, hV2, f9, kp9, tx9, fi9, gr9, st9, ty9, at9, re9, fo9, hM9, hO9, hA9⟩ := lw_two h1 hO hXT hXb hI (fun q => s_append hI q) (fun q => ⟨(ha q).1, fi, gr, at0, re, (ha q).2⟩) (fun q => ⟨fi, gr, at0, re, (hb q).2⟩) hfr2
  subst e1
  exact kL_tail K (by show cells + 1 ≤ 601024; omega) (by show slots + 6 ≤ 7293034; omega) hM9 hO9 hXT hXb hA9 dL_law_675 dL_law_677 dL_law_678 dL_law_681 dL_law_683 dL_law_688 dL_law_690 dL_law_693 dL_law_694 dL_law_695 dL_law_696 dL_law_698 dL_law_699 dL_law_700 dL_law_705 (by decide) (kont 1 G2 (by decide) hV2)
set_option maxRecDepth 100000 in
set_option maxHeartbeats 4000000 in
theorem lc_keep (K : lwC p l s m meth c b L xs D cI cC cZ cB cJ ad) {i : Nat} (hi : i + 5 ≤ L) (hc : cells + 6 ≤ 601024) (hs : slots + 36 ≤ 7293034) (hV : lwV ad cI cC cZ cB cJ G) (kont : ∀ (mc : Nat) (G' : Nat → va_E), mc ≤ 6 → lwV ad cI cC cZ cB cJ G' → kJ p l e room_1 s m #[Value.ref b] below meth c (cells + mc) (slots + 6 * mc) Q 9 D ad 80 (lwA s) G' 1399 (lwB b ad i) []) : kJ p l e room_1 s m #[Value.ref b] below meth c cells slots Q 9 D ad 80 (lwA s) G 734 (lwB b ad i) [] := by
  obtain ⟨v, w, x, hi0, z0, z1, f, kp, tx, fi, gr, st, ty, th, at0, re, fo, hF, hM, hO, hI⟩ := hV
  have O := hI.O
  have R := hI.R
  have T := hI.T
  have H := hI.H
  obtain ⟨C, hl0, E, -⟩ := id K
  refine k_aload_n C dL_law_734 rfl (j := 1) rfl ?_
  refine kL_arg K 1 rfl (by omega) 0 4 rfl rfl dL_law_735 dL_law_736 dL_law_738 dL_law_739 dL_law_740 ?_
  refine k_aload_n C dL_law_741 rfl (j := 3) rfl ?_
  refine kh_callS C E (hh := [(0, 9, 12, 13)]) (As := [.ref (ad 0), .int (xs (i + 1)), .ref (ad 79)]) (rest := []) (m_L_keep l D cI cC cZ cB cJ ad 80 G v w x hi0 z0 z1 (xs (i + 1)) fo hl0 (by decide) hF hO) gL_law_L_keep rfl kd_L_keep rfl rfl ⟨(Nat.le_of_ble_eq_true rfl), (Nat.le_of_ble_eq_true rfl)⟩ rfl rfl (Nat.le_of_ble_eq_true rfl) ⟨by show cells + 1 ≤ 601024; omega, by show slots + 6 ≤ 7293034; omega⟩ dL_law_742 (fun r1 G1 h1 => ?_)
  have hfr1 := h1.2.2
  have hM1 := hM.keep (G' := G1) (fun j h8 h9 => hfr1 j h8 (by omega))
  refine k_istore C (lv' := (5, .int r1) :: lwB b ad i) dL_law_745 (by decide) rfl ?_
  refine k_aload_n C dL_law_747 rfl (j := 3) rfl ?_
  refine kL_arg K 1 rfl (by omega) 1 5 rfl rfl dL_law_748 dL_law_749 dL_law_751 dL_law_752 dL_law_753 ?_
  refine k_callVi C (As := [.int (xs (i + 1))]) (rest := []) 73 (m_X7_keep l D cI cC cZ cB cJ ad 80 G1 f kp tx fi gr st ty th at0 re (bnH v) (bnB v) (bnL v) (xs (i + 1)) (by decide) hM1 ⟨R.n1, O.nB⟩) gL_law_X7_keep rfl kd_X7_keep rfl rfl ⟨(Nat.le_of_ble_eq_true rfl), (Nat.le_of_ble_eq_true rfl)⟩ (by decide) hM1.1 rfl rfl rfl (Nat.le_of_ble_eq_true rfl) ⟨by show cells + 1 ≤ 601024; omega, by show slots + 6 ≤ 7293034; omega⟩ dL_law_754 (fun r2 G2 h2 => ?_)
  obtain ⟨ha, hb, hfr2⟩ := h2
  have hXb := Nat.lt_of_le_of_lt (xb_keep (xs (i + 1))) (show 1 < 2 ^ 31 by decide)
  have hXT := (x_keep (xs (i + 1)))
  obtain ⟨e1, hV2, f9, kp9, tx9, fi9, gr9, st9, ty9, at9, re9, fo9, hM9, hO9, hA9⟩ := lw_two h1 hO hXT hXb hI (fun q => ⟨rfl, s_keep hI q⟩) (fun q => ⟨(ha q).1, fi, gr, at0, re, (ha q).2⟩) (fun q => ⟨fi, gr, at0, re, (hb q).2⟩) hfr2
  subst e1
  exact kL_tail K (by show cells + 1 ≤ 601024; omega) (by show slots + 6 ≤ 7293034; omega) hM9 hO9 hXT hXb hA9 dL_law_757 dL_law_759 dL_law_760 dL_law_763 dL_law_765 dL_law_770 dL_law_772 dL_law_775 dL_law_776 dL_law_777 dL_law_778 dL_law_780 dL_law_781 dL_law_782 dL_law_787 (by decide) (kont 1 G2 (by decide) hV2)
set_option maxRecDepth 100000 in
set_option maxHeartbeats 4000000 in
theorem lc_goBack (K : lwC p l s m meth c b L xs D cI cC cZ cB cJ ad) {i : Nat} (hi : i + 5 ≤ L) (hc : cells + 6 ≤ 601024) (hs : slots + 36 ≤ 7293034) (hV : lwV ad cI cC cZ cB cJ G) (kont : ∀ (mc : Nat) (G' : Nat → va_E), mc ≤ 6 → lwV ad cI cC cZ cB cJ G' → kJ p l e room_1 s m #[Value.ref b] below meth c (cells + mc) (slots + 6 * mc) Q 9 D ad 80 (lwA s) G' 1399 (lwB b ad i) []) : kJ p l e room_1 s m #[Value.ref b] below meth c cells slots Q 9 D ad 80 (lwA s) G 790 (lwB b ad i) [] := by
  obtain ⟨v, w, x, hi0, z0, z1, f, kp, tx, fi, gr, st, ty, th, at0, re, fo, hF, hM, hO, hI⟩ := hV
  have O := hI.O
  have R := hI.R
  have T := hI.T
  have H := hI.H
  obtain ⟨C, hl0, E, -⟩ := id K
  refine k_aload_n C dL_law_790 rfl (j := 1) rfl ?_
  refine kL_arg K 1 rfl (by omega) 0 4 rfl rfl dL_law_791 dL_law_792 dL_law_794 dL_law_795 dL_law_796 ?_
  refine k_aload_n C dL_law_797 rfl (j := 3) rfl ?_
  refine kh_callS C E (hh := [(0, 9, 12, 13), (0, 9, 15, 15)]) (As := [.ref (ad 0), .int (xs (i + 1)), .ref (ad 79)]) (rest := []) (m_L_goBack l D cI cC cZ cB cJ ad 80 G v w x hi0 z0 z1 (xs (i + 1)) fo hl0 (by decide) hF hO) gL_law_L_goBack rfl kd_L_goBack rfl rfl ⟨(Nat.le_of_ble_eq_true rfl), (Nat.le_of_ble_eq_true rfl)⟩ rfl rfl (Nat.le_of_ble_eq_true rfl) ⟨by show cells + 2 ≤ 601024; omega, by show slots + 12 ≤ 7293034; omega⟩ dL_law_798 (fun r1 G1 h1 => ?_)
  have hfr1 := h1.2.2
  have hM1 := hM.keep (G' := G1) (fun j h8 h9 => hfr1 j h8 (by omega))
  refine k_istore C (lv' := (5, .int r1) :: lwB b ad i) dL_law_801 (by decide) rfl ?_
  refine k_aload_n C dL_law_803 rfl (j := 3) rfl ?_
  refine kL_arg K 1 rfl (by omega) 1 5 rfl rfl dL_law_804 dL_law_805 dL_law_807 dL_law_808 dL_law_809 ?_
  refine k_callVi C (As := [.int (xs (i + 1))]) (rest := []) 73 (m_X7_goBack l D cI cC cZ cB cJ ad 80 G1 f kp tx fi gr st ty th at0 re (bnH v) (bnB v) (bnL v) (xs (i + 1)) (by decide) hM1 H.le) gL_law_X7_goBack rfl kd_X7_goBack rfl rfl ⟨(Nat.le_of_ble_eq_true rfl), (Nat.le_of_ble_eq_true rfl)⟩ (by decide) hM1.1 rfl rfl rfl (Nat.le_of_ble_eq_true rfl) ⟨by show cells + 2 ≤ 601024; omega, by show slots + 12 ≤ 7293034; omega⟩ dL_law_810 (fun r2 G2 h2 => ?_)
  obtain ⟨ha, hb, hfr2⟩ := h2
  have hXb := Nat.lt_of_le_of_lt (xb_goBack (xs (i + 1)) z0 z1) (show 2 < 2 ^ 31 by decide)
  have hXT := (x_back (xs (i + 1)) hI.z0.k hI.z1.k)
  obtain ⟨e1, hV2, f9, kp9, tx9, fi9, gr9, st9, ty9, at9, re9, fo9, hM9, hO9, hA9⟩ := lw_two h1 hO hXT hXb hI (fun q => s_back hI q) (fun q => ⟨(ha q).1, fi, gr, at0, re, (ha q).2⟩) (fun q => ⟨fi, gr, at0, re, (hb q).2⟩) hfr2
  subst e1
  exact kL_tail K (by show cells + 2 ≤ 601024; omega) (by show slots + 12 ≤ 7293034; omega) hM9 hO9 hXT hXb hA9 dL_law_813 dL_law_815 dL_law_816 dL_law_819 dL_law_821 dL_law_826 dL_law_828 dL_law_831 dL_law_832 dL_law_833 dL_law_834 dL_law_836 dL_law_837 dL_law_838 dL_law_843 (by decide) (kont 2 G2 (by decide) hV2)
set_option maxRecDepth 100000 in
set_option maxHeartbeats 4000000 in
theorem lc_undo (K : lwC p l s m meth c b L xs D cI cC cZ cB cJ ad) {i : Nat} (hi : i + 5 ≤ L) (hc : cells + 6 ≤ 601024) (hs : slots + 36 ≤ 7293034) (hV : lwV ad cI cC cZ cB cJ G) (kont : ∀ (mc : Nat) (G' : Nat → va_E), mc ≤ 6 → lwV ad cI cC cZ cB cJ G' → kJ p l e room_1 s m #[Value.ref b] below meth c (cells + mc) (slots + 6 * mc) Q 9 D ad 80 (lwA s) G' 1399 (lwB b ad i) []) : kJ p l e room_1 s m #[Value.ref b] below meth c cells slots Q 9 D ad 80 (lwA s) G 846 (lwB b ad i) [] := by
  obtain ⟨v, w, x, hi0, z0, z1, f, kp, tx, fi, gr, st, ty, th, at0, re, fo, hF, hM, hO, hI⟩ := hV
  have O := hI.O
  have R := hI.R
  have T := hI.T
  have H := hI.H
  obtain ⟨C, hl0, E, -⟩ := id K
  refine k_aload_n C dL_law_846 rfl (j := 1) rfl ?_
  refine k_aload_n C dL_law_847 rfl (j := 3) rfl ?_
  refine kh_callS C E (hh := [(0, 8, 11, 15)]) (As := [.ref (ad 0), .ref (ad 79)]) (rest := []) (m_L_undo l D cI cC cZ cB cJ ad 80 G v w x hi0 z0 z1  fo hl0 (by decide) hF hO) gL_law_L_undo rfl kd_L_undo rfl rfl ⟨(Nat.le_of_ble_eq_true rfl), (Nat.le_of_ble_eq_true rfl)⟩ rfl rfl (Nat.le_of_ble_eq_true rfl) ⟨by show cells + 1 ≤ 601024; omega, by show slots + 6 ≤ 7293034; omega⟩ dL_law_848 (fun r1 G1 h1 => ?_)
  have hfr1 := h1.2.2
  have hM1 := hM.keep (G' := G1) (fun j h8 h9 => hfr1 j h8 (by omega))
  refine k_istore C (lv' := (5, .int r1) :: lwB b ad i) dL_law_851 (by decide) rfl ?_
  refine k_aload_n C dL_law_853 rfl (j := 3) rfl ?_
  refine k_callVi C (As := []) (rest := []) 73 (m_X7_undo l D cI cC cZ cB cJ ad 80 G1 f kp tx fi gr st ty th at0 re (bnH v) (bnB v) (bnL v)  (by decide) hM1 H.le) gL_law_X7_undo rfl kd_X7_undo rfl rfl ⟨(Nat.le_of_ble_eq_true rfl), (Nat.le_of_ble_eq_true rfl)⟩ (by decide) hM1.1 rfl rfl rfl (Nat.le_of_ble_eq_true rfl) ⟨by show cells + 1 ≤ 601024; omega, by show slots + 6 ≤ 7293034; omega⟩ dL_law_854 (fun r2 G2 h2 => ?_)
  obtain ⟨ha, hb, hfr2⟩ := h2
  have hXb := Nat.lt_of_le_of_lt (xb_undo hi0) (show 1 < 2 ^ 31 by decide)
  have hXT := (x_undo H.z)
  obtain ⟨e1, hV2, f9, kp9, tx9, fi9, gr9, st9, ty9, at9, re9, fo9, hM9, hO9, hA9⟩ := lw_two h1 hO hXT hXb hI (fun q => s_undo hI q) (fun q => ⟨(ha q).1, fi, gr, at0, re, (ha q).2⟩) (fun q => ⟨fi, gr, at0, re, (hb q).2⟩) hfr2
  subst e1
  exact kL_tail K (by show cells + 1 ≤ 601024; omega) (by show slots + 6 ≤ 7293034; omega) hM9 hO9 hXT hXb hA9 dL_law_857 dL_law_859 dL_law_860 dL_law_863 dL_law_865 dL_law_870 dL_law_872 dL_law_875 dL_law_876 dL_law_877 dL_law_878 dL_law_880 dL_law_881 dL_law_882 dL_law_887 (by decide) (kont 1 G2 (by decide) hV2)
set_option maxRecDepth 100000 in
set_option maxHeartbeats 4000000 in
theorem lc_horseOf (K : lwC p l s m meth c b L xs D cI cC cZ cB cJ ad) {i : Nat} (hi : i + 5 ≤ L) (hc : cells + 6 ≤ 601024) (hs : slots + 36 ≤ 7293034) (hV : lwV ad cI cC cZ cB cJ G) (kont : ∀ (mc : Nat) (G' : Nat → va_E), mc ≤ 6 → lwV ad cI cC cZ cB cJ G' → kJ p l e room_1 s m #[Value.ref b] below meth c (cells + mc) (slots + 6 * mc) Q 9 D ad 80 (lwA s) G' 1399 (lwB b ad i) []) : kJ p l e room_1 s m #[Value.ref b] below meth c cells slots Q 9 D ad 80 (lwA s) G 890 (lwB b ad i) [] := by
  obtain ⟨v, w, x, hi0, z0, z1, f, kp, tx, fi, gr, st, ty, th, at0, re, fo, hF, hM, hO, hI⟩ := hV
  have O := hI.O
  have R := hI.R
  have T := hI.T
  have H := hI.H
  obtain ⟨C, hl0, E, -⟩ := id K
  refine k_aload_n C dL_law_890 rfl (j := 1) rfl ?_
  refine kL_arg K 1 rfl (by omega) 0 4 rfl rfl dL_law_891 dL_law_892 dL_law_894 dL_law_895 dL_law_896 ?_
  refine kL_arg K 2 rfl (by omega) 0 4 rfl rfl dL_law_897 dL_law_898 dL_law_900 dL_law_901 dL_law_902 ?_
  refine k_aload_n C dL_law_903 rfl (j := 3) rfl ?_
  refine kh_callS C E (hh := [(0, 10, 13, 21), (0, 10, 17, 13)]) (As := [.ref (ad 0), .int (xs (i + 1)), .int (xs (i + 2)), .ref (ad 79)]) (rest := []) (m_L_horseOf l D cI cC cZ cB cJ ad 80 G v w x hi0 z0 z1 (xs (i + 1)) (xs (i + 2)) fo hl0 (by decide) hF hO) gL_law_L_horseOf rfl kd_L_horseOf rfl rfl ⟨(Nat.le_of_ble_eq_true rfl), (Nat.le_of_ble_eq_true rfl)⟩ rfl rfl (Nat.le_of_ble_eq_true rfl) ⟨by show cells + 2 ≤ 601024; omega, by show slots + 12 ≤ 7293034; omega⟩ dL_law_904 (fun r1 G1 h1 => ?_)
  have hfr1 := h1.2.2
  have hM1 := hM.keep (G' := G1) (fun j h8 h9 => hfr1 j h8 (by omega))
  refine k_istore C (lv' := (5, .int r1) :: lwB b ad i) dL_law_907 (by decide) rfl ?_
  refine k_aload_n C dL_law_909 rfl (j := 3) rfl ?_
  refine kL_arg K 1 rfl (by omega) 1 5 rfl rfl dL_law_910 dL_law_911 dL_law_913 dL_law_914 dL_law_915 ?_
  refine kL_arg K 2 rfl (by omega) 1 5 rfl rfl dL_law_916 dL_law_917 dL_law_919 dL_law_920 dL_law_921 ?_
  refine k_callVi C (As := [.int (xs (i + 1)), .int (xs (i + 2))]) (rest := []) 73 (m_X7_horseOf l D cI cC cZ cB cJ ad 80 G1 f kp tx fi gr st ty th at0 re (bnH v) (bnB v) (bnL v) (xs (i + 1)) (xs (i + 2)) (by decide) hM1 ⟨R.n0, O.nH⟩ ⟨R.n1, O.nB⟩) gL_law_X7_horseOf rfl kd_X7_horseOf rfl rfl ⟨(Nat.le_of_ble_eq_true rfl), (Nat.le_of_ble_eq_true rfl)⟩ (by decide) hM1.1 rfl rfl rfl (Nat.le_of_ble_eq_true rfl) ⟨by show cells + 2 ≤ 601024; omega, by show slots + 12 ≤ 7293034; omega⟩ dL_law_922 (fun r2 G2 h2 => ?_)
  obtain ⟨ha, hb, hfr2⟩ := h2
  have hXb := Nat.lt_of_le_of_lt (xb_horseOf v (xs (i + 1)) (xs (i + 2))) (show 2 < 2 ^ 31 by decide)
  have hXT := (x_horseOf O R (xs (i + 1)) (xs (i + 2)))
  obtain ⟨e1, hV2, f9, kp9, tx9, fi9, gr9, st9, ty9, at9, re9, fo9, hM9, hO9, hA9⟩ := lw_two h1 hO hXT hXb hI (fun q => ⟨y_horseOf O R q, hI⟩) (fun q => ⟨(ha q).1, fi, gr, at0, re, (ha q).2⟩) (fun q => ⟨fi, gr, at0, re, (hb q).2⟩) hfr2
  subst e1
  exact kL_tail K (by show cells + 2 ≤ 601024; omega) (by show slots + 12 ≤ 7293034; omega) hM9 hO9 hXT hXb hA9 dL_law_925 dL_law_927 dL_law_928 dL_law_931 dL_law_933 dL_law_938 dL_law_940 dL_law_943 dL_law_944 dL_law_945 dL_law_946 dL_law_948 dL_law_949 dL_law_950 dL_law_955 (by decide) (kont 2 G2 (by decide) hV2)
set_option maxRecDepth 100000 in
set_option maxHeartbeats 4000000 in
theorem lc_bet (K : lwC p l s m meth c b L xs D cI cC cZ cB cJ ad) {i : Nat} (hi : i + 5 ≤ L) (hc : cells + 6 ≤ 601024) (hs : slots + 36 ≤ 7293034) (hV : lwV ad cI cC cZ cB cJ G) (kont : ∀ (mc : Nat) (G' : Nat → va_E), mc ≤ 6 → lwV ad cI cC cZ cB cJ G' → kJ p l e room_1 s m #[Value.ref b] below meth c (cells + mc) (slots + 6 * mc) Q 9 D ad 80 (lwA s) G' 1399 (lwB b ad i) []) : kJ p l e room_1 s m #[Value.ref b] below meth c cells slots Q 9 D ad 80 (lwA s) G 958 (lwB b ad i) [] := by
  obtain ⟨v, w, x, hi0, z0, z1, f, kp, tx, fi, gr, st, ty, th, at0, re, fo, hF, hM, hO, hI⟩ := hV
  have O := hI.O
  have R := hI.R
  have T := hI.T
  have H := hI.H
  obtain ⟨C, hl0, E, -⟩ := id K
  refine k_aload_n C dL_law_958 rfl (j := 1) rfl ?_
  refine kL_arg K 1 rfl (by omega) 0 4 rfl rfl dL_law_959 dL_law_960 dL_law_962 dL_law_963 dL_law_964 ?_
  refine kL_arg K 2 rfl (by omega) 0 4 rfl rfl dL_law_965 dL_law_966 dL_law_968 dL_law_969 dL_law_970 ?_
  refine k_aload_n C dL_law_971 rfl (j := 3) rfl ?_
  refine kh_callS C E (hh := [(0, 10, 13, 21), (0, 10, 17, 13)]) (As := [.ref (ad 0), .int (xs (i + 1)), .int (xs (i + 2)), .ref (ad 79)]) (rest := []) (m_L_bet l D cI cC cZ cB cJ ad 80 G v w x hi0 z0 z1 (xs (i + 1)) (xs (i + 2)) fo hl0 (by decide) hF hO) gL_law_L_bet rfl kd_L_bet rfl rfl ⟨(Nat.le_of_ble_eq_true rfl), (Nat.le_of_ble_eq_true rfl)⟩ rfl rfl (Nat.le_of_ble_eq_true rfl) ⟨by show cells + 2 ≤ 601024; omega, by show slots + 12 ≤ 7293034; omega⟩ dL_law_972 (fun r1 G1 h1 => ?_)
  have hfr1 := h1.2.2
  have hM1 := hM.keep (G' := G1) (fun j h8 h9 => hfr1 j h8 (by omega))
  refine k_istore C (lv' := (5, .int r1) :: lwB b ad i) dL_law_975 (by decide) rfl ?_
  refine k_aload_n C dL_law_977 rfl (j := 3) rfl ?_
  refine kL_arg K 1 rfl (by omega) 1 5 rfl rfl dL_law_978 dL_law_979 dL_law_981 dL_law_982 dL_law_983 ?_
  refine kL_arg K 2 rfl (by omega) 1 5 rfl rfl dL_law_984 dL_law_985 dL_law_987 dL_law_988 dL_law_989 ?_
  refine k_callVi C (As := [.int (xs (i + 1)), .int (xs (i + 2))]) (rest := []) 73 (m_X7_bet l D cI cC cZ cB cJ ad 80 G1 f kp tx fi gr st ty th at0 re (bnH v) (bnB v) (bnL v) (xs (i + 1)) (xs (i + 2)) (by decide) hM1 ⟨R.n1, O.nB⟩) gL_law_X7_bet rfl kd_X7_bet rfl rfl ⟨(Nat.le_of_ble_eq_true rfl), (Nat.le_of_ble_eq_true rfl)⟩ (by decide) hM1.1 rfl rfl rfl (Nat.le_of_ble_eq_true rfl) ⟨by show cells + 2 ≤ 601024; omega, by show slots + 12 ≤ 7293034; omega⟩ dL_law_990 (fun r2 G2 h2 => ?_)
  obtain ⟨ha, hb, hfr2⟩ := h2
  have hXb := Nat.lt_of_le_of_lt (xb_bet v (xs (i + 1)) (xs (i + 2))) (show 2 < 2 ^ 31 by decide)
  have hXT := (x_bet O R (xs (i + 1)) (xs (i + 2)))
  obtain ⟨e1, hV2, f9, kp9, tx9, fi9, gr9, st9, ty9, at9, re9, fo9, hM9, hO9, hA9⟩ := lw_two h1 hO hXT hXb hI (fun q => ⟨y_bet O R q, hI⟩) (fun q => ⟨(ha q).1, fi, gr, at0, re, (ha q).2⟩) (fun q => ⟨fi, gr, at0, re, (hb q).2⟩) hfr2
  subst e1
  exact kL_tail K (by show cells + 2 ≤ 601024; omega) (by show slots + 12 ≤ 7293034; omega) hM9 hO9 hXT hXb hA9 dL_law_993 dL_law_995 dL_law_996 dL_law_999 dL_law_1001 dL_law_1006 dL_law_1008 dL_law_1011 dL_law_1012 dL_law_1013 dL_law_1014 dL_law_1016 dL_law_1017 dL_law_1018 dL_law_1023 (by decide) (kont 2 G2 (by decide) hV2)
set_option maxRecDepth 100000 in
set_option maxHeartbeats 4000000 in
theorem lc_laid (K : lwC p l s m meth c b L xs D cI cC cZ cB cJ ad) {i : Nat} (hi : i + 5 ≤ L) (hc : cells + 6 ≤ 601024) (hs : slots + 36 ≤ 7293034) (hV : lwV ad cI cC cZ cB cJ G) (kont : ∀ (mc : Nat) (G' : Nat → va_E), mc ≤ 6 → lwV ad cI cC cZ cB cJ G' → kJ p l e room_1 s m #[Value.ref b] below meth c (cells + mc) (slots + 6 * mc) Q 9 D ad 80 (lwA s) G' 1399 (lwB b ad i) []) : kJ p l e room_1 s m #[Value.ref b] below meth c cells slots Q 9 D ad 80 (lwA s) G 1026 (lwB b ad i) [] := by
  obtain ⟨v, w, x, hi0, z0, z1, f, kp, tx, fi, gr, st, ty, th, at0, re, fo, hF, hM, hO, hI⟩ := hV
  have O := hI.O
  have R := hI.R
  have T := hI.T
  have H := hI.H
  obtain ⟨C, hl0, E, -⟩ := id K
  refine k_aload_n C dL_law_1026 rfl (j := 1) rfl ?_
  refine kL_arg K 1 rfl (by omega) 0 4 rfl rfl dL_law_1027 dL_law_1028 dL_law_1030 dL_law_1031 dL_law_1032 ?_
  refine kL_arg K 2 rfl (by omega) 0 4 rfl rfl dL_law_1033 dL_law_1034 dL_law_1036 dL_law_1037 dL_law_1038 ?_
  refine k_aload_n C dL_law_1039 rfl (j := 3) rfl ?_
  refine kh_callS C E (hh := [(0, 10, 13, 21), (0, 10, 17, 13)]) (As := [.ref (ad 0), .int (xs (i + 1)), .int (xs (i + 2)), .ref (ad 79)]) (rest := []) (m_L_laid l D cI cC cZ cB cJ ad 80 G v w x hi0 z0 z1 (xs (i + 1)) (xs (i + 2)) fo hl0 (by decide) hF hO) gL_law_L_laid rfl kd_L_laid rfl rfl ⟨(Nat.le_of_ble_eq_true rfl), (Nat.le_of_ble_eq_true rfl)⟩ rfl rfl (Nat.le_of_ble_eq_true rfl) ⟨by show cells + 2 ≤ 601024; omega, by show slots + 12 ≤ 7293034; omega⟩ dL_law_1040 (fun r1 G1 h1 => ?_)
  have hfr1 := h1.2.2
  have hM1 := hM.keep (G' := G1) (fun j h8 h9 => hfr1 j h8 (by omega))
  refine k_istore C (lv' := (5, .int r1) :: lwB b ad i) dL_law_1043 (by decide) rfl ?_
  refine k_aload_n C dL_law_1045 rfl (j := 3) rfl ?_
  refine kL_arg K 1 rfl (by omega) 1 5 rfl rfl dL_law_1046 dL_law_1047 dL_law_1049 dL_law_1050 dL_law_1051 ?_
  refine kL_arg K 2 rfl (by omega) 1 5 rfl rfl dL_law_1052 dL_law_1053 dL_law_1055 dL_law_1056 dL_law_1057 ?_
  refine k_callVi C (As := [.int (xs (i + 1)), .int (xs (i + 2))]) (rest := []) 73 (m_X7_laid l D cI cC cZ cB cJ ad 80 G1 f kp tx fi gr st ty th at0 re (bnH v) (bnB v) (bnL v) (xs (i + 1)) (xs (i + 2)) (by decide) hM1 ⟨R.n2, O.nL⟩) gL_law_X7_laid rfl kd_X7_laid rfl rfl ⟨(Nat.le_of_ble_eq_true rfl), (Nat.le_of_ble_eq_true rfl)⟩ (by decide) hM1.1 rfl rfl rfl (Nat.le_of_ble_eq_true rfl) ⟨by show cells + 2 ≤ 601024; omega, by show slots + 12 ≤ 7293034; omega⟩ dL_law_1058 (fun r2 G2 h2 => ?_)
  obtain ⟨ha, hb, hfr2⟩ := h2
  have hXb := Nat.lt_of_le_of_lt (xb_laid v (xs (i + 1)) (xs (i + 2))) (show 2 < 2 ^ 31 by decide)
  have hXT := (x_laid O R (xs (i + 1)) (xs (i + 2)))
  obtain ⟨e1, hV2, f9, kp9, tx9, fi9, gr9, st9, ty9, at9, re9, fo9, hM9, hO9, hA9⟩ := lw_two h1 hO hXT hXb hI (fun q => ⟨y_laid O R q, hI⟩) (fun q => ⟨(ha q).1, fi, gr, at0, re, (ha q).2⟩) (fun q => ⟨fi, gr, at0, re, (hb q).2⟩) hfr2
  subst e1
  exact kL_tail K (by show cells + 2 ≤ 601024; omega) (by show slots + 12 ≤ 7293034; omega) hM9 hO9 hXT hXb hA9 dL_law_1061 dL_law_1063 dL_law_1064 dL_law_1067 dL_law_1069 dL_law_1074 dL_law_1076 dL_law_1079 dL_law_1080 dL_law_1081 dL_law_1082 dL_law_1084 dL_law_1085 dL_law_1086 dL_law_1091 (by decide) (kont 2 G2 (by decide) hV2)
set_option maxRecDepth 100000 in
set_option maxHeartbeats 4000000 in
theorem lc_count (K : lwC p l s m meth c b L xs D cI cC cZ cB cJ ad) {i : Nat} (hi : i + 5 ≤ L) (hc : cells + 6 ≤ 601024) (hs : slots + 36 ≤ 7293034) (hV : lwV ad cI cC cZ cB cJ G) (kont : ∀ (mc : Nat) (G' : Nat → va_E), mc ≤ 6 → lwV ad cI cC cZ cB cJ G' → kJ p l e room_1 s m #[Value.ref b] below meth c (cells + mc) (slots + 6 * mc) Q 9 D ad 80 (lwA s) G' 1399 (lwB b ad i) []) : kJ p l e room_1 s m #[Value.ref b] below meth c cells slots Q 9 D ad 80 (lwA s) G 1094 (lwB b ad i) [] := by
  obtain ⟨v, w, x, hi0, z0, z1, f, kp, tx, fi, gr, st, ty, th, at0, re, fo, hF, hM, hO, hI⟩ := hV
  have O := hI.O
  have R := hI.R
  have T := hI.T
  have H := hI.H
  obtain ⟨C, hl0, E, -⟩ := id K
  refine k_aload_n C dL_law_1094 rfl (j := 1) rfl ?_
  refine kL_arg K 1 rfl (by omega) 0 4 rfl rfl dL_law_1095 dL_law_1096 dL_law_1098 dL_law_1099 dL_law_1100 ?_
  refine k_aload_n C dL_law_1101 rfl (j := 3) rfl ?_
  refine kh_callS C E (hh := [(0, 9, 12, 13)]) (As := [.ref (ad 0), .int (xs (i + 1)), .ref (ad 79)]) (rest := []) (m_L_count l D cI cC cZ cB cJ ad 80 G v w x hi0 z0 z1 (xs (i + 1)) fo hl0 (by decide) hF hO) gL_law_L_count rfl kd_L_count rfl rfl ⟨(Nat.le_of_ble_eq_true rfl), (Nat.le_of_ble_eq_true rfl)⟩ rfl rfl (Nat.le_of_ble_eq_true rfl) ⟨by show cells + 1 ≤ 601024; omega, by show slots + 6 ≤ 7293034; omega⟩ dL_law_1102 (fun r1 G1 h1 => ?_)
  have hfr1 := h1.2.2
  have hM1 := hM.keep (G' := G1) (fun j h8 h9 => hfr1 j h8 (by omega))
  refine k_istore C (lv' := (5, .int r1) :: lwB b ad i) dL_law_1105 (by decide) rfl ?_
  refine k_aload_n C dL_law_1107 rfl (j := 3) rfl ?_
  refine kL_arg K 1 rfl (by omega) 1 5 rfl rfl dL_law_1108 dL_law_1109 dL_law_1111 dL_law_1112 dL_law_1113 ?_
  refine k_callVi C (As := [.int (xs (i + 1))]) (rest := []) 73 (m_X7_count l D cI cC cZ cB cJ ad 80 G1 f kp tx fi gr st ty th at0 re (bnH v) (bnB v) (bnL v) (xs (i + 1)) (by decide) hM1 ⟨R.n0, O.nH⟩ ⟨R.n1, O.nB⟩ ⟨R.n2, O.nL⟩ (r_P0 O R)) gL_law_X7_count rfl kd_X7_count rfl rfl ⟨(Nat.le_of_ble_eq_true rfl), (Nat.le_of_ble_eq_true rfl)⟩ (by decide) hM1.1 rfl rfl rfl (Nat.le_of_ble_eq_true rfl) ⟨by show cells + 1 ≤ 601024; omega, by show slots + 6 ≤ 7293034; omega⟩ dL_law_1114 (fun r2 G2 h2 => ?_)
  obtain ⟨ha, hb, hfr2⟩ := h2
  have hXb := Nat.lt_of_le_of_lt (xb_count (xs (i + 1))) (show 1 < 2 ^ 31 by decide)
  have hXT := (x_count (xs (i + 1)))
  obtain ⟨e1, hV2, f9, kp9, tx9, fi9, gr9, st9, ty9, at9, re9, fo9, hM9, hO9, hA9⟩ := lw_two h1 hO hXT hXb hI (fun q => ⟨y_count O R H.z q, hI⟩) (fun q => ⟨(ha q).1, fi, gr, at0, re, (ha q).2⟩) (fun q => ⟨fi, gr, at0, re, (hb q).2⟩) hfr2
  subst e1
  exact kL_tail K (by show cells + 1 ≤ 601024; omega) (by show slots + 6 ≤ 7293034; omega) hM9 hO9 hXT hXb hA9 dL_law_1117 dL_law_1119 dL_law_1120 dL_law_1123 dL_law_1125 dL_law_1130 dL_law_1132 dL_law_1135 dL_law_1136 dL_law_1137 dL_law_1138 dL_law_1140 dL_law_1141 dL_law_1142 dL_law_1147 (by decide) (kont 1 G2 (by decide) hV2)
set_option maxRecDepth 100000 in
set_option maxHeartbeats 4000000 in
theorem lc_setting (K : lwC p l s m meth c b L xs D cI cC cZ cB cJ ad) {i : Nat} (hi : i + 5 ≤ L) (hc : cells + 6 ≤ 601024) (hs : slots + 36 ≤ 7293034) (hV : lwV ad cI cC cZ cB cJ G) (kont : ∀ (mc : Nat) (G' : Nat → va_E), mc ≤ 6 → lwV ad cI cC cZ cB cJ G' → kJ p l e room_1 s m #[Value.ref b] below meth c (cells + mc) (slots + 6 * mc) Q 9 D ad 80 (lwA s) G' 1399 (lwB b ad i) []) : kJ p l e room_1 s m #[Value.ref b] below meth c cells slots Q 9 D ad 80 (lwA s) G 1150 (lwB b ad i) [] := by
  obtain ⟨v, w, x, hi0, z0, z1, f, kp, tx, fi, gr, st, ty, th, at0, re, fo, hF, hM, hO, hI⟩ := hV
  have O := hI.O
  have R := hI.R
  have T := hI.T
  have H := hI.H
  obtain ⟨C, hl0, E, -⟩ := id K
  refine k_aload_n C dL_law_1150 rfl (j := 1) rfl ?_
  refine kL_arg K 1 rfl (by omega) 0 4 rfl rfl dL_law_1151 dL_law_1152 dL_law_1154 dL_law_1155 dL_law_1156 ?_
  refine k_aload_n C dL_law_1157 rfl (j := 3) rfl ?_
  refine kh_callS C E (hh := [(0, 9, 12, 21)]) (As := [.ref (ad 0), .int (xs (i + 1)), .ref (ad 79)]) (rest := []) (m_L_setting l D cI cC cZ cB cJ ad 80 G v w x hi0 z0 z1 (xs (i + 1)) fo hl0 (by decide) hF hO) gL_law_L_setting rfl kd_L_setting rfl rfl ⟨(Nat.le_of_ble_eq_true rfl), (Nat.le_of_ble_eq_true rfl)⟩ rfl rfl (Nat.le_of_ble_eq_true rfl) ⟨by show cells + 1 ≤ 601024; omega, by show slots + 6 ≤ 7293034; omega⟩ dL_law_1158 (fun r1 G1 h1 => ?_)
  have hfr1 := h1.2.2
  have hM1 := hM.keep (G' := G1) (fun j h8 h9 => hfr1 j h8 (by omega))
  refine k_istore C (lv' := (5, .int r1) :: lwB b ad i) dL_law_1161 (by decide) rfl ?_
  refine k_aload_n C dL_law_1163 rfl (j := 3) rfl ?_
  refine kL_arg K 1 rfl (by omega) 1 5 rfl rfl dL_law_1164 dL_law_1165 dL_law_1167 dL_law_1168 dL_law_1169 ?_
  refine k_callVi C (As := [.int (xs (i + 1))]) (rest := []) 73 (m_X7_setting l D cI cC cZ cB cJ ad 80 G1 f kp tx fi gr st ty th at0 re (bnH v) (bnB v) (bnL v) (xs (i + 1)) (by decide) hM1 ) gL_law_X7_setting rfl kd_X7_setting rfl rfl ⟨(Nat.le_of_ble_eq_true rfl), (Nat.le_of_ble_eq_true rfl)⟩ (by decide) hM1.1 rfl rfl rfl (Nat.le_of_ble_eq_true rfl) ⟨by show cells + 1 ≤ 601024; omega, by show slots + 6 ≤ 7293034; omega⟩ dL_law_1170 (fun r2 G2 h2 => ?_)
  obtain ⟨ha, hb, hfr2⟩ := h2
  have hXb := Nat.lt_of_le_of_lt (xb_setting (xs (i + 1))) (show 1 < 2 ^ 31 by decide)
  have hXT := (x_setting (xs (i + 1)))
  obtain ⟨e1, hV2, f9, kp9, tx9, fi9, gr9, st9, ty9, at9, re9, fo9, hM9, hO9, hA9⟩ := lw_two h1 hO hXT hXb hI (fun q => ⟨y_setting R q, hI⟩) (fun q => ⟨(ha q).1, fi, gr, at0, re, (ha q).2⟩) (fun q => ⟨fi, gr, at0, re, (hb q).2⟩) hfr2
  subst e1
  exact kL_tail K (by show cells + 1 ≤ 601024; omega) (by show slots + 6 ≤ 7293034; omega) hM9 hO9 hXT hXb hA9 dL_law_1173 dL_law_1175 dL_law_1176 dL_law_1179 dL_law_1181 dL_law_1186 dL_law_1188 dL_law_1191 dL_law_1192 dL_law_1193 dL_law_1194 dL_law_1196 dL_law_1197 dL_law_1198 dL_law_1203 (by decide) (kont 1 G2 (by decide) hV2)
set_option maxRecDepth 100000 in
set_option maxHeartbeats 4000000 in
theorem lc_ifWon (K : lwC p l s m meth c b L xs D cI cC cZ cB cJ ad) {i : Nat} (hi : i + 5 ≤ L) (hc : cells + 6 ≤ 601024) (hs : slots + 36 ≤ 7293034) (hV : lwV ad cI cC cZ cB cJ G) (kont : ∀ (mc : Nat) (G' : Nat → va_E), mc ≤ 6 → lwV ad cI cC cZ cB cJ G' → kJ p l e room_1 s m #[Value.ref b] below meth c (cells + mc) (slots + 6 * mc) Q 9 D ad 80 (lwA s) G' 1399 (lwB b ad i) []) : kJ p l e room_1 s m #[Value.ref b] below meth c cells slots Q 9 D ad 80 (lwA s) G 1219 (lwB b ad i) [] := by
  obtain ⟨v, w, x, hi0, z0, z1, f, kp, tx, fi, gr, st, ty, th, at0, re, fo, hF, hM, hO, hI⟩ := hV
  have O := hI.O
  have R := hI.R
  have T := hI.T
  have H := hI.H
  obtain ⟨C, hl0, E, -⟩ := id K
  refine k_aload_n C dL_law_1219 rfl (j := 1) rfl ?_
  refine kL_arg K 1 rfl (by omega) 0 4 rfl rfl dL_law_1220 dL_law_1221 dL_law_1223 dL_law_1224 dL_law_1225 ?_
  refine k_aload_n C dL_law_1226 rfl (j := 3) rfl ?_
  refine kh_callS C E (hh := [(0, 9, 12, 21)]) (As := [.ref (ad 0), .int (xs (i + 1)), .ref (ad 79)]) (rest := []) (m_L_ifWon l D cI cC cZ cB cJ ad 80 G v w x hi0 z0 z1 (xs (i + 1)) fo hl0 (by decide) hF hO) gL_law_L_ifWon rfl kd_L_ifWon rfl rfl ⟨(Nat.le_of_ble_eq_true rfl), (Nat.le_of_ble_eq_true rfl)⟩ rfl rfl (Nat.le_of_ble_eq_true rfl) ⟨by show cells + 1 ≤ 601024; omega, by show slots + 6 ≤ 7293034; omega⟩ dL_law_1227 (fun r1 G1 h1 => ?_)
  have hfr1 := h1.2.2
  have hM1 := hM.keep (G' := G1) (fun j h8 h9 => hfr1 j h8 (by omega))
  refine k_istore C (lv' := (5, .int r1) :: lwB b ad i) dL_law_1230 (by decide) rfl ?_
  refine k_aload_n C dL_law_1232 rfl (j := 3) rfl ?_
  refine kL_arg K 1 rfl (by omega) 1 5 rfl rfl dL_law_1233 dL_law_1234 dL_law_1236 dL_law_1237 dL_law_1238 ?_
  refine k_callVi C (As := [.int (xs (i + 1))]) (rest := []) 73 (m_X7_ifWon l D cI cC cZ cB cJ ad 80 G1 f kp tx fi gr st ty th at0 re (bnH v) (bnB v) (bnL v) (xs (i + 1)) (by decide) hM1 ⟨R.n0, O.nH⟩ ⟨R.n1, O.nB⟩ ⟨R.n2, O.nL⟩ (fun k hk => r_okB O R hk) (fun k hk => r_okO O R hk)) gL_law_X7_ifWon rfl kd_X7_ifWon rfl rfl ⟨(Nat.le_of_ble_eq_true rfl), (Nat.le_of_ble_eq_true rfl)⟩ (by decide) hM1.1 rfl rfl rfl (Nat.le_of_ble_eq_true rfl) ⟨by show cells + 1 ≤ 601024; omega, by show slots + 6 ≤ 7293034; omega⟩ dL_law_1239 (fun r2 G2 h2 => ?_)
  obtain ⟨ha, hb, hfr2⟩ := h2
  have hXb := Nat.lt_of_le_of_lt (xb_ifWon v (xs (i + 1))) (show 1 < 2 ^ 31 by decide)
  have hXT := (x_one O R (xs (i + 1)))
  obtain ⟨e1, hV2, f9, kp9, tx9, fi9, gr9, st9, ty9, at9, re9, fo9, hM9, hO9, hA9⟩ := lw_two h1 hO hXT hXb hI (fun q => ⟨y_won O R q, hI⟩) (fun q => ⟨(ha q).1, by obtain ⟨a1, a2, a3, a4⟩ := (ha q).2; exact ⟨a1, a2, at0, a3, a4⟩⟩) (fun q => by obtain ⟨a1, a2, a3, a4⟩ := (hb q).2; exact ⟨a1, a2, at0, a3, a4⟩) hfr2
  subst e1
  exact kL_tail K (by show cells + 1 ≤ 601024; omega) (by show slots + 6 ≤ 7293034; omega) hM9 hO9 hXT hXb hA9 dL_law_1242 dL_law_1244 dL_law_1245 dL_law_1248 dL_law_1250 dL_law_1255 dL_law_1257 dL_law_1260 dL_law_1261 dL_law_1262 dL_law_1263 dL_law_1265 dL_law_1266 dL_law_1267 dL_law_1272 (by decide) (kont 1 G2 (by decide) hV2)
set_option maxRecDepth 100000 in
set_option maxHeartbeats 4000000 in
theorem lc_cover (K : lwC p l s m meth c b L xs D cI cC cZ cB cJ ad) {i : Nat} (hi : i + 5 ≤ L) (hc : cells + 6 ≤ 601024) (hs : slots + 36 ≤ 7293034) (hV : lwV ad cI cC cZ cB cJ G) (kont : ∀ (mc : Nat) (G' : Nat → va_E), mc ≤ 6 → lwV ad cI cC cZ cB cJ G' → kJ p l e room_1 s m #[Value.ref b] below meth c (cells + mc) (slots + 6 * mc) Q 9 D ad 80 (lwA s) G' 1399 (lwB b ad i) []) : kJ p l e room_1 s m #[Value.ref b] below meth c cells slots Q 9 D ad 80 (lwA s) G 1288 (lwB b ad i) [] := by
  obtain ⟨v, w, x, hi0, z0, z1, f, kp, tx, fi, gr, st, ty, th, at0, re, fo, hF, hM, hO, hI⟩ := hV
  have O := hI.O
  have R := hI.R
  have T := hI.T
  have H := hI.H
  obtain ⟨C, hl0, E, -⟩ := id K
  refine k_aload_n C dL_law_1288 rfl (j := 1) rfl ?_
  refine kL_arg K 1 rfl (by omega) 0 4 rfl rfl dL_law_1289 dL_law_1290 dL_law_1292 dL_law_1293 dL_law_1294 ?_
  refine k_aload_n C dL_law_1295 rfl (j := 3) rfl ?_
  refine kh_callS C E (hh := [(0, 9, 12, 21)]) (As := [.ref (ad 0), .int (xs (i + 1)), .ref (ad 79)]) (rest := []) (m_L_cover l D cI cC cZ cB cJ ad 80 G v w x hi0 z0 z1 (xs (i + 1)) fo hl0 (by decide) hF hO) gL_law_L_cover rfl kd_L_cover rfl rfl ⟨(Nat.le_of_ble_eq_true rfl), (Nat.le_of_ble_eq_true rfl)⟩ rfl rfl (Nat.le_of_ble_eq_true rfl) ⟨by show cells + 1 ≤ 601024; omega, by show slots + 6 ≤ 7293034; omega⟩ dL_law_1296 (fun r1 G1 h1 => ?_)
  have hfr1 := h1.2.2
  have hM1 := hM.keep (G' := G1) (fun j h8 h9 => hfr1 j h8 (by omega))
  refine k_istore C (lv' := (5, .int r1) :: lwB b ad i) dL_law_1299 (by decide) rfl ?_
  refine k_aload_n C dL_law_1301 rfl (j := 3) rfl ?_
  refine kL_arg K 1 rfl (by omega) 1 5 rfl rfl dL_law_1302 dL_law_1303 dL_law_1305 dL_law_1306 dL_law_1307 ?_
  refine k_callVi C (As := [.int (xs (i + 1))]) (rest := []) 73 (m_X7_cover l D cI cC cZ cB cJ ad 80 G1 f kp tx fi gr st ty th at0 re (bnH v) (bnB v) (bnL v) (xs (i + 1)) (by decide) hM1 ⟨R.n0, O.nH⟩ ⟨R.n1, O.nB⟩ ⟨R.n2, O.nL⟩ (fun k hk => r_okB O R hk) (fun k hk => r_okO O R hk) (r_P0 O R)) gL_law_X7_cover rfl kd_X7_cover rfl rfl ⟨(Nat.le_of_ble_eq_true rfl), (Nat.le_of_ble_eq_true rfl)⟩ (by decide) hM1.1 rfl rfl rfl (Nat.le_of_ble_eq_true rfl) ⟨by show cells + 1 ≤ 601024; omega, by show slots + 6 ≤ 7293034; omega⟩ dL_law_1308 (fun r2 G2 h2 => ?_)
  obtain ⟨ha, hb, hfr2⟩ := h2
  have hXb := Nat.lt_of_le_of_lt (xb_cover v (xs (i + 1))) (show 1 < 2 ^ 31 by decide)
  have hXT := (x_one O R (xs (i + 1)))
  obtain ⟨e1, hV2, f9, kp9, tx9, fi9, gr9, st9, ty9, at9, re9, fo9, hM9, hO9, hA9⟩ := lw_two h1 hO hXT hXb hI (fun q => ⟨y_cover O R q, hI⟩) (fun q => ⟨(ha q).1, by obtain ⟨a1, a2, a3, a4⟩ := (ha q).2; exact ⟨a1, a2, at0, a3, a4⟩⟩) (fun q => by obtain ⟨a1, a2, a3, a4⟩ := (hb q).2; exact ⟨a1, a2, at0, a3, a4⟩) hfr2
  subst e1
  exact kL_tail K (by show cells + 1 ≤ 601024; omega) (by show slots + 6 ≤ 7293034; omega) hM9 hO9 hXT hXb hA9 dL_law_1311 dL_law_1313 dL_law_1314 dL_law_1317 dL_law_1319 dL_law_1324 dL_law_1326 dL_law_1329 dL_law_1330 dL_law_1331 dL_law_1332 dL_law_1334 dL_law_1335 dL_law_1336 dL_law_1341 (by decide) (kont 1 G2 (by decide) hV2)
end LCS
