/-! The law's cases 0 -/
theorem dL_law_228 : decode cL_law 228 = .ok (.aload_n 1, 1) := by decide +kernel
theorem dL_law_229 : decode cL_law 229 = .ok (.aload_n 0, 1) := by decide +kernel
theorem dL_law_230 : decode cL_law 230 = .ok (.iload 4, 2) := by decide +kernel
theorem dL_law_232 : decode cL_law 232 = .ok (.iconst 1, 1) := by decide +kernel
theorem dL_law_233 : decode cL_law 233 = .ok (.iadd, 1) := by decide +kernel
theorem dL_law_234 : decode cL_law 234 = .ok (.iaload, 1) := by decide +kernel
theorem dL_law_235 : decode cL_law 235 = .ok (.aload_n 0, 1) := by decide +kernel
theorem dL_law_236 : decode cL_law 236 = .ok (.iload 4, 2) := by decide +kernel
theorem dL_law_238 : decode cL_law 238 = .ok (.iconst 2, 1) := by decide +kernel
theorem dL_law_239 : decode cL_law 239 = .ok (.iadd, 1) := by decide +kernel
theorem dL_law_240 : decode cL_law 240 = .ok (.iaload, 1) := by decide +kernel
theorem dL_law_241 : decode cL_law 241 = .ok (.aload_n 0, 1) := by decide +kernel
theorem dL_law_242 : decode cL_law 242 = .ok (.iload 4, 2) := by decide +kernel
theorem dL_law_244 : decode cL_law 244 = .ok (.iconst 3, 1) := by decide +kernel
theorem dL_law_245 : decode cL_law 245 = .ok (.iadd, 1) := by decide +kernel
theorem dL_law_246 : decode cL_law 246 = .ok (.iaload, 1) := by decide +kernel
theorem dL_law_247 : decode cL_law 247 = .ok (.aload_n 0, 1) := by decide +kernel
theorem dL_law_248 : decode cL_law 248 = .ok (.iload 4, 2) := by decide +kernel
theorem dL_law_250 : decode cL_law 250 = .ok (.iconst 4, 1) := by decide +kernel
theorem dL_law_251 : decode cL_law 251 = .ok (.iadd, 1) := by decide +kernel
theorem dL_law_252 : decode cL_law 252 = .ok (.iaload, 1) := by decide +kernel
theorem dL_law_253 : decode cL_law 253 = .ok (.aload_n 0, 1) := by decide +kernel
theorem dL_law_254 : decode cL_law 254 = .ok (.iload 4, 2) := by decide +kernel
theorem dL_law_256 : decode cL_law 256 = .ok (.iconst 5, 1) := by decide +kernel
theorem dL_law_257 : decode cL_law 257 = .ok (.iadd, 1) := by decide +kernel
theorem dL_law_258 : decode cL_law 258 = .ok (.iaload, 1) := by decide +kernel
theorem dL_law_259 : decode cL_law 259 = .ok (.invokevirtual 106, 3) := by decide +kernel
theorem dL_law_262 : decode cL_law 262 = .ok (.aload_n 2, 1) := by decide +kernel
theorem dL_law_263 : decode cL_law 263 = .ok (.aload_n 0, 1) := by decide +kernel
theorem dL_law_264 : decode cL_law 264 = .ok (.iload 4, 2) := by decide +kernel
theorem dL_law_266 : decode cL_law 266 = .ok (.iconst 1, 1) := by decide +kernel
theorem dL_law_267 : decode cL_law 267 = .ok (.iadd, 1) := by decide +kernel
theorem dL_law_268 : decode cL_law 268 = .ok (.iaload, 1) := by decide +kernel
theorem dL_law_269 : decode cL_law 269 = .ok (.aload_n 0, 1) := by decide +kernel
theorem dL_law_270 : decode cL_law 270 = .ok (.iload 4, 2) := by decide +kernel
theorem dL_law_272 : decode cL_law 272 = .ok (.iconst 2, 1) := by decide +kernel
theorem dL_law_273 : decode cL_law 273 = .ok (.iadd, 1) := by decide +kernel
theorem dL_law_274 : decode cL_law 274 = .ok (.iaload, 1) := by decide +kernel
theorem dL_law_275 : decode cL_law 275 = .ok (.aload_n 0, 1) := by decide +kernel
theorem dL_law_276 : decode cL_law 276 = .ok (.iload 4, 2) := by decide +kernel
theorem dL_law_278 : decode cL_law 278 = .ok (.iconst 3, 1) := by decide +kernel
theorem dL_law_279 : decode cL_law 279 = .ok (.iadd, 1) := by decide +kernel
theorem dL_law_280 : decode cL_law 280 = .ok (.iaload, 1) := by decide +kernel
theorem dL_law_281 : decode cL_law 281 = .ok (.aload_n 0, 1) := by decide +kernel
theorem dL_law_282 : decode cL_law 282 = .ok (.iload 4, 2) := by decide +kernel
theorem dL_law_284 : decode cL_law 284 = .ok (.iconst 4, 1) := by decide +kernel
theorem dL_law_285 : decode cL_law 285 = .ok (.iadd, 1) := by decide +kernel
theorem dL_law_286 : decode cL_law 286 = .ok (.iaload, 1) := by decide +kernel
theorem dL_law_287 : decode cL_law 287 = .ok (.aload_n 0, 1) := by decide +kernel
theorem dL_law_288 : decode cL_law 288 = .ok (.iload 4, 2) := by decide +kernel
theorem dL_law_290 : decode cL_law 290 = .ok (.iconst 5, 1) := by decide +kernel
theorem dL_law_291 : decode cL_law 291 = .ok (.iadd, 1) := by decide +kernel
theorem dL_law_292 : decode cL_law 292 = .ok (.iaload, 1) := by decide +kernel
theorem dL_law_293 : decode cL_law 293 = .ok (.invokevirtual 110, 3) := by decide +kernel
theorem dL_law_296 : decode cL_law 296 = .ok (.if_icmp .eq 1999, 3) := by decide +kernel
theorem dL_law_299 : decode cL_law 299 = .ok (.iconst 0, 1) := by decide +kernel
theorem dL_law_300 : decode cL_law 300 = .ok (.ireturn, 1) := by decide +kernel
set_option maxRecDepth 100000 in
set_option maxHeartbeats 4000000 in
theorem law_0 {p : Program} {l : Launch} {e : Env} {R : Room} {s : State} {m : MethodId} {args : Array Value} {below : List Frame} {meth : Method} {c : Code} {cells slots : Nat} {Q : State → Prop} {D : va_G} {Ca : Nat → ClassId} {B : Nat} {En : State → Prop} {N b L X i : Nat} {xs : Nat → Int32} {z : Int} (C : zC p s m args meth c cL_law RL 9 D Ca B En) (hT : ∀ U, En U → zThr B U) (hT2 : ∀ U, En U → va_Nc (zEx 4) (zEx 1) U ∧ va_Nc (zEx 2) (zEx 1) U) (hl0 : l.stackTraces = false) (ev : zEv) (hZ : ∀ U : State, En U → zEnv ev B U) (hLS : zLS s B b L xs) (hi : i + 6 ≤ L) (hRm : zRm R 2048 84000 (cells + 1) (slots + 6)) (σ : zS) (hJ : J X z σ) (h0 : 0 ≤ z) (hz : z < 700000000)
    (kk : ∀ (σ2 : zS) (N2 : Nat), N ≤ N2 → J X (z + 501) σ2 → zW p l e R s m args below meth c (cells + 1) (slots + 6) Q D Ca B 9 σ2 N2 2295 (lawLv b X i) []) : zW p l e R s m args below meth c cells slots Q D Ca B 9 σ N 228 (lawLv b X i) [] := by
  have hRm0 : zRm R 2048 84000 cells slots := ⟨hRm.1, hRm.2.1, Nat.le_of_succ_le hRm.2.2.1, Nat.le_trans (Nat.le_add_right slots 6) hRm.2.2.2⟩
  have kX := (J_k hJ).1
  have kY := (J_k hJ).2.1
  obtain ⟨σ1, σ2, a, e1, e2, k1, k2, hJ2⟩ := j_feed hJ h0 hz (xs (i + 1)) (xs (i + 2)) (xs (i + 3)) (xs (i + 4)) (xs (i + 5))
  have kY1 : (σ1.1 (X + 307)).1 = 14 := by rw [k1]; exact kY
  refine z_aload_n C dL_law_228 rfl 1 rfl ?_
  refine z_aload_n C dL_law_229 rfl 0 rfl ?_
  refine z_iload C dL_law_230 4 rfl ?_
  refine z_iconst C (zi 1) dL_law_232 (by decide) ?_
  refine z_iadd C dL_law_233 ?_
  refine z_sld C hLS (i + 1) (z_ix i 1) (by omega) dL_law_234 ?_
  refine z_aload_n C dL_law_235 rfl 0 rfl ?_
  refine z_iload C dL_law_236 4 rfl ?_
  refine z_iconst C (zi 2) dL_law_238 (by decide) ?_
  refine z_iadd C dL_law_239 ?_
  refine z_sld C hLS (i + 2) (z_ix i 2) (by omega) dL_law_240 ?_
  refine z_aload_n C dL_law_241 rfl 0 rfl ?_
  refine z_iload C dL_law_242 4 rfl ?_
  refine z_iconst C (zi 3) dL_law_244 (by decide) ?_
  refine z_iadd C dL_law_245 ?_
  refine z_sld C hLS (i + 3) (z_ix i 3) (by omega) dL_law_246 ?_
  refine z_aload_n C dL_law_247 rfl 0 rfl ?_
  refine z_iload C dL_law_248 4 rfl ?_
  refine z_iconst C (zi 4) dL_law_250 (by decide) ?_
  refine z_iadd C dL_law_251 ?_
  refine z_sld C hLS (i + 4) (z_ix i 4) (by omega) dL_law_252 ?_
  refine z_aload_n C dL_law_253 rfl 0 rfl ?_
  refine z_iload C dL_law_254 4 rfl ?_
  refine z_iconst C (zi 5) dL_law_256 (by decide) ?_
  refine z_iadd C dL_law_257 ?_
  refine z_sld C hLS (i + 5) (z_ix i 5) (by omega) dL_law_258 ?_
  refine z_callVi (As := [.int (xs (i + 1)), .int (xs (i + 2)), .int (xs (i + 3)), .int (xs (i + 4)), .int (xs (i + 5))]) (F0 := 2048) (L0 := 84000) C (mX9_feed l D Ca B En C.2.2.2.2.2.2.2.1 σ N X (xs (i + 1)) (xs (i + 2)) (xs (i + 3)) (xs (i + 4)) (xs (i + 5)) (σ1, a) e1) hRm0 kX rfl kw_483 kw_1 kw_480 kw_481 kw_482 hyX9_feed (Nat.le_of_ble_eq_true rfl) (Nat.le_of_ble_eq_true rfl) rfl rfl (Nat.le_of_ble_eq_true rfl) dL_law_259 ?_
  refine z_aload_n C dL_law_262 rfl 2 rfl ?_
  refine z_aload_n C dL_law_263 rfl 0 rfl ?_
  refine z_iload C dL_law_264 4 rfl ?_
  refine z_iconst C (zi 1) dL_law_266 (by decide) ?_
  refine z_iadd C dL_law_267 ?_
  refine z_sld C hLS (i + 1) (z_ix i 1) (by omega) dL_law_268 ?_
  refine z_aload_n C dL_law_269 rfl 0 rfl ?_
  refine z_iload C dL_law_270 4 rfl ?_
  refine z_iconst C (zi 2) dL_law_272 (by decide) ?_
  refine z_iadd C dL_law_273 ?_
  refine z_sld C hLS (i + 2) (z_ix i 2) (by omega) dL_law_274 ?_
  refine z_aload_n C dL_law_275 rfl 0 rfl ?_
  refine z_iload C dL_law_276 4 rfl ?_
  refine z_iconst C (zi 3) dL_law_278 (by decide) ?_
  refine z_iadd C dL_law_279 ?_
  refine z_sld C hLS (i + 3) (z_ix i 3) (by omega) dL_law_280 ?_
  refine z_aload_n C dL_law_281 rfl 0 rfl ?_
  refine z_iload C dL_law_282 4 rfl ?_
  refine z_iconst C (zi 4) dL_law_284 (by decide) ?_
  refine z_iadd C dL_law_285 ?_
  refine z_sld C hLS (i + 4) (z_ix i 4) (by omega) dL_law_286 ?_
  refine z_aload_n C dL_law_287 rfl 0 rfl ?_
  refine z_iload C dL_law_288 4 rfl ?_
  refine z_iconst C (zi 5) dL_law_290 (by decide) ?_
  refine z_iadd C dL_law_291 ?_
  refine z_sld C hLS (i + 5) (z_ix i 5) (by omega) dL_law_292 ?_
  refine z_callVi (As := [.int (xs (i + 1)), .int (xs (i + 2)), .int (xs (i + 3)), .int (xs (i + 4)), .int (xs (i + 5))]) (F0 := 2048) (L0 := 84000) C (mX10_feed l D Ca B En C.2.2.2.2.2.2.2.1 σ1 N (X + 307) (xs (i + 1)) (xs (i + 2)) (xs (i + 3)) (xs (i + 4)) (xs (i + 5)) (σ2, a) e2) hRm0 kY1 rfl kw_1816 kw_14 kw_1813 kw_1814 kw_1815 hyX10_feed (Nat.le_of_ble_eq_true rfl) (Nat.le_of_ble_eq_true rfl) rfl rfl (Nat.le_of_ble_eq_true rfl) dL_law_293 ?_
  refine z_icmp_eq C 2295 dL_law_296 (by decide) (fun _ => ?_) (fun q => absurd rfl q)
  exact z_widen (by omega) (by omega) (kk σ2 N (Nat.le_refl N) hJ2)
