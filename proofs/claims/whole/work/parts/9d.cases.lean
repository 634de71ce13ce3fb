/-! the law's cases -/
abbrev lvL (g : bw_G) (x M i : Nat) : List (Nat × Value) := [(0, .ref g.2.2.2.2.1), (1, .ref x), (2, .ref M), (3, .ref (M + 19)), (4, .int (nI i))]
abbrev sv (g : bw_G) (i j : Nat) : Int32 := g.2.2.2.2.2.2 (nI (i + j)).toNatClampNeg
theorem LI.xo {g : bw_G} {x M n p gg th : Nat} {A : bw_H} (h : LI g x M n p gg th A) : ∃ fs, A.2 x = some (.inr (11, fs)) := by
  obtain ⟨rn, mn, pn, sn, row, S, MA, PA, rr, cc, Cm, Cp, hf, hx, hm, ho⟩ := h
  exact ⟨_, hx.1⟩
theorem LI.md {g : bw_G} {x M n p gg th : Nat} {A : bw_H} (h : LI g x M n p gg th A) : ∃ rn mn pn sn rd rs pt, A.2 M = some (mdo M n p gg th rn mn pn rd rs pt sn) := by
  obtain ⟨rn, mn, pn, sn, row, S, MA, PA, rr, cc, Cm, Cp, hf, hx, ⟨rd, rs, pt, dd, V, T, Rt, Pc, L, hc, -⟩, ho⟩ := h
  exact ⟨_, _, _, _, _, _, _, hc.1⟩
theorem lg_same (a : Int64) : lg_cmp a a = 0 := by
  unfold lg_cmp
  rw [if_neg (fun h : a > a => Int64.lt_irrefl h), if_pos rfl]
set_option maxHeartbeats 1000000 in
theorem lc_poly (g : bw_G) {R : Room} {Q : bw_O → bw_H → Prop} {cu su i x M n p gg th : Nat} {A : bw_H} (hG : GFg n p gg) (hxM : x + 57 + 2 * n ≤ M) (hfr : 10 ≤ R.frames) (hlo : 1200 ≤ R.locals) (hcu : cu + 20 ≤ R.cells) (hsu : su + 200 ≤ R.slots) (hi : i + 5 ≤ g.2.2.2.2.2.1) (hS : g.2.2.2.2.2.1 ≤ 2562) (hL : LI g x M n p gg th A)
    (kk : ∀ (A' : bw_H) (th' : Nat), LI g x M n p gg th' A' → bw_W g R mL_law Q (cu + 20) (su + 200) 2499 (lvL g x M i) [] A') : bw_W g R mL_law Q cu su 224 (lvL g x M i) [] A := by
  obtain ⟨fs, hb⟩ := hL.xo
  obtain ⟨k, v, J, hk, hJ1, hJ2, hX, hM⟩ := b_poly hG hxM hL
  have hk0 : k = 0 := Nat.le_zero.mp hk
  subst hk0
  refine bw_aload_n 225 dL_law_224 rfl rfl ?_
  refine bw_callV 228 dL_law_225 rfl vL_144 hX hb rfl rfl (Nat.le_of_ble_eq_true rfl) ⟨Nat.le_trans (Nat.le_of_ble_eq_true rfl) hfr, Nat.le_trans (Nat.le_of_ble_eq_true rfl) hlo⟩ hcu hsu (fun E A1 h => (h.1.elim (fun h => by cases h.2) (fun h => absurd rfl h.1))) (fun v' A1 h => ?_)
  obtain ⟨h1 | h1, hJ⟩ := h
  · have hv := Sum.inl.inj h1.2
    subst hv
    obtain ⟨-, fm, hbM⟩ := hJ2 A1 hJ
    refine bw_aload_n 229 dL_law_228 rfl rfl ?_
    refine bw_callV 232 dL_law_229 rfl vL_147 (hM A1 hJ) hbM rfl rfl (Nat.le_of_ble_eq_true rfl) ⟨Nat.le_trans (Nat.le_of_ble_eq_true rfl) hfr, Nat.le_trans (Nat.le_of_ble_eq_true rfl) hlo⟩ hcu hsu (fun E A2 h => by obtain ⟨x, h, -⟩ := h; cases h) (fun v' A2 h => ?_)
    obtain ⟨y, hv, hyv, hL2, hO2⟩ := h
    have hv := Sum.inl.inj hv
    subst hv
    refine bw_icmp_eq 2499 235 dL_law_232 rfl rfl (fun _ => ?_) (fun c => absurd (hyv rfl).symm c)
    exact bw_loc (lvL g x M i) ⟨rfl, rfl, rfl, rfl, rfl, trivial⟩ (kk _ _ hL2)
  · exact absurd rfl h1.1
set_option maxHeartbeats 1000000 in
theorem lc_generator (g : bw_G) {R : Room} {Q : bw_O → bw_H → Prop} {cu su i x M n p gg th : Nat} {A : bw_H} (hG : GFg n p gg) (hxM : x + 57 + 2 * n ≤ M) (hfr : 10 ≤ R.frames) (hlo : 1200 ≤ R.locals) (hcu : cu + 20 ≤ R.cells) (hsu : su + 200 ≤ R.slots) (hi : i + 5 ≤ g.2.2.2.2.2.1) (hS : g.2.2.2.2.2.1 ≤ 2562) (hL : LI g x M n p gg th A)
    (kk : ∀ (A' : bw_H) (th' : Nat), LI g x M n p gg th' A' → bw_W g R mL_law Q (cu + 20) (su + 200) 2499 (lvL g x M i) [] A') : bw_W g R mL_law Q cu su 237 (lvL g x M i) [] A := by
  obtain ⟨fs, hb⟩ := hL.xo
  obtain ⟨k, v, J, hk, hJ1, hJ2, hX, hM⟩ := b_generator hG hxM hL
  have hk0 : k = 0 := Nat.le_zero.mp hk
  subst hk0
  refine bw_aload_n 238 dL_law_237 rfl rfl ?_
  refine bw_callV 241 dL_law_238 rfl vL_148 hX hb rfl rfl (Nat.le_of_ble_eq_true rfl) ⟨Nat.le_trans (Nat.le_of_ble_eq_true rfl) hfr, Nat.le_trans (Nat.le_of_ble_eq_true rfl) hlo⟩ hcu hsu (fun E A1 h => (h.1.elim (fun h => by cases h.2) (fun h => absurd rfl h.1))) (fun v' A1 h => ?_)
  obtain ⟨h1 | h1, hJ⟩ := h
  · have hv := Sum.inl.inj h1.2
    subst hv
    obtain ⟨-, fm, hbM⟩ := hJ2 A1 hJ
    refine bw_aload_n 242 dL_law_241 rfl rfl ?_
    refine bw_callV 245 dL_law_242 rfl vL_151 (hM A1 hJ) hbM rfl rfl (Nat.le_of_ble_eq_true rfl) ⟨Nat.le_trans (Nat.le_of_ble_eq_true rfl) hfr, Nat.le_trans (Nat.le_of_ble_eq_true rfl) hlo⟩ hcu hsu (fun E A2 h => by obtain ⟨x, h, -⟩ := h; cases h) (fun v' A2 h => ?_)
    obtain ⟨y, hv, hyv, hL2, hO2⟩ := h
    have hv := Sum.inl.inj hv
    subst hv
    refine bw_icmp_eq 2499 248 dL_law_245 rfl rfl (fun _ => ?_) (fun c => absurd (hyv rfl).symm c)
    exact bw_loc (lvL g x M i) ⟨rfl, rfl, rfl, rfl, rfl, trivial⟩ (kk _ _ hL2)
  · exact absurd rfl h1.1
set_option maxHeartbeats 1000000 in
theorem lc_product (g : bw_G) {R : Room} {Q : bw_O → bw_H → Prop} {cu su i x M n p gg th : Nat} {A : bw_H} (hG : GFg n p gg) (hxM : x + 57 + 2 * n ≤ M) (hfr : 10 ≤ R.frames) (hlo : 1200 ≤ R.locals) (hcu : cu + 20 ≤ R.cells) (hsu : su + 200 ≤ R.slots) (hi : i + 5 ≤ g.2.2.2.2.2.1) (hS : g.2.2.2.2.2.1 ≤ 2562) (hL : LI g x M n p gg th A)
    (kk : ∀ (A' : bw_H) (th' : Nat), LI g x M n p gg th' A' → bw_W g R mL_law Q (cu + 20) (su + 200) 2499 (lvL g x M i) [] A') : bw_W g R mL_law Q cu su 250 (lvL g x M i) [] A := by
  obtain ⟨fs, hb⟩ := hL.xo
  obtain ⟨k, v, J, hk, hJ1, hJ2, hX, hM⟩ := b_product hG hxM hL (sv g i 1) (sv g i 2)
  have hk3 : k ≤ 3 := Nat.le_trans hk (by decide)
  refine bw_aload_n 251 dL_law_250 rfl rfl ?_
  refine bw_aload_n 252 dL_law_251 rfl rfl ?_
  refine bw_iload 254 dL_law_252 rfl rfl ?_
  refine bw_iconst (1) 255 dL_law_254 (by decide) rfl ?_
  refine bw_eqi (y := nI 1) rfl ?_
  refine bw_iadd 256 dL_law_255 rfl ?_
  refine bw_eqi (nI_add i 1) ?_
  refine bw_sld 257 dL_law_256 rfl (vp_in_nI (by omega) (by omega)) ?_
  refine bw_aload_n 258 dL_law_257 rfl rfl ?_
  refine bw_iload 260 dL_law_258 rfl rfl ?_
  refine bw_iconst (2) 261 dL_law_260 (by decide) rfl ?_
  refine bw_eqi (y := nI 2) rfl ?_
  refine bw_iadd 262 dL_law_261 rfl ?_
  refine bw_eqi (nI_add i 2) ?_
  refine bw_sld 263 dL_law_262 rfl (vp_in_nI (by omega) (by omega)) ?_
  refine bw_aload_n 264 dL_law_263 rfl rfl ?_
  refine bw_callH 267 dL_law_264 rfl hL_152 (w_product g hb hk hJ1 (fun A1 h => (hJ2 A1 h).1.1) hX) rfl rfl (Nat.le_of_ble_eq_true rfl) ⟨Nat.le_trans (Nat.le_of_ble_eq_true rfl) hfr, Nat.le_trans (Nat.le_of_ble_eq_true rfl) hlo⟩ hcu hsu (fun E A1 h => by obtain ⟨x, h, -⟩ := h; cases h) (fun v' A1 h => ?_)
  obtain ⟨y, hv, rfl, hJ, hO⟩ := h
  have hv := Sum.inl.inj hv
  subst hv
  obtain ⟨-, fm, hbM⟩ := hJ2 A1 hJ
  refine bw_istore 269 dL_law_267 rfl (by decide) ?_
  refine bw_aload_n 270 dL_law_269 rfl rfl ?_
  refine bw_aload_n 271 dL_law_270 rfl rfl ?_
  refine bw_iload 273 dL_law_271 rfl rfl ?_
  refine bw_iconst (1) 274 dL_law_273 (by decide) rfl ?_
  refine bw_eqi (y := nI 1) rfl ?_
  refine bw_iadd 275 dL_law_274 rfl ?_
  refine bw_eqi (nI_add i 1) ?_
  refine bw_sld 276 dL_law_275 rfl (vp_in_nI (by omega) (by omega)) ?_
  refine bw_aload_n 277 dL_law_276 rfl rfl ?_
  refine bw_iload 279 dL_law_277 rfl rfl ?_
  refine bw_iconst (2) 280 dL_law_279 (by decide) rfl ?_
  refine bw_eqi (y := nI 2) rfl ?_
  refine bw_iadd 281 dL_law_280 rfl ?_
  refine bw_eqi (nI_add i 2) ?_
  refine bw_sld 282 dL_law_281 rfl (vp_in_nI (by omega) (by omega)) ?_
  refine bw_callV 285 dL_law_282 rfl vL_155 (hM A1 hJ) hbM rfl rfl (Nat.le_of_ble_eq_true rfl) ⟨Nat.le_trans (Nat.le_of_ble_eq_true rfl) hfr, Nat.le_trans (Nat.le_of_ble_eq_true rfl) hlo⟩ hcu hsu (fun E A2 h => by obtain ⟨x, h, -⟩ := h; cases h) (fun v' A2 h => ?_)
  obtain ⟨y, hv, hyv, hL2, hO2⟩ := h
  have hv := Sum.inl.inj hv
  subst hv
  refine bw_istore 287 dL_law_285 rfl (by decide) ?_
  refine bw_aload_n 288 dL_law_287 rfl rfl ?_
  obtain ⟨rn, mn, pn, sn, rd, rs, pt, hmd⟩ := hL2.md
  refine bw_cVi 291 dL_law_288 rfl vL_156 (m_thrown g (bw_has.one hmd)) hmd rfl rfl (Nat.le_of_ble_eq_true rfl) ⟨Nat.le_trans (Nat.le_of_ble_eq_true rfl) hfr, Nat.le_trans (Nat.le_of_ble_eq_true rfl) hlo⟩ hcu hsu ?_
  refine bw_iload 293 dL_law_291 rfl rfl ?_
  refine bw_icmp_eq 298 296 dL_law_293 rfl rfl (fun _ => ?_) (fun c => absurd rfl c)
  refine bw_iload 300 dL_law_298 rfl rfl ?_
  refine bw_if_ne 315 303 dL_law_300 rfl rfl (fun c => ?_) (fun c => ?_)
  · refine bw_goto 2499 dL_law_315 rfl ?_
    exact bw_loc (lvL g x M i) ⟨rfl, rfl, rfl, rfl, rfl, trivial⟩ (kk _ _ hL2)
  · have hk0 : k = 0 := (xn_eq0 (by omega)).mp c
    obtain ⟨f, hf, hf0⟩ := hO hk0
    refine bw_aload_n 304 dL_law_303 rfl rfl ?_
    refine bw_iconst (0) 305 dL_law_304 (by decide) rfl ?_
    refine bw_lald 306 dL_law_305 rfl (hO2.trans hf) (vp_in_nI (n := 0) (N := 1) (by decide) (by decide)) ?_
    refine bw_iload 308 dL_law_306 rfl rfl ?_
    refine bw_i2l 309 dL_law_308 rfl ?_
    refine bw_lcmp 310 dL_law_309 rfl ?_
    refine bw_if_eq 315 313 dL_law_310 rfl rfl (fun _ => ?_) (fun c => absurd (show lg_cmp (f 0) y.toInt64 = 0 by rw [hyv hk0, hf0]; exact lg_same _) c)
    refine bw_goto 2499 dL_law_315 rfl ?_
    exact bw_loc (lvL g x M i) ⟨rfl, rfl, rfl, rfl, rfl, trivial⟩ (kk _ _ hL2)
set_option maxHeartbeats 1000000 in
theorem lc_quotient (g : bw_G) {R : Room} {Q : bw_O → bw_H → Prop} {cu su i x M n p gg th : Nat} {A : bw_H} (hG : GFg n p gg) (hxM : x + 57 + 2 * n ≤ M) (hfr : 10 ≤ R.frames) (hlo : 1200 ≤ R.locals) (hcu : cu + 20 ≤ R.cells) (hsu : su + 200 ≤ R.slots) (hi : i + 5 ≤ g.2.2.2.2.2.1) (hS : g.2.2.2.2.2.1 ≤ 2562) (hL : LI g x M n p gg th A)
    (kk : ∀ (A' : bw_H) (th' : Nat), LI g x M n p gg th' A' → bw_W g R mL_law Q (cu + 20) (su + 200) 2499 (lvL g x M i) [] A') : bw_W g R mL_law Q cu su 318 (lvL g x M i) [] A := by
  obtain ⟨fs, hb⟩ := hL.xo
  obtain ⟨k, v, J, hk, hJ1, hJ2, hX, hM⟩ := b_quotient hG hxM hL (sv g i 1) (sv g i 2)
  have hk3 : k ≤ 3 := Nat.le_trans hk (by decide)
  refine bw_aload_n 319 dL_law_318 rfl rfl ?_
  refine bw_aload_n 320 dL_law_319 rfl rfl ?_
  refine bw_iload 322 dL_law_320 rfl rfl ?_
  refine bw_iconst (1) 323 dL_law_322 (by decide) rfl ?_
  refine bw_eqi (y := nI 1) rfl ?_
  refine bw_iadd 324 dL_law_323 rfl ?_
  refine bw_eqi (nI_add i 1) ?_
  refine bw_sld 325 dL_law_324 rfl (vp_in_nI (by omega) (by omega)) ?_
  refine bw_aload_n 326 dL_law_325 rfl rfl ?_
  refine bw_iload 328 dL_law_326 rfl rfl ?_
  refine bw_iconst (2) 329 dL_law_328 (by decide) rfl ?_
  refine bw_eqi (y := nI 2) rfl ?_
  refine bw_iadd 330 dL_law_329 rfl ?_
  refine bw_eqi (nI_add i 2) ?_
  refine bw_sld 331 dL_law_330 rfl (vp_in_nI (by omega) (by omega)) ?_
  refine bw_aload_n 332 dL_law_331 rfl rfl ?_
  refine bw_callH 335 dL_law_332 rfl hL_159 (w_quotient g hb hk hJ1 (fun A1 h => (hJ2 A1 h).1.1) hX) rfl rfl (Nat.le_of_ble_eq_true rfl) ⟨Nat.le_trans (Nat.le_of_ble_eq_true rfl) hfr, Nat.le_trans (Nat.le_of_ble_eq_true rfl) hlo⟩ hcu hsu (fun E A1 h => by obtain ⟨x, h, -⟩ := h; cases h) (fun v' A1 h => ?_)
  obtain ⟨y, hv, rfl, hJ, hO⟩ := h
  have hv := Sum.inl.inj hv
  subst hv
  obtain ⟨-, fm, hbM⟩ := hJ2 A1 hJ
  refine bw_istore 337 dL_law_335 rfl (by decide) ?_
  refine bw_aload_n 338 dL_law_337 rfl rfl ?_
  refine bw_aload_n 339 dL_law_338 rfl rfl ?_
  refine bw_iload 341 dL_law_339 rfl rfl ?_
  refine bw_iconst (1) 342 dL_law_341 (by decide) rfl ?_
  refine bw_eqi (y := nI 1) rfl ?_
  refine bw_iadd 343 dL_law_342 rfl ?_
  refine bw_eqi (nI_add i 1) ?_
  refine bw_sld 344 dL_law_343 rfl (vp_in_nI (by omega) (by omega)) ?_
  refine bw_aload_n 345 dL_law_344 rfl rfl ?_
  refine bw_iload 347 dL_law_345 rfl rfl ?_
  refine bw_iconst (2) 348 dL_law_347 (by decide) rfl ?_
  refine bw_eqi (y := nI 2) rfl ?_
  refine bw_iadd 349 dL_law_348 rfl ?_
  refine bw_eqi (nI_add i 2) ?_
  refine bw_sld 350 dL_law_349 rfl (vp_in_nI (by omega) (by omega)) ?_
  refine bw_callV 353 dL_law_350 rfl vL_161 (hM A1 hJ) hbM rfl rfl (Nat.le_of_ble_eq_true rfl) ⟨Nat.le_trans (Nat.le_of_ble_eq_true rfl) hfr, Nat.le_trans (Nat.le_of_ble_eq_true rfl) hlo⟩ hcu hsu (fun E A2 h => by obtain ⟨x, h, -⟩ := h; cases h) (fun v' A2 h => ?_)
  obtain ⟨y, hv, hyv, hL2, hO2⟩ := h
  have hv := Sum.inl.inj hv
  subst hv
  refine bw_istore 355 dL_law_353 rfl (by decide) ?_
  refine bw_aload_n 356 dL_law_355 rfl rfl ?_
  obtain ⟨rn, mn, pn, sn, rd, rs, pt, hmd⟩ := hL2.md
  refine bw_cVi 359 dL_law_356 rfl vL_156 (m_thrown g (bw_has.one hmd)) hmd rfl rfl (Nat.le_of_ble_eq_true rfl) ⟨Nat.le_trans (Nat.le_of_ble_eq_true rfl) hfr, Nat.le_trans (Nat.le_of_ble_eq_true rfl) hlo⟩ hcu hsu ?_
  refine bw_iload 361 dL_law_359 rfl rfl ?_
  refine bw_icmp_eq 366 364 dL_law_361 rfl rfl (fun _ => ?_) (fun c => absurd rfl c)
  refine bw_iload 368 dL_law_366 rfl rfl ?_
  refine bw_if_ne 383 371 dL_law_368 rfl rfl (fun c => ?_) (fun c => ?_)
  · refine bw_goto 2499 dL_law_383 rfl ?_
    exact bw_loc (lvL g x M i) ⟨rfl, rfl, rfl, rfl, rfl, trivial⟩ (kk _ _ hL2)
  · have hk0 : k = 0 := (xn_eq0 (by omega)).mp c
    obtain ⟨f, hf, hf0⟩ := hO hk0
    refine bw_aload_n 372 dL_law_371 rfl rfl ?_
    refine bw_iconst (0) 373 dL_law_372 (by decide) rfl ?_
    refine bw_lald 374 dL_law_373 rfl (hO2.trans hf) (vp_in_nI (n := 0) (N := 1) (by decide) (by decide)) ?_
    refine bw_iload 376 dL_law_374 rfl rfl ?_
    refine bw_i2l 377 dL_law_376 rfl ?_
    refine bw_lcmp 378 dL_law_377 rfl ?_
    refine bw_if_eq 383 381 dL_law_378 rfl rfl (fun _ => ?_) (fun c => absurd (show lg_cmp (f 0) y.toInt64 = 0 by rw [hyv hk0, hf0]; exact lg_same _) c)
    refine bw_goto 2499 dL_law_383 rfl ?_
    exact bw_loc (lvL g x M i) ⟨rfl, rfl, rfl, rfl, rfl, trivial⟩ (kk _ _ hL2)
set_option maxHeartbeats 1000000 in
theorem lc_power (g : bw_G) {R : Room} {Q : bw_O → bw_H → Prop} {cu su i x M n p gg th : Nat} {A : bw_H} (hG : GFg n p gg) (hxM : x + 57 + 2 * n ≤ M) (hfr : 10 ≤ R.frames) (hlo : 1200 ≤ R.locals) (hcu : cu + 20 ≤ R.cells) (hsu : su + 200 ≤ R.slots) (hi : i + 5 ≤ g.2.2.2.2.2.1) (hS : g.2.2.2.2.2.1 ≤ 2562) (hL : LI g x M n p gg th A)
    (kk : ∀ (A' : bw_H) (th' : Nat), LI g x M n p gg th' A' → bw_W g R mL_law Q (cu + 20) (su + 200) 2499 (lvL g x M i) [] A') : bw_W g R mL_law Q cu su 386 (lvL g x M i) [] A := by
  obtain ⟨fs, hb⟩ := hL.xo
  obtain ⟨k, v, J, hk, hJ1, hJ2, hX, hM⟩ := b_power hG hxM hL (sv g i 1) (((sv g i 2).toInt64 <<< ((32 : Int32).toInt64 &&& 63)) ||| ((sv g i 3).toInt64 &&& 4294967295))
  have hk3 : k ≤ 3 := Nat.le_trans hk (by decide)
  refine bw_aload_n 387 dL_law_386 rfl rfl ?_
  refine bw_aload_n 388 dL_law_387 rfl rfl ?_
  refine bw_iload 390 dL_law_388 rfl rfl ?_
  refine bw_iconst (1) 391 dL_law_390 (by decide) rfl ?_
  refine bw_eqi (y := nI 1) rfl ?_
  refine bw_iadd 392 dL_law_391 rfl ?_
  refine bw_eqi (nI_add i 1) ?_
  refine bw_sld 393 dL_law_392 rfl (vp_in_nI (by omega) (by omega)) ?_
  refine bw_aload_n 394 dL_law_393 rfl rfl ?_
  refine bw_iload 396 dL_law_394 rfl rfl ?_
  refine bw_iconst (2) 397 dL_law_396 (by decide) rfl ?_
  refine bw_eqi (y := nI 2) rfl ?_
  refine bw_iadd 398 dL_law_397 rfl ?_
  refine bw_eqi (nI_add i 2) ?_
  refine bw_sld 399 dL_law_398 rfl (vp_in_nI (by omega) (by omega)) ?_
  refine bw_i2l 400 dL_law_399 rfl ?_
  refine bw_bipush (32) 402 dL_law_400 (by decide) rfl ?_
  refine bw_lshl 403 dL_law_402 rfl ?_
  refine bw_aload_n 404 dL_law_403 rfl rfl ?_
  refine bw_iload 406 dL_law_404 rfl rfl ?_
  refine bw_iconst (3) 407 dL_law_406 (by decide) rfl ?_
  refine bw_eqi (y := nI 3) rfl ?_
  refine bw_iadd 408 dL_law_407 rfl ?_
  refine bw_eqi (nI_add i 3) ?_
  refine bw_sld 409 dL_law_408 rfl (vp_in_nI (by omega) (by omega)) ?_
  refine bw_i2l 410 dL_law_409 rfl ?_
  refine bw_ldc2 413 dL_law_410 kL_162 rfl ?_
  refine bw_land 414 dL_law_413 rfl ?_
  refine bw_lor 415 dL_law_414 rfl ?_
  refine bw_aload_n 416 dL_law_415 rfl rfl ?_
  refine bw_callH 419 dL_law_416 rfl hL_164 (w_power g hb hk hJ1 (fun A1 h => (hJ2 A1 h).1.1) hX) rfl rfl (Nat.le_of_ble_eq_true rfl) ⟨Nat.le_trans (Nat.le_of_ble_eq_true rfl) hfr, Nat.le_trans (Nat.le_of_ble_eq_true rfl) hlo⟩ hcu hsu (fun E A1 h => by obtain ⟨x, h, -⟩ := h; cases h) (fun v' A1 h => ?_)
  obtain ⟨y, hv, rfl, hJ, hO⟩ := h
  have hv := Sum.inl.inj hv
  subst hv
  obtain ⟨-, fm, hbM⟩ := hJ2 A1 hJ
  refine bw_istore 421 dL_law_419 rfl (by decide) ?_
  refine bw_aload_n 422 dL_law_421 rfl rfl ?_
  refine bw_aload_n 423 dL_law_422 rfl rfl ?_
  refine bw_iload 425 dL_law_423 rfl rfl ?_
  refine bw_iconst (1) 426 dL_law_425 (by decide) rfl ?_
  refine bw_eqi (y := nI 1) rfl ?_
  refine bw_iadd 427 dL_law_426 rfl ?_
  refine bw_eqi (nI_add i 1) ?_
  refine bw_sld 428 dL_law_427 rfl (vp_in_nI (by omega) (by omega)) ?_
  refine bw_aload_n 429 dL_law_428 rfl rfl ?_
  refine bw_iload 431 dL_law_429 rfl rfl ?_
  refine bw_iconst (2) 432 dL_law_431 (by decide) rfl ?_
  refine bw_eqi (y := nI 2) rfl ?_
  refine bw_iadd 433 dL_law_432 rfl ?_
  refine bw_eqi (nI_add i 2) ?_
  refine bw_sld 434 dL_law_433 rfl (vp_in_nI (by omega) (by omega)) ?_
  refine bw_i2l 435 dL_law_434 rfl ?_
  refine bw_bipush (32) 437 dL_law_435 (by decide) rfl ?_
  refine bw_lshl 438 dL_law_437 rfl ?_
  refine bw_aload_n 439 dL_law_438 rfl rfl ?_
  refine bw_iload 441 dL_law_439 rfl rfl ?_
  refine bw_iconst (3) 442 dL_law_441 (by decide) rfl ?_
  refine bw_eqi (y := nI 3) rfl ?_
  refine bw_iadd 443 dL_law_442 rfl ?_
  refine bw_eqi (nI_add i 3) ?_
  refine bw_sld 444 dL_law_443 rfl (vp_in_nI (by omega) (by omega)) ?_
  refine bw_i2l 445 dL_law_444 rfl ?_
  refine bw_ldc2 448 dL_law_445 kL_162 rfl ?_
  refine bw_land 449 dL_law_448 rfl ?_
  refine bw_lor 450 dL_law_449 rfl ?_
  refine bw_callV 453 dL_law_450 rfl vL_167 (hM A1 hJ) hbM rfl rfl (Nat.le_of_ble_eq_true rfl) ⟨Nat.le_trans (Nat.le_of_ble_eq_true rfl) hfr, Nat.le_trans (Nat.le_of_ble_eq_true rfl) hlo⟩ hcu hsu (fun E A2 h => by obtain ⟨x, h, -⟩ := h; cases h) (fun v' A2 h => ?_)
  obtain ⟨y, hv, hyv, hL2, hO2⟩ := h
  have hv := Sum.inl.inj hv
  subst hv
  refine bw_istore 455 dL_law_453 rfl (by decide) ?_
  refine bw_aload_n 456 dL_law_455 rfl rfl ?_
  obtain ⟨rn, mn, pn, sn, rd, rs, pt, hmd⟩ := hL2.md
  refine bw_cVi 459 dL_law_456 rfl vL_156 (m_thrown g (bw_has.one hmd)) hmd rfl rfl (Nat.le_of_ble_eq_true rfl) ⟨Nat.le_trans (Nat.le_of_ble_eq_true rfl) hfr, Nat.le_trans (Nat.le_of_ble_eq_true rfl) hlo⟩ hcu hsu ?_
  refine bw_iload 461 dL_law_459 rfl rfl ?_
  refine bw_icmp_eq 466 464 dL_law_461 rfl rfl (fun _ => ?_) (fun c => absurd rfl c)
  refine bw_iload 468 dL_law_466 rfl rfl ?_
  refine bw_if_ne 483 471 dL_law_468 rfl rfl (fun c => ?_) (fun c => ?_)
  · refine bw_goto 2499 dL_law_483 rfl ?_
    exact bw_loc (lvL g x M i) ⟨rfl, rfl, rfl, rfl, rfl, trivial⟩ (kk _ _ hL2)
  · have hk0 : k = 0 := (xn_eq0 (by omega)).mp c
    obtain ⟨f, hf, hf0⟩ := hO hk0
    refine bw_aload_n 472 dL_law_471 rfl rfl ?_
    refine bw_iconst (0) 473 dL_law_472 (by decide) rfl ?_
    refine bw_lald 474 dL_law_473 rfl (hO2.trans hf) (vp_in_nI (n := 0) (N := 1) (by decide) (by decide)) ?_
    refine bw_iload 476 dL_law_474 rfl rfl ?_
    refine bw_i2l 477 dL_law_476 rfl ?_
    refine bw_lcmp 478 dL_law_477 rfl ?_
    refine bw_if_eq 483 481 dL_law_478 rfl rfl (fun _ => ?_) (fun c => absurd (show lg_cmp (f 0) y.toInt64 = 0 by rw [hyv hk0, hf0]; exact lg_same _) c)
    refine bw_goto 2499 dL_law_483 rfl ?_
    exact bw_loc (lvL g x M i) ⟨rfl, rfl, rfl, rfl, rfl, trivial⟩ (kk _ _ hL2)
set_option maxHeartbeats 1000000 in
theorem lc_log (g : bw_G) {R : Room} {Q : bw_O → bw_H → Prop} {cu su i x M n p gg th : Nat} {A : bw_H} (hG : GFg n p gg) (hxM : x + 57 + 2 * n ≤ M) (hfr : 10 ≤ R.frames) (hlo : 1200 ≤ R.locals) (hcu : cu + 20 ≤ R.cells) (hsu : su + 200 ≤ R.slots) (hi : i + 5 ≤ g.2.2.2.2.2.1) (hS : g.2.2.2.2.2.1 ≤ 2562) (hL : LI g x M n p gg th A)
    (kk : ∀ (A' : bw_H) (th' : Nat), LI g x M n p gg th' A' → bw_W g R mL_law Q (cu + 20) (su + 200) 2499 (lvL g x M i) [] A') : bw_W g R mL_law Q cu su 486 (lvL g x M i) [] A := by
  obtain ⟨fs, hb⟩ := hL.xo
  obtain ⟨k, v, J, hk, hJ1, hJ2, hX, hM⟩ := b_log hG hxM hL (sv g i 1)
  have hk3 : k ≤ 3 := Nat.le_trans hk (by decide)
  refine bw_aload_n 487 dL_law_486 rfl rfl ?_
  refine bw_aload_n 488 dL_law_487 rfl rfl ?_
  refine bw_iload 490 dL_law_488 rfl rfl ?_
  refine bw_iconst (1) 491 dL_law_490 (by decide) rfl ?_
  refine bw_eqi (y := nI 1) rfl ?_
  refine bw_iadd 492 dL_law_491 rfl ?_
  refine bw_eqi (nI_add i 1) ?_
  refine bw_sld 493 dL_law_492 rfl (vp_in_nI (by omega) (by omega)) ?_
  refine bw_aload_n 494 dL_law_493 rfl rfl ?_
  refine bw_callH 497 dL_law_494 rfl hL_168 (w_log g hb hk hJ1 (fun A1 h => (hJ2 A1 h).1.1) hX) rfl rfl (Nat.le_of_ble_eq_true rfl) ⟨Nat.le_trans (Nat.le_of_ble_eq_true rfl) hfr, Nat.le_trans (Nat.le_of_ble_eq_true rfl) hlo⟩ hcu hsu (fun E A1 h => by obtain ⟨x, h, -⟩ := h; cases h) (fun v' A1 h => ?_)
  obtain ⟨y, hv, rfl, hJ, hO⟩ := h
  have hv := Sum.inl.inj hv
  subst hv
  obtain ⟨-, fm, hbM⟩ := hJ2 A1 hJ
  refine bw_istore 499 dL_law_497 rfl (by decide) ?_
  refine bw_aload_n 500 dL_law_499 rfl rfl ?_
  refine bw_aload_n 501 dL_law_500 rfl rfl ?_
  refine bw_iload 503 dL_law_501 rfl rfl ?_
  refine bw_iconst (1) 504 dL_law_503 (by decide) rfl ?_
  refine bw_eqi (y := nI 1) rfl ?_
  refine bw_iadd 505 dL_law_504 rfl ?_
  refine bw_eqi (nI_add i 1) ?_
  refine bw_sld 506 dL_law_505 rfl (vp_in_nI (by omega) (by omega)) ?_
  refine bw_callV 509 dL_law_506 rfl vL_171 (hM A1 hJ) hbM rfl rfl (Nat.le_of_ble_eq_true rfl) ⟨Nat.le_trans (Nat.le_of_ble_eq_true rfl) hfr, Nat.le_trans (Nat.le_of_ble_eq_true rfl) hlo⟩ hcu hsu (fun E A2 h => by obtain ⟨x, h, -⟩ := h; cases h) (fun v' A2 h => ?_)
  obtain ⟨y, hv, hyv, hL2, hO2⟩ := h
  have hv := Sum.inl.inj hv
  subst hv
  refine bw_istore 511 dL_law_509 rfl (by decide) ?_
  refine bw_aload_n 512 dL_law_511 rfl rfl ?_
  obtain ⟨rn, mn, pn, sn, rd, rs, pt, hmd⟩ := hL2.md
  refine bw_cVi 515 dL_law_512 rfl vL_156 (m_thrown g (bw_has.one hmd)) hmd rfl rfl (Nat.le_of_ble_eq_true rfl) ⟨Nat.le_trans (Nat.le_of_ble_eq_true rfl) hfr, Nat.le_trans (Nat.le_of_ble_eq_true rfl) hlo⟩ hcu hsu ?_
  refine bw_iload 517 dL_law_515 rfl rfl ?_
  refine bw_icmp_eq 522 520 dL_law_517 rfl rfl (fun _ => ?_) (fun c => absurd rfl c)
  refine bw_iload 524 dL_law_522 rfl rfl ?_
  refine bw_if_ne 539 527 dL_law_524 rfl rfl (fun c => ?_) (fun c => ?_)
  · refine bw_goto 2499 dL_law_539 rfl ?_
    exact bw_loc (lvL g x M i) ⟨rfl, rfl, rfl, rfl, rfl, trivial⟩ (kk _ _ hL2)
  · have hk0 : k = 0 := (xn_eq0 (by omega)).mp c
    obtain ⟨f, hf, hf0⟩ := hO hk0
    refine bw_aload_n 528 dL_law_527 rfl rfl ?_
    refine bw_iconst (0) 529 dL_law_528 (by decide) rfl ?_
    refine bw_lald 530 dL_law_529 rfl (hO2.trans hf) (vp_in_nI (n := 0) (N := 1) (by decide) (by decide)) ?_
    refine bw_iload 532 dL_law_530 rfl rfl ?_
    refine bw_i2l 533 dL_law_532 rfl ?_
    refine bw_lcmp 534 dL_law_533 rfl ?_
    refine bw_if_eq 539 537 dL_law_534 rfl rfl (fun _ => ?_) (fun c => absurd (show lg_cmp (f 0) y.toInt64 = 0 by rw [hyv hk0, hf0]; exact lg_same _) c)
    refine bw_goto 2499 dL_law_539 rfl ?_
    exact bw_loc (lvL g x M i) ⟨rfl, rfl, rfl, rfl, rfl, trivial⟩ (kk _ _ hL2)
set_option maxHeartbeats 1000000 in
theorem lc_order (g : bw_G) {R : Room} {Q : bw_O → bw_H → Prop} {cu su i x M n p gg th : Nat} {A : bw_H} (hG : GFg n p gg) (hxM : x + 57 + 2 * n ≤ M) (hfr : 10 ≤ R.frames) (hlo : 1200 ≤ R.locals) (hcu : cu + 20 ≤ R.cells) (hsu : su + 200 ≤ R.slots) (hi : i + 5 ≤ g.2.2.2.2.2.1) (hS : g.2.2.2.2.2.1 ≤ 2562) (hL : LI g x M n p gg th A)
    (kk : ∀ (A' : bw_H) (th' : Nat), LI g x M n p gg th' A' → bw_W g R mL_law Q (cu + 20) (su + 200) 2499 (lvL g x M i) [] A') : bw_W g R mL_law Q cu su 542 (lvL g x M i) [] A := by
  obtain ⟨fs, hb⟩ := hL.xo
  obtain ⟨k, v, J, hk, hJ1, hJ2, hX, hM⟩ := b_order hG hxM hL (sv g i 1)
  have hk3 : k ≤ 3 := Nat.le_trans hk (by decide)
  refine bw_aload_n 543 dL_law_542 rfl rfl ?_
  refine bw_aload_n 544 dL_law_543 rfl rfl ?_
  refine bw_iload 546 dL_law_544 rfl rfl ?_
  refine bw_iconst (1) 547 dL_law_546 (by decide) rfl ?_
  refine bw_eqi (y := nI 1) rfl ?_
  refine bw_iadd 548 dL_law_547 rfl ?_
  refine bw_eqi (nI_add i 1) ?_
  refine bw_sld 549 dL_law_548 rfl (vp_in_nI (by omega) (by omega)) ?_
  refine bw_aload_n 550 dL_law_549 rfl rfl ?_
  refine bw_callH 553 dL_law_550 rfl hL_172 (w_order g hb hk hJ1 (fun A1 h => (hJ2 A1 h).1.1) hX) rfl rfl (Nat.le_of_ble_eq_true rfl) ⟨Nat.le_trans (Nat.le_of_ble_eq_true rfl) hfr, Nat.le_trans (Nat.le_of_ble_eq_true rfl) hlo⟩ hcu hsu (fun E A1 h => by obtain ⟨x, h, -⟩ := h; cases h) (fun v' A1 h => ?_)
  obtain ⟨y, hv, rfl, hJ, hO⟩ := h
  have hv := Sum.inl.inj hv
  subst hv
  obtain ⟨-, fm, hbM⟩ := hJ2 A1 hJ
  refine bw_istore 555 dL_law_553 rfl (by decide) ?_
  refine bw_aload_n 556 dL_law_555 rfl rfl ?_
  refine bw_aload_n 557 dL_law_556 rfl rfl ?_
  refine bw_iload 559 dL_law_557 rfl rfl ?_
  refine bw_iconst (1) 560 dL_law_559 (by decide) rfl ?_
  refine bw_eqi (y := nI 1) rfl ?_
  refine bw_iadd 561 dL_law_560 rfl ?_
  refine bw_eqi (nI_add i 1) ?_
  refine bw_sld 562 dL_law_561 rfl (vp_in_nI (by omega) (by omega)) ?_
  refine bw_callV 565 dL_law_562 rfl vL_174 (hM A1 hJ) hbM rfl rfl (Nat.le_of_ble_eq_true rfl) ⟨Nat.le_trans (Nat.le_of_ble_eq_true rfl) hfr, Nat.le_trans (Nat.le_of_ble_eq_true rfl) hlo⟩ hcu hsu (fun E A2 h => by obtain ⟨x, h, -⟩ := h; cases h) (fun v' A2 h => ?_)
  obtain ⟨y, hv, hyv, hL2, hO2⟩ := h
  have hv := Sum.inl.inj hv
  subst hv
  refine bw_istore 567 dL_law_565 rfl (by decide) ?_
  refine bw_aload_n 568 dL_law_567 rfl rfl ?_
  obtain ⟨rn, mn, pn, sn, rd, rs, pt, hmd⟩ := hL2.md
  refine bw_cVi 571 dL_law_568 rfl vL_156 (m_thrown g (bw_has.one hmd)) hmd rfl rfl (Nat.le_of_ble_eq_true rfl) ⟨Nat.le_trans (Nat.le_of_ble_eq_true rfl) hfr, Nat.le_trans (Nat.le_of_ble_eq_true rfl) hlo⟩ hcu hsu ?_
  refine bw_iload 573 dL_law_571 rfl rfl ?_
  refine bw_icmp_eq 578 576 dL_law_573 rfl rfl (fun _ => ?_) (fun c => absurd rfl c)
  refine bw_iload 580 dL_law_578 rfl rfl ?_
  refine bw_if_ne 595 583 dL_law_580 rfl rfl (fun c => ?_) (fun c => ?_)
  · refine bw_goto 2499 dL_law_595 rfl ?_
    exact bw_loc (lvL g x M i) ⟨rfl, rfl, rfl, rfl, rfl, trivial⟩ (kk _ _ hL2)
  · have hk0 : k = 0 := (xn_eq0 (by omega)).mp c
    obtain ⟨f, hf, hf0⟩ := hO hk0
    refine bw_aload_n 584 dL_law_583 rfl rfl ?_
    refine bw_iconst (0) 585 dL_law_584 (by decide) rfl ?_
    refine bw_lald 586 dL_law_585 rfl (hO2.trans hf) (vp_in_nI (n := 0) (N := 1) (by decide) (by decide)) ?_
    refine bw_iload 588 dL_law_586 rfl rfl ?_
    refine bw_i2l 589 dL_law_588 rfl ?_
    refine bw_lcmp 590 dL_law_589 rfl ?_
    refine bw_if_eq 595 593 dL_law_590 rfl rfl (fun _ => ?_) (fun c => absurd (show lg_cmp (f 0) y.toInt64 = 0 by rw [hyv hk0, hf0]; exact lg_same _) c)
    refine bw_goto 2499 dL_law_595 rfl ?_
    exact bw_loc (lvL g x M i) ⟨rfl, rfl, rfl, rfl, rfl, trivial⟩ (kk _ _ hL2)
set_option maxHeartbeats 1000000 in
theorem lc_put (g : bw_G) {R : Room} {Q : bw_O → bw_H → Prop} {cu su i x M n p gg th : Nat} {A : bw_H} (hG : GFg n p gg) (hxM : x + 57 + 2 * n ≤ M) (hfr : 10 ≤ R.frames) (hlo : 1200 ≤ R.locals) (hcu : cu + 20 ≤ R.cells) (hsu : su + 200 ≤ R.slots) (hi : i + 5 ≤ g.2.2.2.2.2.1) (hS : g.2.2.2.2.2.1 ≤ 2562) (hL : LI g x M n p gg th A)
    (kk : ∀ (A' : bw_H) (th' : Nat), LI g x M n p gg th' A' → bw_W g R mL_law Q (cu + 20) (su + 200) 2499 (lvL g x M i) [] A') : bw_W g R mL_law Q cu su 598 (lvL g x M i) [] A := by
  obtain ⟨fs, hb⟩ := hL.xo
  obtain ⟨k, v, J, hk, hJ1, hJ2, hX, hM⟩ := b_put hG hxM hL (sv g i 1)
  have hk3 : k ≤ 3 := Nat.le_trans hk (by decide)
  refine bw_aload_n 599 dL_law_598 rfl rfl ?_
  refine bw_aload_n 600 dL_law_599 rfl rfl ?_
  refine bw_iload 602 dL_law_600 rfl rfl ?_
  refine bw_iconst (1) 603 dL_law_602 (by decide) rfl ?_
  refine bw_eqi (y := nI 1) rfl ?_
  refine bw_iadd 604 dL_law_603 rfl ?_
  refine bw_eqi (nI_add i 1) ?_
  refine bw_sld 605 dL_law_604 rfl (vp_in_nI (by omega) (by omega)) ?_
  refine bw_aload_n 606 dL_law_605 rfl rfl ?_
  refine bw_callH 609 dL_law_606 rfl hL_175 (w_put g hb hk hJ1 (fun A1 h => (hJ2 A1 h).1.1) hX) rfl rfl (Nat.le_of_ble_eq_true rfl) ⟨Nat.le_trans (Nat.le_of_ble_eq_true rfl) hfr, Nat.le_trans (Nat.le_of_ble_eq_true rfl) hlo⟩ hcu hsu (fun E A1 h => by obtain ⟨x, h, -⟩ := h; cases h) (fun v' A1 h => ?_)
  obtain ⟨y, hv, rfl, hJ, hO⟩ := h
  have hv := Sum.inl.inj hv
  subst hv
  obtain ⟨-, fm, hbM⟩ := hJ2 A1 hJ
  refine bw_istore 611 dL_law_609 rfl (by decide) ?_
  refine bw_aload_n 612 dL_law_611 rfl rfl ?_
  refine bw_aload_n 613 dL_law_612 rfl rfl ?_
  refine bw_iload 615 dL_law_613 rfl rfl ?_
  refine bw_iconst (1) 616 dL_law_615 (by decide) rfl ?_
  refine bw_eqi (y := nI 1) rfl ?_
  refine bw_iadd 617 dL_law_616 rfl ?_
  refine bw_eqi (nI_add i 1) ?_
  refine bw_sld 618 dL_law_617 rfl (vp_in_nI (by omega) (by omega)) ?_
  refine bw_callV 621 dL_law_618 rfl vL_177 (hM A1 hJ) hbM rfl rfl (Nat.le_of_ble_eq_true rfl) ⟨Nat.le_trans (Nat.le_of_ble_eq_true rfl) hfr, Nat.le_trans (Nat.le_of_ble_eq_true rfl) hlo⟩ hcu hsu (fun E A2 h => by obtain ⟨x, h, -⟩ := h; cases h) (fun v' A2 h => ?_)
  obtain ⟨y, hv, hyv, hL2, hO2⟩ := h
  have hv := Sum.inl.inj hv
  subst hv
  refine bw_istore 623 dL_law_621 rfl (by decide) ?_
  refine bw_aload_n 624 dL_law_623 rfl rfl ?_
  obtain ⟨rn, mn, pn, sn, rd, rs, pt, hmd⟩ := hL2.md
  refine bw_cVi 627 dL_law_624 rfl vL_156 (m_thrown g (bw_has.one hmd)) hmd rfl rfl (Nat.le_of_ble_eq_true rfl) ⟨Nat.le_trans (Nat.le_of_ble_eq_true rfl) hfr, Nat.le_trans (Nat.le_of_ble_eq_true rfl) hlo⟩ hcu hsu ?_
  refine bw_iload 629 dL_law_627 rfl rfl ?_
  refine bw_icmp_eq 634 632 dL_law_629 rfl rfl (fun _ => ?_) (fun c => absurd rfl c)
  refine bw_iload 636 dL_law_634 rfl rfl ?_
  refine bw_if_ne 651 639 dL_law_636 rfl rfl (fun c => ?_) (fun c => ?_)
  · refine bw_goto 2499 dL_law_651 rfl ?_
    exact bw_loc (lvL g x M i) ⟨rfl, rfl, rfl, rfl, rfl, trivial⟩ (kk _ _ hL2)
  · have hk0 : k = 0 := (xn_eq0 (by omega)).mp c
    obtain ⟨f, hf, hf0⟩ := hO hk0
    refine bw_aload_n 640 dL_law_639 rfl rfl ?_
    refine bw_iconst (0) 641 dL_law_640 (by decide) rfl ?_
    refine bw_lald 642 dL_law_641 rfl (hO2.trans hf) (vp_in_nI (n := 0) (N := 1) (by decide) (by decide)) ?_
    refine bw_iload 644 dL_law_642 rfl rfl ?_
    refine bw_i2l 645 dL_law_644 rfl ?_
    refine bw_lcmp 646 dL_law_645 rfl ?_
    refine bw_if_eq 651 649 dL_law_646 rfl rfl (fun _ => ?_) (fun c => absurd (show lg_cmp (f 0) y.toInt64 = 0 by rw [hyv hk0, hf0]; exact lg_same _) c)
    refine bw_goto 2499 dL_law_651 rfl ?_
    exact bw_loc (lvL g x M i) ⟨rfl, rfl, rfl, rfl, rfl, trivial⟩ (kk _ _ hL2)
set_option maxHeartbeats 1000000 in
theorem lc_row (g : bw_G) {R : Room} {Q : bw_O → bw_H → Prop} {cu su i x M n p gg th : Nat} {A : bw_H} (hG : GFg n p gg) (hxM : x + 57 + 2 * n ≤ M) (hfr : 10 ≤ R.frames) (hlo : 1200 ≤ R.locals) (hcu : cu + 20 ≤ R.cells) (hsu : su + 200 ≤ R.slots) (hi : i + 5 ≤ g.2.2.2.2.2.1) (hS : g.2.2.2.2.2.1 ≤ 2562) (hL : LI g x M n p gg th A)
    (kk : ∀ (A' : bw_H) (th' : Nat), LI g x M n p gg th' A' → bw_W g R mL_law Q (cu + 20) (su + 200) 2499 (lvL g x M i) [] A') : bw_W g R mL_law Q cu su 654 (lvL g x M i) [] A := by
  obtain ⟨fs, hb⟩ := hL.xo
  obtain ⟨k, v, J, hk, hJ1, hJ2, hX, hM⟩ := b_row hG hxM hL (sv g i 1)
  have hk3 : k ≤ 3 := Nat.le_trans hk (by decide)
  refine bw_aload_n 655 dL_law_654 rfl rfl ?_
  refine bw_aload_n 656 dL_law_655 rfl rfl ?_
  refine bw_iload 658 dL_law_656 rfl rfl ?_
  refine bw_iconst (1) 659 dL_law_658 (by decide) rfl ?_
  refine bw_eqi (y := nI 1) rfl ?_
  refine bw_iadd 660 dL_law_659 rfl ?_
  refine bw_eqi (nI_add i 1) ?_
  refine bw_sld 661 dL_law_660 rfl (vp_in_nI (by omega) (by omega)) ?_
  refine bw_aload_n 662 dL_law_661 rfl rfl ?_
  refine bw_callH 665 dL_law_662 rfl hL_178 (w_row g hb hk hJ1 (fun A1 h => (hJ2 A1 h).1.1) hX) rfl rfl (Nat.le_of_ble_eq_true rfl) ⟨Nat.le_trans (Nat.le_of_ble_eq_true rfl) hfr, Nat.le_trans (Nat.le_of_ble_eq_true rfl) hlo⟩ hcu hsu (fun E A1 h => by obtain ⟨x, h, -⟩ := h; cases h) (fun v' A1 h => ?_)
  obtain ⟨y, hv, rfl, hJ, hO⟩ := h
  have hv := Sum.inl.inj hv
  subst hv
  obtain ⟨-, fm, hbM⟩ := hJ2 A1 hJ
  refine bw_istore 667 dL_law_665 rfl (by decide) ?_
  refine bw_aload_n 668 dL_law_667 rfl rfl ?_
  refine bw_aload_n 669 dL_law_668 rfl rfl ?_
  refine bw_iload 671 dL_law_669 rfl rfl ?_
  refine bw_iconst (1) 672 dL_law_671 (by decide) rfl ?_
  refine bw_eqi (y := nI 1) rfl ?_
  refine bw_iadd 673 dL_law_672 rfl ?_
  refine bw_eqi (nI_add i 1) ?_
  refine bw_sld 674 dL_law_673 rfl (vp_in_nI (by omega) (by omega)) ?_
  refine bw_callV 677 dL_law_674 rfl vL_180 (hM A1 hJ) hbM rfl rfl (Nat.le_of_ble_eq_true rfl) ⟨Nat.le_trans (Nat.le_of_ble_eq_true rfl) hfr, Nat.le_trans (Nat.le_of_ble_eq_true rfl) hlo⟩ hcu hsu (fun E A2 h => by obtain ⟨x, h, -⟩ := h; cases h) (fun v' A2 h => ?_)
  obtain ⟨y, hv, hyv, hL2, hO2⟩ := h
  have hv := Sum.inl.inj hv
  subst hv
  refine bw_istore 679 dL_law_677 rfl (by decide) ?_
  refine bw_aload_n 680 dL_law_679 rfl rfl ?_
  obtain ⟨rn, mn, pn, sn, rd, rs, pt, hmd⟩ := hL2.md
  refine bw_cVi 683 dL_law_680 rfl vL_156 (m_thrown g (bw_has.one hmd)) hmd rfl rfl (Nat.le_of_ble_eq_true rfl) ⟨Nat.le_trans (Nat.le_of_ble_eq_true rfl) hfr, Nat.le_trans (Nat.le_of_ble_eq_true rfl) hlo⟩ hcu hsu ?_
  refine bw_iload 685 dL_law_683 rfl rfl ?_
  refine bw_icmp_eq 690 688 dL_law_685 rfl rfl (fun _ => ?_) (fun c => absurd rfl c)
  refine bw_iload 692 dL_law_690 rfl rfl ?_
  refine bw_if_ne 707 695 dL_law_692 rfl rfl (fun c => ?_) (fun c => ?_)
  · refine bw_goto 2499 dL_law_707 rfl ?_
    exact bw_loc (lvL g x M i) ⟨rfl, rfl, rfl, rfl, rfl, trivial⟩ (kk _ _ hL2)
  · have hk0 : k = 0 := (xn_eq0 (by omega)).mp c
    obtain ⟨f, hf, hf0⟩ := hO hk0
    refine bw_aload_n 696 dL_law_695 rfl rfl ?_
    refine bw_iconst (0) 697 dL_law_696 (by decide) rfl ?_
    refine bw_lald 698 dL_law_697 rfl (hO2.trans hf) (vp_in_nI (n := 0) (N := 1) (by decide) (by decide)) ?_
    refine bw_iload 700 dL_law_698 rfl rfl ?_
    refine bw_i2l 701 dL_law_700 rfl ?_
    refine bw_lcmp 702 dL_law_701 rfl ?_
    refine bw_if_eq 707 705 dL_law_702 rfl rfl (fun _ => ?_) (fun c => absurd (show lg_cmp (f 0) y.toInt64 = 0 by rw [hyv hk0, hf0]; exact lg_same _) c)
    refine bw_goto 2499 dL_law_707 rfl ?_
    exact bw_loc (lvL g x M i) ⟨rfl, rfl, rfl, rfl, rfl, trivial⟩ (kk _ _ hL2)
set_option maxHeartbeats 1000000 in
theorem lc_drop (g : bw_G) {R : Room} {Q : bw_O → bw_H → Prop} {cu su i x M n p gg th : Nat} {A : bw_H} (hG : GFg n p gg) (hxM : x + 57 + 2 * n ≤ M) (hfr : 10 ≤ R.frames) (hlo : 1200 ≤ R.locals) (hcu : cu + 20 ≤ R.cells) (hsu : su + 200 ≤ R.slots) (hi : i + 5 ≤ g.2.2.2.2.2.1) (hS : g.2.2.2.2.2.1 ≤ 2562) (hL : LI g x M n p gg th A)
    (kk : ∀ (A' : bw_H) (th' : Nat), LI g x M n p gg th' A' → bw_W g R mL_law Q (cu + 20) (su + 200) 2499 (lvL g x M i) [] A') : bw_W g R mL_law Q cu su 710 (lvL g x M i) [] A := by
  obtain ⟨fs, hb⟩ := hL.xo
  obtain ⟨k, v, J, hk, hJ1, hJ2, hX, hM⟩ := b_drop hG hxM hL
  have hk0 : k = 0 := Nat.le_zero.mp hk
  subst hk0
  refine bw_aload_n 711 dL_law_710 rfl rfl ?_
  refine bw_callV 714 dL_law_711 rfl vL_181 hX hb rfl rfl (Nat.le_of_ble_eq_true rfl) ⟨Nat.le_trans (Nat.le_of_ble_eq_true rfl) hfr, Nat.le_trans (Nat.le_of_ble_eq_true rfl) hlo⟩ hcu hsu (fun E A1 h => (h.1.elim (fun h => by cases h.2) (fun h => absurd rfl h.1))) (fun v' A1 h => ?_)
  obtain ⟨h1 | h1, hJ⟩ := h
  · have hv := Sum.inl.inj h1.2
    subst hv
    obtain ⟨-, fm, hbM⟩ := hJ2 A1 hJ
    refine bw_aload_n 715 dL_law_714 rfl rfl ?_
    refine bw_callV 718 dL_law_715 rfl vL_184 (hM A1 hJ) hbM rfl rfl (Nat.le_of_ble_eq_true rfl) ⟨Nat.le_trans (Nat.le_of_ble_eq_true rfl) hfr, Nat.le_trans (Nat.le_of_ble_eq_true rfl) hlo⟩ hcu hsu (fun E A2 h => by obtain ⟨x, h, -⟩ := h; cases h) (fun v' A2 h => ?_)
    obtain ⟨y, hv, hyv, hL2, hO2⟩ := h
    have hv := Sum.inl.inj hv
    subst hv
    refine bw_icmp_eq 2499 721 dL_law_718 rfl rfl (fun _ => ?_) (fun c => absurd (hyv rfl).symm c)
    exact bw_loc (lvL g x M i) ⟨rfl, rfl, rfl, rfl, rfl, trivial⟩ (kk _ _ hL2)
  · exact absurd rfl h1.1
set_option maxHeartbeats 1000000 in
theorem lc_matrix (g : bw_G) {R : Room} {Q : bw_O → bw_H → Prop} {cu su i x M n p gg th : Nat} {A : bw_H} (hG : GFg n p gg) (hxM : x + 57 + 2 * n ≤ M) (hfr : 10 ≤ R.frames) (hlo : 1200 ≤ R.locals) (hcu : cu + 20 ≤ R.cells) (hsu : su + 200 ≤ R.slots) (hi : i + 5 ≤ g.2.2.2.2.2.1) (hS : g.2.2.2.2.2.1 ≤ 2562) (hL : LI g x M n p gg th A)
    (kk : ∀ (A' : bw_H) (th' : Nat), LI g x M n p gg th' A' → bw_W g R mL_law Q (cu + 20) (su + 200) 2499 (lvL g x M i) [] A') : bw_W g R mL_law Q cu su 723 (lvL g x M i) [] A := by
  obtain ⟨fs, hb⟩ := hL.xo
  obtain ⟨k, v, J, hk, hJ1, hJ2, hX, hM⟩ := b_matrix hG hxM hL (sv g i 1) (sv g i 2)
  have hk3 : k ≤ 3 := Nat.le_trans hk (by decide)
  refine bw_aload_n 724 dL_law_723 rfl rfl ?_
  refine bw_aload_n 725 dL_law_724 rfl rfl ?_
  refine bw_iload 727 dL_law_725 rfl rfl ?_
  refine bw_iconst (1) 728 dL_law_727 (by decide) rfl ?_
  refine bw_eqi (y := nI 1) rfl ?_
  refine bw_iadd 729 dL_law_728 rfl ?_
  refine bw_eqi (nI_add i 1) ?_
  refine bw_sld 730 dL_law_729 rfl (vp_in_nI (by omega) (by omega)) ?_
  refine bw_aload_n 731 dL_law_730 rfl rfl ?_
  refine bw_iload 733 dL_law_731 rfl rfl ?_
  refine bw_iconst (2) 734 dL_law_733 (by decide) rfl ?_
  refine bw_eqi (y := nI 2) rfl ?_
  refine bw_iadd 735 dL_law_734 rfl ?_
  refine bw_eqi (nI_add i 2) ?_
  refine bw_sld 736 dL_law_735 rfl (vp_in_nI (by omega) (by omega)) ?_
  refine bw_aload_n 737 dL_law_736 rfl rfl ?_
  refine bw_callH 740 dL_law_737 rfl hL_185 (w_matrix g hb hk hJ1 (fun A1 h => (hJ2 A1 h).1.1) hX) rfl rfl (Nat.le_of_ble_eq_true rfl) ⟨Nat.le_trans (Nat.le_of_ble_eq_true rfl) hfr, Nat.le_trans (Nat.le_of_ble_eq_true rfl) hlo⟩ hcu hsu (fun E A1 h => by obtain ⟨x, h, -⟩ := h; cases h) (fun v' A1 h => ?_)
  obtain ⟨y, hv, rfl, hJ, hO⟩ := h
  have hv := Sum.inl.inj hv
  subst hv
  obtain ⟨-, fm, hbM⟩ := hJ2 A1 hJ
  refine bw_istore 742 dL_law_740 rfl (by decide) ?_
  refine bw_aload_n 743 dL_law_742 rfl rfl ?_
  refine bw_aload_n 744 dL_law_743 rfl rfl ?_
  refine bw_iload 746 dL_law_744 rfl rfl ?_
  refine bw_iconst (1) 747 dL_law_746 (by decide) rfl ?_
  refine bw_eqi (y := nI 1) rfl ?_
  refine bw_iadd 748 dL_law_747 rfl ?_
  refine bw_eqi (nI_add i 1) ?_
  refine bw_sld 749 dL_law_748 rfl (vp_in_nI (by omega) (by omega)) ?_
  refine bw_aload_n 750 dL_law_749 rfl rfl ?_
  refine bw_iload 752 dL_law_750 rfl rfl ?_
  refine bw_iconst (2) 753 dL_law_752 (by decide) rfl ?_
  refine bw_eqi (y := nI 2) rfl ?_
  refine bw_iadd 754 dL_law_753 rfl ?_
  refine bw_eqi (nI_add i 2) ?_
  refine bw_sld 755 dL_law_754 rfl (vp_in_nI (by omega) (by omega)) ?_
  refine bw_callV 758 dL_law_755 rfl vL_187 (hM A1 hJ) hbM rfl rfl (Nat.le_of_ble_eq_true rfl) ⟨Nat.le_trans (Nat.le_of_ble_eq_true rfl) hfr, Nat.le_trans (Nat.le_of_ble_eq_true rfl) hlo⟩ hcu hsu (fun E A2 h => by obtain ⟨x, h, -⟩ := h; cases h) (fun v' A2 h => ?_)
  obtain ⟨y, hv, hyv, hL2, hO2⟩ := h
  have hv := Sum.inl.inj hv
  subst hv
  refine bw_istore 760 dL_law_758 rfl (by decide) ?_
  refine bw_aload_n 761 dL_law_760 rfl rfl ?_
  obtain ⟨rn, mn, pn, sn, rd, rs, pt, hmd⟩ := hL2.md
  refine bw_cVi 764 dL_law_761 rfl vL_156 (m_thrown g (bw_has.one hmd)) hmd rfl rfl (Nat.le_of_ble_eq_true rfl) ⟨Nat.le_trans (Nat.le_of_ble_eq_true rfl) hfr, Nat.le_trans (Nat.le_of_ble_eq_true rfl) hlo⟩ hcu hsu ?_
  refine bw_iload 766 dL_law_764 rfl rfl ?_
  refine bw_icmp_eq 771 769 dL_law_766 rfl rfl (fun _ => ?_) (fun c => absurd rfl c)
  refine bw_iload 773 dL_law_771 rfl rfl ?_
  refine bw_if_ne 788 776 dL_law_773 rfl rfl (fun c => ?_) (fun c => ?_)
  · refine bw_goto 2499 dL_law_788 rfl ?_
    exact bw_loc (lvL g x M i) ⟨rfl, rfl, rfl, rfl, rfl, trivial⟩ (kk _ _ hL2)
  · have hk0 : k = 0 := (xn_eq0 (by omega)).mp c
    obtain ⟨f, hf, hf0⟩ := hO hk0
    refine bw_aload_n 777 dL_law_776 rfl rfl ?_
    refine bw_iconst (0) 778 dL_law_777 (by decide) rfl ?_
    refine bw_lald 779 dL_law_778 rfl (hO2.trans hf) (vp_in_nI (n := 0) (N := 1) (by decide) (by decide)) ?_
    refine bw_iload 781 dL_law_779 rfl rfl ?_
    refine bw_i2l 782 dL_law_781 rfl ?_
    refine bw_lcmp 783 dL_law_782 rfl ?_
    refine bw_if_eq 788 786 dL_law_783 rfl rfl (fun _ => ?_) (fun c => absurd (show lg_cmp (f 0) y.toInt64 = 0 by rw [hyv hk0, hf0]; exact lg_same _) c)
    refine bw_goto 2499 dL_law_788 rfl ?_
    exact bw_loc (lvL g x M i) ⟨rfl, rfl, rfl, rfl, rfl, trivial⟩ (kk _ _ hL2)
set_option maxHeartbeats 1000000 in
theorem lc_powers (g : bw_G) {R : Room} {Q : bw_O → bw_H → Prop} {cu su i x M n p gg th : Nat} {A : bw_H} (hG : GFg n p gg) (hxM : x + 57 + 2 * n ≤ M) (hfr : 10 ≤ R.frames) (hlo : 1200 ≤ R.locals) (hcu : cu + 20 ≤ R.cells) (hsu : su + 200 ≤ R.slots) (hi : i + 5 ≤ g.2.2.2.2.2.1) (hS : g.2.2.2.2.2.1 ≤ 2562) (hL : LI g x M n p gg th A)
    (kk : ∀ (A' : bw_H) (th' : Nat), LI g x M n p gg th' A' → bw_W g R mL_law Q (cu + 20) (su + 200) 2499 (lvL g x M i) [] A') : bw_W g R mL_law Q cu su 791 (lvL g x M i) [] A := by
  obtain ⟨fs, hb⟩ := hL.xo
  obtain ⟨k, v, J, hk, hJ1, hJ2, hX, hM⟩ := b_powers hG hxM hL (sv g i 1) (sv g i 2)
  have hk3 : k ≤ 3 := Nat.le_trans hk (by decide)
  refine bw_aload_n 792 dL_law_791 rfl rfl ?_
  refine bw_aload_n 793 dL_law_792 rfl rfl ?_
  refine bw_iload 795 dL_law_793 rfl rfl ?_
  refine bw_iconst (1) 796 dL_law_795 (by decide) rfl ?_
  refine bw_eqi (y := nI 1) rfl ?_
  refine bw_iadd 797 dL_law_796 rfl ?_
  refine bw_eqi (nI_add i 1) ?_
  refine bw_sld 798 dL_law_797 rfl (vp_in_nI (by omega) (by omega)) ?_
  refine bw_aload_n 799 dL_law_798 rfl rfl ?_
  refine bw_iload 801 dL_law_799 rfl rfl ?_
  refine bw_iconst (2) 802 dL_law_801 (by decide) rfl ?_
  refine bw_eqi (y := nI 2) rfl ?_
  refine bw_iadd 803 dL_law_802 rfl ?_
  refine bw_eqi (nI_add i 2) ?_
  refine bw_sld 804 dL_law_803 rfl (vp_in_nI (by omega) (by omega)) ?_
  refine bw_aload_n 805 dL_law_804 rfl rfl ?_
  refine bw_callH 808 dL_law_805 rfl hL_188 (w_powers g hb hk hJ1 (fun A1 h => (hJ2 A1 h).1.1) hX) rfl rfl (Nat.le_of_ble_eq_true rfl) ⟨Nat.le_trans (Nat.le_of_ble_eq_true rfl) hfr, Nat.le_trans (Nat.le_of_ble_eq_true rfl) hlo⟩ hcu hsu (fun E A1 h => by obtain ⟨x, h, -⟩ := h; cases h) (fun v' A1 h => ?_)
  obtain ⟨y, hv, rfl, hJ, hO⟩ := h
  have hv := Sum.inl.inj hv
  subst hv
  obtain ⟨-, fm, hbM⟩ := hJ2 A1 hJ
  refine bw_istore 810 dL_law_808 rfl (by decide) ?_
  refine bw_aload_n 811 dL_law_810 rfl rfl ?_
  refine bw_aload_n 812 dL_law_811 rfl rfl ?_
  refine bw_iload 814 dL_law_812 rfl rfl ?_
  refine bw_iconst (1) 815 dL_law_814 (by decide) rfl ?_
  refine bw_eqi (y := nI 1) rfl ?_
  refine bw_iadd 816 dL_law_815 rfl ?_
  refine bw_eqi (nI_add i 1) ?_
  refine bw_sld 817 dL_law_816 rfl (vp_in_nI (by omega) (by omega)) ?_
  refine bw_aload_n 818 dL_law_817 rfl rfl ?_
  refine bw_iload 820 dL_law_818 rfl rfl ?_
  refine bw_iconst (2) 821 dL_law_820 (by decide) rfl ?_
  refine bw_eqi (y := nI 2) rfl ?_
  refine bw_iadd 822 dL_law_821 rfl ?_
  refine bw_eqi (nI_add i 2) ?_
  refine bw_sld 823 dL_law_822 rfl (vp_in_nI (by omega) (by omega)) ?_
  refine bw_callV 826 dL_law_823 rfl vL_190 (hM A1 hJ) hbM rfl rfl (Nat.le_of_ble_eq_true rfl) ⟨Nat.le_trans (Nat.le_of_ble_eq_true rfl) hfr, Nat.le_trans (Nat.le_of_ble_eq_true rfl) hlo⟩ hcu hsu (fun E A2 h => by obtain ⟨x, h, -⟩ := h; cases h) (fun v' A2 h => ?_)
  obtain ⟨y, hv, hyv, hL2, hO2⟩ := h
  have hv := Sum.inl.inj hv
  subst hv
  refine bw_istore 828 dL_law_826 rfl (by decide) ?_
  refine bw_aload_n 829 dL_law_828 rfl rfl ?_
  obtain ⟨rn, mn, pn, sn, rd, rs, pt, hmd⟩ := hL2.md
  refine bw_cVi 832 dL_law_829 rfl vL_156 (m_thrown g (bw_has.one hmd)) hmd rfl rfl (Nat.le_of_ble_eq_true rfl) ⟨Nat.le_trans (Nat.le_of_ble_eq_true rfl) hfr, Nat.le_trans (Nat.le_of_ble_eq_true rfl) hlo⟩ hcu hsu ?_
  refine bw_iload 834 dL_law_832 rfl rfl ?_
  refine bw_icmp_eq 839 837 dL_law_834 rfl rfl (fun _ => ?_) (fun c => absurd rfl c)
  refine bw_iload 841 dL_law_839 rfl rfl ?_
  refine bw_if_ne 856 844 dL_law_841 rfl rfl (fun c => ?_) (fun c => ?_)
  · refine bw_goto 2499 dL_law_856 rfl ?_
    exact bw_loc (lvL g x M i) ⟨rfl, rfl, rfl, rfl, rfl, trivial⟩ (kk _ _ hL2)
  · have hk0 : k = 0 := (xn_eq0 (by omega)).mp c
    obtain ⟨f, hf, hf0⟩ := hO hk0
    refine bw_aload_n 845 dL_law_844 rfl rfl ?_
    refine bw_iconst (0) 846 dL_law_845 (by decide) rfl ?_
    refine bw_lald 847 dL_law_846 rfl (hO2.trans hf) (vp_in_nI (n := 0) (N := 1) (by decide) (by decide)) ?_
    refine bw_iload 849 dL_law_847 rfl rfl ?_
    refine bw_i2l 850 dL_law_849 rfl ?_
    refine bw_lcmp 851 dL_law_850 rfl ?_
    refine bw_if_eq 856 854 dL_law_851 rfl rfl (fun _ => ?_) (fun c => absurd (show lg_cmp (f 0) y.toInt64 = 0 by rw [hyv hk0, hf0]; exact lg_same _) c)
    refine bw_goto 2499 dL_law_856 rfl ?_
    exact bw_loc (lvL g x M i) ⟨rfl, rfl, rfl, rfl, rfl, trivial⟩ (kk _ _ hL2)
set_option maxHeartbeats 1000000 in
theorem lc_sums (g : bw_G) {R : Room} {Q : bw_O → bw_H → Prop} {cu su i x M n p gg th : Nat} {A : bw_H} (hG : GFg n p gg) (hxM : x + 57 + 2 * n ≤ M) (hfr : 10 ≤ R.frames) (hlo : 1200 ≤ R.locals) (hcu : cu + 20 ≤ R.cells) (hsu : su + 200 ≤ R.slots) (hi : i + 5 ≤ g.2.2.2.2.2.1) (hS : g.2.2.2.2.2.1 ≤ 2562) (hL : LI g x M n p gg th A)
    (kk : ∀ (A' : bw_H) (th' : Nat), LI g x M n p gg th' A' → bw_W g R mL_law Q (cu + 20) (su + 200) 2499 (lvL g x M i) [] A') : bw_W g R mL_law Q cu su 859 (lvL g x M i) [] A := by
  obtain ⟨fs, hb⟩ := hL.xo
  obtain ⟨k, v, J, hk, hJ1, hJ2, hX, hM⟩ := b_sums hG hxM hL (sv g i 1) (sv g i 2)
  have hk3 : k ≤ 3 := Nat.le_trans hk (by decide)
  refine bw_aload_n 860 dL_law_859 rfl rfl ?_
  refine bw_aload_n 861 dL_law_860 rfl rfl ?_
  refine bw_iload 863 dL_law_861 rfl rfl ?_
  refine bw_iconst (1) 864 dL_law_863 (by decide) rfl ?_
  refine bw_eqi (y := nI 1) rfl ?_
  refine bw_iadd 865 dL_law_864 rfl ?_
  refine bw_eqi (nI_add i 1) ?_
  refine bw_sld 866 dL_law_865 rfl (vp_in_nI (by omega) (by omega)) ?_
  refine bw_aload_n 867 dL_law_866 rfl rfl ?_
  refine bw_iload 869 dL_law_867 rfl rfl ?_
  refine bw_iconst (2) 870 dL_law_869 (by decide) rfl ?_
  refine bw_eqi (y := nI 2) rfl ?_
  refine bw_iadd 871 dL_law_870 rfl ?_
  refine bw_eqi (nI_add i 2) ?_
  refine bw_sld 872 dL_law_871 rfl (vp_in_nI (by omega) (by omega)) ?_
  refine bw_aload_n 873 dL_law_872 rfl rfl ?_
  refine bw_callH 876 dL_law_873 rfl hL_191 (w_sums g hb hk hJ1 (fun A1 h => (hJ2 A1 h).1.1) hX) rfl rfl (Nat.le_of_ble_eq_true rfl) ⟨Nat.le_trans (Nat.le_of_ble_eq_true rfl) hfr, Nat.le_trans (Nat.le_of_ble_eq_true rfl) hlo⟩ hcu hsu (fun E A1 h => by obtain ⟨x, h, -⟩ := h; cases h) (fun v' A1 h => ?_)
  obtain ⟨y, hv, rfl, hJ, hO⟩ := h
  have hv := Sum.inl.inj hv
  subst hv
  obtain ⟨-, fm, hbM⟩ := hJ2 A1 hJ
  refine bw_istore 878 dL_law_876 rfl (by decide) ?_
  refine bw_aload_n 879 dL_law_878 rfl rfl ?_
  refine bw_aload_n 880 dL_law_879 rfl rfl ?_
  refine bw_iload 882 dL_law_880 rfl rfl ?_
  refine bw_iconst (1) 883 dL_law_882 (by decide) rfl ?_
  refine bw_eqi (y := nI 1) rfl ?_
  refine bw_iadd 884 dL_law_883 rfl ?_
  refine bw_eqi (nI_add i 1) ?_
  refine bw_sld 885 dL_law_884 rfl (vp_in_nI (by omega) (by omega)) ?_
  refine bw_aload_n 886 dL_law_885 rfl rfl ?_
  refine bw_iload 888 dL_law_886 rfl rfl ?_
  refine bw_iconst (2) 889 dL_law_888 (by decide) rfl ?_
  refine bw_eqi (y := nI 2) rfl ?_
  refine bw_iadd 890 dL_law_889 rfl ?_
  refine bw_eqi (nI_add i 2) ?_
  refine bw_sld 891 dL_law_890 rfl (vp_in_nI (by omega) (by omega)) ?_
  refine bw_callV 894 dL_law_891 rfl vL_193 (hM A1 hJ) hbM rfl rfl (Nat.le_of_ble_eq_true rfl) ⟨Nat.le_trans (Nat.le_of_ble_eq_true rfl) hfr, Nat.le_trans (Nat.le_of_ble_eq_true rfl) hlo⟩ hcu hsu (fun E A2 h => by obtain ⟨x, h, -⟩ := h; cases h) (fun v' A2 h => ?_)
  obtain ⟨y, hv, hyv, hL2, hO2⟩ := h
  have hv := Sum.inl.inj hv
  subst hv
  refine bw_istore 896 dL_law_894 rfl (by decide) ?_
  refine bw_aload_n 897 dL_law_896 rfl rfl ?_
  obtain ⟨rn, mn, pn, sn, rd, rs, pt, hmd⟩ := hL2.md
  refine bw_cVi 900 dL_law_897 rfl vL_156 (m_thrown g (bw_has.one hmd)) hmd rfl rfl (Nat.le_of_ble_eq_true rfl) ⟨Nat.le_trans (Nat.le_of_ble_eq_true rfl) hfr, Nat.le_trans (Nat.le_of_ble_eq_true rfl) hlo⟩ hcu hsu ?_
  refine bw_iload 902 dL_law_900 rfl rfl ?_
  refine bw_icmp_eq 907 905 dL_law_902 rfl rfl (fun _ => ?_) (fun c => absurd rfl c)
  refine bw_iload 909 dL_law_907 rfl rfl ?_
  refine bw_if_ne 924 912 dL_law_909 rfl rfl (fun c => ?_) (fun c => ?_)
  · refine bw_goto 2499 dL_law_924 rfl ?_
    exact bw_loc (lvL g x M i) ⟨rfl, rfl, rfl, rfl, rfl, trivial⟩ (kk _ _ hL2)
  · have hk0 : k = 0 := (xn_eq0 (by omega)).mp c
    obtain ⟨f, hf, hf0⟩ := hO hk0
    refine bw_aload_n 913 dL_law_912 rfl rfl ?_
    refine bw_iconst (0) 914 dL_law_913 (by decide) rfl ?_
    refine bw_lald 915 dL_law_914 rfl (hO2.trans hf) (vp_in_nI (n := 0) (N := 1) (by decide) (by decide)) ?_
    refine bw_iload 917 dL_law_915 rfl rfl ?_
    refine bw_i2l 918 dL_law_917 rfl ?_
    refine bw_lcmp 919 dL_law_918 rfl ?_
    refine bw_if_eq 924 922 dL_law_919 rfl rfl (fun _ => ?_) (fun c => absurd (show lg_cmp (f 0) y.toInt64 = 0 by rw [hyv hk0, hf0]; exact lg_same _) c)
    refine bw_goto 2499 dL_law_924 rfl ?_
    exact bw_loc (lvL g x M i) ⟨rfl, rfl, rfl, rfl, rfl, trivial⟩ (kk _ _ hL2)
set_option maxHeartbeats 1000000 in
theorem lc_size (g : bw_G) {R : Room} {Q : bw_O → bw_H → Prop} {cu su i x M n p gg th : Nat} {A : bw_H} (hG : GFg n p gg) (hxM : x + 57 + 2 * n ≤ M) (hfr : 10 ≤ R.frames) (hlo : 1200 ≤ R.locals) (hcu : cu + 20 ≤ R.cells) (hsu : su + 200 ≤ R.slots) (hi : i + 5 ≤ g.2.2.2.2.2.1) (hS : g.2.2.2.2.2.1 ≤ 2562) (hL : LI g x M n p gg th A)
    (kk : ∀ (A' : bw_H) (th' : Nat), LI g x M n p gg th' A' → bw_W g R mL_law Q (cu + 20) (su + 200) 2499 (lvL g x M i) [] A') : bw_W g R mL_law Q cu su 927 (lvL g x M i) [] A := by
  obtain ⟨fs, hb⟩ := hL.xo
  obtain ⟨k, v, J, hk, hJ1, hJ2, hX, hM⟩ := b_size hG hxM hL (sv g i 1) (sv g i 2)
  have hk3 : k ≤ 3 := Nat.le_trans hk (by decide)
  refine bw_aload_n 928 dL_law_927 rfl rfl ?_
  refine bw_aload_n 929 dL_law_928 rfl rfl ?_
  refine bw_iload 931 dL_law_929 rfl rfl ?_
  refine bw_iconst (1) 932 dL_law_931 (by decide) rfl ?_
  refine bw_eqi (y := nI 1) rfl ?_
  refine bw_iadd 933 dL_law_932 rfl ?_
  refine bw_eqi (nI_add i 1) ?_
  refine bw_sld 934 dL_law_933 rfl (vp_in_nI (by omega) (by omega)) ?_
  refine bw_aload_n 935 dL_law_934 rfl rfl ?_
  refine bw_iload 937 dL_law_935 rfl rfl ?_
  refine bw_iconst (2) 938 dL_law_937 (by decide) rfl ?_
  refine bw_eqi (y := nI 2) rfl ?_
  refine bw_iadd 939 dL_law_938 rfl ?_
  refine bw_eqi (nI_add i 2) ?_
  refine bw_sld 940 dL_law_939 rfl (vp_in_nI (by omega) (by omega)) ?_
  refine bw_aload_n 941 dL_law_940 rfl rfl ?_
  refine bw_callH 944 dL_law_941 rfl hL_194 (w_size g hb hk hJ1 (fun A1 h => (hJ2 A1 h).1.1) hX) rfl rfl (Nat.le_of_ble_eq_true rfl) ⟨Nat.le_trans (Nat.le_of_ble_eq_true rfl) hfr, Nat.le_trans (Nat.le_of_ble_eq_true rfl) hlo⟩ hcu hsu (fun E A1 h => by obtain ⟨x, h, -⟩ := h; cases h) (fun v' A1 h => ?_)
  obtain ⟨y, hv, rfl, hJ, hO⟩ := h
  have hv := Sum.inl.inj hv
  subst hv
  obtain ⟨-, fm, hbM⟩ := hJ2 A1 hJ
  refine bw_istore 946 dL_law_944 rfl (by decide) ?_
  refine bw_aload_n 947 dL_law_946 rfl rfl ?_
  refine bw_aload_n 948 dL_law_947 rfl rfl ?_
  refine bw_iload 950 dL_law_948 rfl rfl ?_
  refine bw_iconst (1) 951 dL_law_950 (by decide) rfl ?_
  refine bw_eqi (y := nI 1) rfl ?_
  refine bw_iadd 952 dL_law_951 rfl ?_
  refine bw_eqi (nI_add i 1) ?_
  refine bw_sld 953 dL_law_952 rfl (vp_in_nI (by omega) (by omega)) ?_
  refine bw_aload_n 954 dL_law_953 rfl rfl ?_
  refine bw_iload 956 dL_law_954 rfl rfl ?_
  refine bw_iconst (2) 957 dL_law_956 (by decide) rfl ?_
  refine bw_eqi (y := nI 2) rfl ?_
  refine bw_iadd 958 dL_law_957 rfl ?_
  refine bw_eqi (nI_add i 2) ?_
  refine bw_sld 959 dL_law_958 rfl (vp_in_nI (by omega) (by omega)) ?_
  refine bw_callV 962 dL_law_959 rfl vL_196 (hM A1 hJ) hbM rfl rfl (Nat.le_of_ble_eq_true rfl) ⟨Nat.le_trans (Nat.le_of_ble_eq_true rfl) hfr, Nat.le_trans (Nat.le_of_ble_eq_true rfl) hlo⟩ hcu hsu (fun E A2 h => by obtain ⟨x, h, -⟩ := h; cases h) (fun v' A2 h => ?_)
  obtain ⟨y, hv, hyv, hL2, hO2⟩ := h
  have hv := Sum.inl.inj hv
  subst hv
  refine bw_istore 964 dL_law_962 rfl (by decide) ?_
  refine bw_aload_n 965 dL_law_964 rfl rfl ?_
  obtain ⟨rn, mn, pn, sn, rd, rs, pt, hmd⟩ := hL2.md
  refine bw_cVi 968 dL_law_965 rfl vL_156 (m_thrown g (bw_has.one hmd)) hmd rfl rfl (Nat.le_of_ble_eq_true rfl) ⟨Nat.le_trans (Nat.le_of_ble_eq_true rfl) hfr, Nat.le_trans (Nat.le_of_ble_eq_true rfl) hlo⟩ hcu hsu ?_
  refine bw_iload 970 dL_law_968 rfl rfl ?_
  refine bw_icmp_eq 975 973 dL_law_970 rfl rfl (fun _ => ?_) (fun c => absurd rfl c)
  refine bw_iload 977 dL_law_975 rfl rfl ?_
  refine bw_if_ne 992 980 dL_law_977 rfl rfl (fun c => ?_) (fun c => ?_)
  · refine bw_goto 2499 dL_law_992 rfl ?_
    exact bw_loc (lvL g x M i) ⟨rfl, rfl, rfl, rfl, rfl, trivial⟩ (kk _ _ hL2)
  · have hk0 : k = 0 := (xn_eq0 (by omega)).mp c
    obtain ⟨f, hf, hf0⟩ := hO hk0
    refine bw_aload_n 981 dL_law_980 rfl rfl ?_
    refine bw_iconst (0) 982 dL_law_981 (by decide) rfl ?_
    refine bw_lald 983 dL_law_982 rfl (hO2.trans hf) (vp_in_nI (n := 0) (N := 1) (by decide) (by decide)) ?_
    refine bw_iload 985 dL_law_983 rfl rfl ?_
    refine bw_i2l 986 dL_law_985 rfl ?_
    refine bw_lcmp 987 dL_law_986 rfl ?_
    refine bw_if_eq 992 990 dL_law_987 rfl rfl (fun _ => ?_) (fun c => absurd (show lg_cmp (f 0) y.toInt64 = 0 by rw [hyv hk0, hf0]; exact lg_same _) c)
    refine bw_goto 2499 dL_law_992 rfl ?_
    exact bw_loc (lvL g x M i) ⟨rfl, rfl, rfl, rfl, rfl, trivial⟩ (kk _ _ hL2)
set_option maxHeartbeats 1000000 in
theorem lc_cell (g : bw_G) {R : Room} {Q : bw_O → bw_H → Prop} {cu su i x M n p gg th : Nat} {A : bw_H} (hG : GFg n p gg) (hxM : x + 57 + 2 * n ≤ M) (hfr : 10 ≤ R.frames) (hlo : 1200 ≤ R.locals) (hcu : cu + 20 ≤ R.cells) (hsu : su + 200 ≤ R.slots) (hi : i + 5 ≤ g.2.2.2.2.2.1) (hS : g.2.2.2.2.2.1 ≤ 2562) (hL : LI g x M n p gg th A)
    (kk : ∀ (A' : bw_H) (th' : Nat), LI g x M n p gg th' A' → bw_W g R mL_law Q (cu + 20) (su + 200) 2499 (lvL g x M i) [] A') : bw_W g R mL_law Q cu su 995 (lvL g x M i) [] A := by
  obtain ⟨fs, hb⟩ := hL.xo
  obtain ⟨k, v, J, hk, hJ1, hJ2, hX, hM⟩ := b_cell hG hxM hL (sv g i 1) (sv g i 2) (sv g i 3)
  have hk3 : k ≤ 3 := Nat.le_trans hk (by decide)
  refine bw_aload_n 996 dL_law_995 rfl rfl ?_
  refine bw_aload_n 997 dL_law_996 rfl rfl ?_
  refine bw_iload 999 dL_law_997 rfl rfl ?_
  refine bw_iconst (1) 1000 dL_law_999 (by decide) rfl ?_
  refine bw_eqi (y := nI 1) rfl ?_
  refine bw_iadd 1001 dL_law_1000 rfl ?_
  refine bw_eqi (nI_add i 1) ?_
  refine bw_sld 1002 dL_law_1001 rfl (vp_in_nI (by omega) (by omega)) ?_
  refine bw_aload_n 1003 dL_law_1002 rfl rfl ?_
  refine bw_iload 1005 dL_law_1003 rfl rfl ?_
  refine bw_iconst (2) 1006 dL_law_1005 (by decide) rfl ?_
  refine bw_eqi (y := nI 2) rfl ?_
  refine bw_iadd 1007 dL_law_1006 rfl ?_
  refine bw_eqi (nI_add i 2) ?_
  refine bw_sld 1008 dL_law_1007 rfl (vp_in_nI (by omega) (by omega)) ?_
  refine bw_aload_n 1009 dL_law_1008 rfl rfl ?_
  refine bw_iload 1011 dL_law_1009 rfl rfl ?_
  refine bw_iconst (3) 1012 dL_law_1011 (by decide) rfl ?_
  refine bw_eqi (y := nI 3) rfl ?_
  refine bw_iadd 1013 dL_law_1012 rfl ?_
  refine bw_eqi (nI_add i 3) ?_
  refine bw_sld 1014 dL_law_1013 rfl (vp_in_nI (by omega) (by omega)) ?_
  refine bw_aload_n 1015 dL_law_1014 rfl rfl ?_
  refine bw_callH 1018 dL_law_1015 rfl hL_197 (w_cell_ g hb hk hJ1 (fun A1 h => (hJ2 A1 h).1.1) hX) rfl rfl (Nat.le_of_ble_eq_true rfl) ⟨Nat.le_trans (Nat.le_of_ble_eq_true rfl) hfr, Nat.le_trans (Nat.le_of_ble_eq_true rfl) hlo⟩ hcu hsu (fun E A1 h => by obtain ⟨x, h, -⟩ := h; cases h) (fun v' A1 h => ?_)
  obtain ⟨y, hv, rfl, hJ, hO⟩ := h
  have hv := Sum.inl.inj hv
  subst hv
  obtain ⟨-, fm, hbM⟩ := hJ2 A1 hJ
  refine bw_istore 1020 dL_law_1018 rfl (by decide) ?_
  refine bw_aload_n 1021 dL_law_1020 rfl rfl ?_
  refine bw_aload_n 1022 dL_law_1021 rfl rfl ?_
  refine bw_iload 1024 dL_law_1022 rfl rfl ?_
  refine bw_iconst (1) 1025 dL_law_1024 (by decide) rfl ?_
  refine bw_eqi (y := nI 1) rfl ?_
  refine bw_iadd 1026 dL_law_1025 rfl ?_
  refine bw_eqi (nI_add i 1) ?_
  refine bw_sld 1027 dL_law_1026 rfl (vp_in_nI (by omega) (by omega)) ?_
  refine bw_aload_n 1028 dL_law_1027 rfl rfl ?_
  refine bw_iload 1030 dL_law_1028 rfl rfl ?_
  refine bw_iconst (2) 1031 dL_law_1030 (by decide) rfl ?_
  refine bw_eqi (y := nI 2) rfl ?_
  refine bw_iadd 1032 dL_law_1031 rfl ?_
  refine bw_eqi (nI_add i 2) ?_
  refine bw_sld 1033 dL_law_1032 rfl (vp_in_nI (by omega) (by omega)) ?_
  refine bw_aload_n 1034 dL_law_1033 rfl rfl ?_
  refine bw_iload 1036 dL_law_1034 rfl rfl ?_
  refine bw_iconst (3) 1037 dL_law_1036 (by decide) rfl ?_
  refine bw_eqi (y := nI 3) rfl ?_
  refine bw_iadd 1038 dL_law_1037 rfl ?_
  refine bw_eqi (nI_add i 3) ?_
  refine bw_sld 1039 dL_law_1038 rfl (vp_in_nI (by omega) (by omega)) ?_
  refine bw_callV 1042 dL_law_1039 rfl vL_200 (hM A1 hJ) hbM rfl rfl (Nat.le_of_ble_eq_true rfl) ⟨Nat.le_trans (Nat.le_of_ble_eq_true rfl) hfr, Nat.le_trans (Nat.le_of_ble_eq_true rfl) hlo⟩ hcu hsu (fun E A2 h => by obtain ⟨x, h, -⟩ := h; cases h) (fun v' A2 h => ?_)
  obtain ⟨y, hv, hyv, hL2, hO2⟩ := h
  have hv := Sum.inl.inj hv
  subst hv
  refine bw_istore 1044 dL_law_1042 rfl (by decide) ?_
  refine bw_aload_n 1045 dL_law_1044 rfl rfl ?_
  obtain ⟨rn, mn, pn, sn, rd, rs, pt, hmd⟩ := hL2.md
  refine bw_cVi 1048 dL_law_1045 rfl vL_156 (m_thrown g (bw_has.one hmd)) hmd rfl rfl (Nat.le_of_ble_eq_true rfl) ⟨Nat.le_trans (Nat.le_of_ble_eq_true rfl) hfr, Nat.le_trans (Nat.le_of_ble_eq_true rfl) hlo⟩ hcu hsu ?_
  refine bw_iload 1050 dL_law_1048 rfl rfl ?_
  refine bw_icmp_eq 1055 1053 dL_law_1050 rfl rfl (fun _ => ?_) (fun c => absurd rfl c)
  refine bw_iload 1057 dL_law_1055 rfl rfl ?_
  refine bw_if_ne 1072 1060 dL_law_1057 rfl rfl (fun c => ?_) (fun c => ?_)
  · refine bw_goto 2499 dL_law_1072 rfl ?_
    exact bw_loc (lvL g x M i) ⟨rfl, rfl, rfl, rfl, rfl, trivial⟩ (kk _ _ hL2)
  · have hk0 : k = 0 := (xn_eq0 (by omega)).mp c
    obtain ⟨f, hf, hf0⟩ := hO hk0
    refine bw_aload_n 1061 dL_law_1060 rfl rfl ?_
    refine bw_iconst (0) 1062 dL_law_1061 (by decide) rfl ?_
    refine bw_lald 1063 dL_law_1062 rfl (hO2.trans hf) (vp_in_nI (n := 0) (N := 1) (by decide) (by decide)) ?_
    refine bw_iload 1065 dL_law_1063 rfl rfl ?_
    refine bw_i2l 1066 dL_law_1065 rfl ?_
    refine bw_lcmp 1067 dL_law_1066 rfl ?_
    refine bw_if_eq 1072 1070 dL_law_1067 rfl rfl (fun _ => ?_) (fun c => absurd (show lg_cmp (f 0) y.toInt64 = 0 by rw [hyv hk0, hf0]; exact lg_same _) c)
    refine bw_goto 2499 dL_law_1072 rfl ?_
    exact bw_loc (lvL g x M i) ⟨rfl, rfl, rfl, rfl, rfl, trivial⟩ (kk _ _ hL2)
set_option maxHeartbeats 1000000 in
theorem lc_set (g : bw_G) {R : Room} {Q : bw_O → bw_H → Prop} {cu su i x M n p gg th : Nat} {A : bw_H} (hG : GFg n p gg) (hxM : x + 57 + 2 * n ≤ M) (hfr : 10 ≤ R.frames) (hlo : 1200 ≤ R.locals) (hcu : cu + 20 ≤ R.cells) (hsu : su + 200 ≤ R.slots) (hi : i + 5 ≤ g.2.2.2.2.2.1) (hS : g.2.2.2.2.2.1 ≤ 2562) (hL : LI g x M n p gg th A)
    (kk : ∀ (A' : bw_H) (th' : Nat), LI g x M n p gg th' A' → bw_W g R mL_law Q (cu + 20) (su + 200) 2499 (lvL g x M i) [] A') : bw_W g R mL_law Q cu su 1075 (lvL g x M i) [] A := by
  obtain ⟨fs, hb⟩ := hL.xo
  obtain ⟨k, v, J, hk, hJ1, hJ2, hX, hM⟩ := b_set hG hxM hL (sv g i 1) (sv g i 2) (sv g i 3) (sv g i 4)
  have hk3 : k ≤ 3 := Nat.le_trans hk (by decide)
  refine bw_aload_n 1076 dL_law_1075 rfl rfl ?_
  refine bw_aload_n 1077 dL_law_1076 rfl rfl ?_
  refine bw_iload 1079 dL_law_1077 rfl rfl ?_
  refine bw_iconst (1) 1080 dL_law_1079 (by decide) rfl ?_
  refine bw_eqi (y := nI 1) rfl ?_
  refine bw_iadd 1081 dL_law_1080 rfl ?_
  refine bw_eqi (nI_add i 1) ?_
  refine bw_sld 1082 dL_law_1081 rfl (vp_in_nI (by omega) (by omega)) ?_
  refine bw_aload_n 1083 dL_law_1082 rfl rfl ?_
  refine bw_iload 1085 dL_law_1083 rfl rfl ?_
  refine bw_iconst (2) 1086 dL_law_1085 (by decide) rfl ?_
  refine bw_eqi (y := nI 2) rfl ?_
  refine bw_iadd 1087 dL_law_1086 rfl ?_
  refine bw_eqi (nI_add i 2) ?_
  refine bw_sld 1088 dL_law_1087 rfl (vp_in_nI (by omega) (by omega)) ?_
  refine bw_aload_n 1089 dL_law_1088 rfl rfl ?_
  refine bw_iload 1091 dL_law_1089 rfl rfl ?_
  refine bw_iconst (3) 1092 dL_law_1091 (by decide) rfl ?_
  refine bw_eqi (y := nI 3) rfl ?_
  refine bw_iadd 1093 dL_law_1092 rfl ?_
  refine bw_eqi (nI_add i 3) ?_
  refine bw_sld 1094 dL_law_1093 rfl (vp_in_nI (by omega) (by omega)) ?_
  refine bw_aload_n 1095 dL_law_1094 rfl rfl ?_
  refine bw_iload 1097 dL_law_1095 rfl rfl ?_
  refine bw_iconst (4) 1098 dL_law_1097 (by decide) rfl ?_
  refine bw_eqi (y := nI 4) rfl ?_
  refine bw_iadd 1099 dL_law_1098 rfl ?_
  refine bw_eqi (nI_add i 4) ?_
  refine bw_sld 1100 dL_law_1099 rfl (vp_in_nI (by omega) (by omega)) ?_
  refine bw_aload_n 1101 dL_law_1100 rfl rfl ?_
  refine bw_callH 1104 dL_law_1101 rfl hL_201 (w_set g hb hk hJ1 (fun A1 h => (hJ2 A1 h).1.1) hX) rfl rfl (Nat.le_of_ble_eq_true rfl) ⟨Nat.le_trans (Nat.le_of_ble_eq_true rfl) hfr, Nat.le_trans (Nat.le_of_ble_eq_true rfl) hlo⟩ hcu hsu (fun E A1 h => by obtain ⟨x, h, -⟩ := h; cases h) (fun v' A1 h => ?_)
  obtain ⟨y, hv, rfl, hJ, hO⟩ := h
  have hv := Sum.inl.inj hv
  subst hv
  obtain ⟨-, fm, hbM⟩ := hJ2 A1 hJ
  refine bw_istore 1106 dL_law_1104 rfl (by decide) ?_
  refine bw_aload_n 1107 dL_law_1106 rfl rfl ?_
  refine bw_aload_n 1108 dL_law_1107 rfl rfl ?_
  refine bw_iload 1110 dL_law_1108 rfl rfl ?_
  refine bw_iconst (1) 1111 dL_law_1110 (by decide) rfl ?_
  refine bw_eqi (y := nI 1) rfl ?_
  refine bw_iadd 1112 dL_law_1111 rfl ?_
  refine bw_eqi (nI_add i 1) ?_
  refine bw_sld 1113 dL_law_1112 rfl (vp_in_nI (by omega) (by omega)) ?_
  refine bw_aload_n 1114 dL_law_1113 rfl rfl ?_
  refine bw_iload 1116 dL_law_1114 rfl rfl ?_
  refine bw_iconst (2) 1117 dL_law_1116 (by decide) rfl ?_
  refine bw_eqi (y := nI 2) rfl ?_
  refine bw_iadd 1118 dL_law_1117 rfl ?_
  refine bw_eqi (nI_add i 2) ?_
  refine bw_sld 1119 dL_law_1118 rfl (vp_in_nI (by omega) (by omega)) ?_
  refine bw_aload_n 1120 dL_law_1119 rfl rfl ?_
  refine bw_iload 1122 dL_law_1120 rfl rfl ?_
  refine bw_iconst (3) 1123 dL_law_1122 (by decide) rfl ?_
  refine bw_eqi (y := nI 3) rfl ?_
  refine bw_iadd 1124 dL_law_1123 rfl ?_
  refine bw_eqi (nI_add i 3) ?_
  refine bw_sld 1125 dL_law_1124 rfl (vp_in_nI (by omega) (by omega)) ?_
  refine bw_aload_n 1126 dL_law_1125 rfl rfl ?_
  refine bw_iload 1128 dL_law_1126 rfl rfl ?_
  refine bw_iconst (4) 1129 dL_law_1128 (by decide) rfl ?_
  refine bw_eqi (y := nI 4) rfl ?_
  refine bw_iadd 1130 dL_law_1129 rfl ?_
  refine bw_eqi (nI_add i 4) ?_
  refine bw_sld 1131 dL_law_1130 rfl (vp_in_nI (by omega) (by omega)) ?_
  refine bw_callV 1134 dL_law_1131 rfl vL_204 (hM A1 hJ) hbM rfl rfl (Nat.le_of_ble_eq_true rfl) ⟨Nat.le_trans (Nat.le_of_ble_eq_true rfl) hfr, Nat.le_trans (Nat.le_of_ble_eq_true rfl) hlo⟩ hcu hsu (fun E A2 h => by obtain ⟨x, h, -⟩ := h; cases h) (fun v' A2 h => ?_)
  obtain ⟨y, hv, hyv, hL2, hO2⟩ := h
  have hv := Sum.inl.inj hv
  subst hv
  refine bw_istore 1136 dL_law_1134 rfl (by decide) ?_
  refine bw_aload_n 1137 dL_law_1136 rfl rfl ?_
  obtain ⟨rn, mn, pn, sn, rd, rs, pt, hmd⟩ := hL2.md
  refine bw_cVi 1140 dL_law_1137 rfl vL_156 (m_thrown g (bw_has.one hmd)) hmd rfl rfl (Nat.le_of_ble_eq_true rfl) ⟨Nat.le_trans (Nat.le_of_ble_eq_true rfl) hfr, Nat.le_trans (Nat.le_of_ble_eq_true rfl) hlo⟩ hcu hsu ?_
  refine bw_iload 1142 dL_law_1140 rfl rfl ?_
  refine bw_icmp_eq 1147 1145 dL_law_1142 rfl rfl (fun _ => ?_) (fun c => absurd rfl c)
  refine bw_iload 1149 dL_law_1147 rfl rfl ?_
  refine bw_if_ne 1164 1152 dL_law_1149 rfl rfl (fun c => ?_) (fun c => ?_)
  · refine bw_goto 2499 dL_law_1164 rfl ?_
    exact bw_loc (lvL g x M i) ⟨rfl, rfl, rfl, rfl, rfl, trivial⟩ (kk _ _ hL2)
  · have hk0 : k = 0 := (xn_eq0 (by omega)).mp c
    obtain ⟨f, hf, hf0⟩ := hO hk0
    refine bw_aload_n 1153 dL_law_1152 rfl rfl ?_
    refine bw_iconst (0) 1154 dL_law_1153 (by decide) rfl ?_
    refine bw_lald 1155 dL_law_1154 rfl (hO2.trans hf) (vp_in_nI (n := 0) (N := 1) (by decide) (by decide)) ?_
    refine bw_iload 1157 dL_law_1155 rfl rfl ?_
    refine bw_i2l 1158 dL_law_1157 rfl ?_
    refine bw_lcmp 1159 dL_law_1158 rfl ?_
    refine bw_if_eq 1164 1162 dL_law_1159 rfl rfl (fun _ => ?_) (fun c => absurd (show lg_cmp (f 0) y.toInt64 = 0 by rw [hyv hk0, hf0]; exact lg_same _) c)
    refine bw_goto 2499 dL_law_1164 rfl ?_
    exact bw_loc (lvL g x M i) ⟨rfl, rfl, rfl, rfl, rfl, trivial⟩ (kk _ _ hL2)
set_option maxHeartbeats 1000000 in
theorem lc_times (g : bw_G) {R : Room} {Q : bw_O → bw_H → Prop} {cu su i x M n p gg th : Nat} {A : bw_H} (hG : GFg n p gg) (hxM : x + 57 + 2 * n ≤ M) (hfr : 10 ≤ R.frames) (hlo : 1200 ≤ R.locals) (hcu : cu + 20 ≤ R.cells) (hsu : su + 200 ≤ R.slots) (hi : i + 5 ≤ g.2.2.2.2.2.1) (hS : g.2.2.2.2.2.1 ≤ 2562) (hL : LI g x M n p gg th A)
    (kk : ∀ (A' : bw_H) (th' : Nat), LI g x M n p gg th' A' → bw_W g R mL_law Q (cu + 20) (su + 200) 2499 (lvL g x M i) [] A') : bw_W g R mL_law Q cu su 1167 (lvL g x M i) [] A := by
  obtain ⟨fs, hb⟩ := hL.xo
  obtain ⟨k, v, J, hk, hJ1, hJ2, hX, hM⟩ := b_times hG hxM hL (sv g i 1) (sv g i 2)
  have hk3 : k ≤ 3 := Nat.le_trans hk (by decide)
  refine bw_aload_n 1168 dL_law_1167 rfl rfl ?_
  refine bw_aload_n 1169 dL_law_1168 rfl rfl ?_
  refine bw_iload 1171 dL_law_1169 rfl rfl ?_
  refine bw_iconst (1) 1172 dL_law_1171 (by decide) rfl ?_
  refine bw_eqi (y := nI 1) rfl ?_
  refine bw_iadd 1173 dL_law_1172 rfl ?_
  refine bw_eqi (nI_add i 1) ?_
  refine bw_sld 1174 dL_law_1173 rfl (vp_in_nI (by omega) (by omega)) ?_
  refine bw_aload_n 1175 dL_law_1174 rfl rfl ?_
  refine bw_iload 1177 dL_law_1175 rfl rfl ?_
  refine bw_iconst (2) 1178 dL_law_1177 (by decide) rfl ?_
  refine bw_eqi (y := nI 2) rfl ?_
  refine bw_iadd 1179 dL_law_1178 rfl ?_
  refine bw_eqi (nI_add i 2) ?_
  refine bw_sld 1180 dL_law_1179 rfl (vp_in_nI (by omega) (by omega)) ?_
  refine bw_aload_n 1181 dL_law_1180 rfl rfl ?_
  refine bw_callH 1184 dL_law_1181 rfl hL_205 (w_times g hb hk hJ1 (fun A1 h => (hJ2 A1 h).1.1) hX) rfl rfl (Nat.le_of_ble_eq_true rfl) ⟨Nat.le_trans (Nat.le_of_ble_eq_true rfl) hfr, Nat.le_trans (Nat.le_of_ble_eq_true rfl) hlo⟩ hcu hsu (fun E A1 h => by obtain ⟨x, h, -⟩ := h; cases h) (fun v' A1 h => ?_)
  obtain ⟨y, hv, rfl, hJ, hO⟩ := h
  have hv := Sum.inl.inj hv
  subst hv
  obtain ⟨-, fm, hbM⟩ := hJ2 A1 hJ
  refine bw_istore 1186 dL_law_1184 rfl (by decide) ?_
  refine bw_aload_n 1187 dL_law_1186 rfl rfl ?_
  refine bw_aload_n 1188 dL_law_1187 rfl rfl ?_
  refine bw_iload 1190 dL_law_1188 rfl rfl ?_
  refine bw_iconst (1) 1191 dL_law_1190 (by decide) rfl ?_
  refine bw_eqi (y := nI 1) rfl ?_
  refine bw_iadd 1192 dL_law_1191 rfl ?_
  refine bw_eqi (nI_add i 1) ?_
  refine bw_sld 1193 dL_law_1192 rfl (vp_in_nI (by omega) (by omega)) ?_
  refine bw_aload_n 1194 dL_law_1193 rfl rfl ?_
  refine bw_iload 1196 dL_law_1194 rfl rfl ?_
  refine bw_iconst (2) 1197 dL_law_1196 (by decide) rfl ?_
  refine bw_eqi (y := nI 2) rfl ?_
  refine bw_iadd 1198 dL_law_1197 rfl ?_
  refine bw_eqi (nI_add i 2) ?_
  refine bw_sld 1199 dL_law_1198 rfl (vp_in_nI (by omega) (by omega)) ?_
  refine bw_callV 1202 dL_law_1199 rfl vL_207 (hM A1 hJ) hbM rfl rfl (Nat.le_of_ble_eq_true rfl) ⟨Nat.le_trans (Nat.le_of_ble_eq_true rfl) hfr, Nat.le_trans (Nat.le_of_ble_eq_true rfl) hlo⟩ hcu hsu (fun E A2 h => by obtain ⟨x, h, -⟩ := h; cases h) (fun v' A2 h => ?_)
  obtain ⟨y, hv, hyv, hL2, hO2⟩ := h
  have hv := Sum.inl.inj hv
  subst hv
  refine bw_istore 1204 dL_law_1202 rfl (by decide) ?_
  refine bw_aload_n 1205 dL_law_1204 rfl rfl ?_
  obtain ⟨rn, mn, pn, sn, rd, rs, pt, hmd⟩ := hL2.md
  refine bw_cVi 1208 dL_law_1205 rfl vL_156 (m_thrown g (bw_has.one hmd)) hmd rfl rfl (Nat.le_of_ble_eq_true rfl) ⟨Nat.le_trans (Nat.le_of_ble_eq_true rfl) hfr, Nat.le_trans (Nat.le_of_ble_eq_true rfl) hlo⟩ hcu hsu ?_
  refine bw_iload 1210 dL_law_1208 rfl rfl ?_
  refine bw_icmp_eq 1215 1213 dL_law_1210 rfl rfl (fun _ => ?_) (fun c => absurd rfl c)
  refine bw_iload 1217 dL_law_1215 rfl rfl ?_
  refine bw_if_ne 1232 1220 dL_law_1217 rfl rfl (fun c => ?_) (fun c => ?_)
  · refine bw_goto 2499 dL_law_1232 rfl ?_
    exact bw_loc (lvL g x M i) ⟨rfl, rfl, rfl, rfl, rfl, trivial⟩ (kk _ _ hL2)
  · have hk0 : k = 0 := (xn_eq0 (by omega)).mp c
    obtain ⟨f, hf, hf0⟩ := hO hk0
    refine bw_aload_n 1221 dL_law_1220 rfl rfl ?_
    refine bw_iconst (0) 1222 dL_law_1221 (by decide) rfl ?_
    refine bw_lald 1223 dL_law_1222 rfl (hO2.trans hf) (vp_in_nI (n := 0) (N := 1) (by decide) (by decide)) ?_
    refine bw_iload 1225 dL_law_1223 rfl rfl ?_
    refine bw_i2l 1226 dL_law_1225 rfl ?_
    refine bw_lcmp 1227 dL_law_1226 rfl ?_
    refine bw_if_eq 1232 1230 dL_law_1227 rfl rfl (fun _ => ?_) (fun c => absurd (show lg_cmp (f 0) y.toInt64 = 0 by rw [hyv hk0, hf0]; exact lg_same _) c)
    refine bw_goto 2499 dL_law_1232 rfl ?_
    exact bw_loc (lvL g x M i) ⟨rfl, rfl, rfl, rfl, rfl, trivial⟩ (kk _ _ hL2)
set_option maxHeartbeats 1000000 in
theorem lc_invert (g : bw_G) {R : Room} {Q : bw_O → bw_H → Prop} {cu su i x M n p gg th : Nat} {A : bw_H} (hG : GFg n p gg) (hxM : x + 57 + 2 * n ≤ M) (hfr : 10 ≤ R.frames) (hlo : 1200 ≤ R.locals) (hcu : cu + 20 ≤ R.cells) (hsu : su + 200 ≤ R.slots) (hi : i + 5 ≤ g.2.2.2.2.2.1) (hS : g.2.2.2.2.2.1 ≤ 2562) (hL : LI g x M n p gg th A)
    (kk : ∀ (A' : bw_H) (th' : Nat), LI g x M n p gg th' A' → bw_W g R mL_law Q (cu + 20) (su + 200) 2499 (lvL g x M i) [] A') : bw_W g R mL_law Q cu su 1235 (lvL g x M i) [] A := by
  obtain ⟨fs, hb⟩ := hL.xo
  obtain ⟨k, v, J, hk, hJ1, hJ2, hX, hM⟩ := b_invert hG hxM hL (sv g i 1)
  have hk3 : k ≤ 3 := Nat.le_trans hk (by decide)
  refine bw_aload_n 1236 dL_law_1235 rfl rfl ?_
  refine bw_aload_n 1237 dL_law_1236 rfl rfl ?_
  refine bw_iload 1239 dL_law_1237 rfl rfl ?_
  refine bw_iconst (1) 1240 dL_law_1239 (by decide) rfl ?_
  refine bw_eqi (y := nI 1) rfl ?_
  refine bw_iadd 1241 dL_law_1240 rfl ?_
  refine bw_eqi (nI_add i 1) ?_
  refine bw_sld 1242 dL_law_1241 rfl (vp_in_nI (by omega) (by omega)) ?_
  refine bw_aload_n 1243 dL_law_1242 rfl rfl ?_
  refine bw_callH 1246 dL_law_1243 rfl hL_208 (w_invert g hb hk hJ1 (fun A1 h => (hJ2 A1 h).1.1) hX) rfl rfl (Nat.le_of_ble_eq_true rfl) ⟨Nat.le_trans (Nat.le_of_ble_eq_true rfl) hfr, Nat.le_trans (Nat.le_of_ble_eq_true rfl) hlo⟩ hcu hsu (fun E A1 h => by obtain ⟨x, h, -⟩ := h; cases h) (fun v' A1 h => ?_)
  obtain ⟨y, hv, rfl, hJ, hO⟩ := h
  have hv := Sum.inl.inj hv
  subst hv
  obtain ⟨-, fm, hbM⟩ := hJ2 A1 hJ
  refine bw_istore 1248 dL_law_1246 rfl (by decide) ?_
  refine bw_aload_n 1249 dL_law_1248 rfl rfl ?_
  refine bw_aload_n 1250 dL_law_1249 rfl rfl ?_
  refine bw_iload 1252 dL_law_1250 rfl rfl ?_
  refine bw_iconst (1) 1253 dL_law_1252 (by decide) rfl ?_
  refine bw_eqi (y := nI 1) rfl ?_
  refine bw_iadd 1254 dL_law_1253 rfl ?_
  refine bw_eqi (nI_add i 1) ?_
  refine bw_sld 1255 dL_law_1254 rfl (vp_in_nI (by omega) (by omega)) ?_
  refine bw_callV 1258 dL_law_1255 rfl vL_210 (hM A1 hJ) hbM rfl rfl (Nat.le_of_ble_eq_true rfl) ⟨Nat.le_trans (Nat.le_of_ble_eq_true rfl) hfr, Nat.le_trans (Nat.le_of_ble_eq_true rfl) hlo⟩ hcu hsu (fun E A2 h => by obtain ⟨x, h, -⟩ := h; cases h) (fun v' A2 h => ?_)
  obtain ⟨y, hv, hyv, hL2, hO2⟩ := h
  have hv := Sum.inl.inj hv
  subst hv
  refine bw_istore 1260 dL_law_1258 rfl (by decide) ?_
  refine bw_aload_n 1261 dL_law_1260 rfl rfl ?_
  obtain ⟨rn, mn, pn, sn, rd, rs, pt, hmd⟩ := hL2.md
  refine bw_cVi 1264 dL_law_1261 rfl vL_156 (m_thrown g (bw_has.one hmd)) hmd rfl rfl (Nat.le_of_ble_eq_true rfl) ⟨Nat.le_trans (Nat.le_of_ble_eq_true rfl) hfr, Nat.le_trans (Nat.le_of_ble_eq_true rfl) hlo⟩ hcu hsu ?_
  refine bw_iload 1266 dL_law_1264 rfl rfl ?_
  refine bw_icmp_eq 1271 1269 dL_law_1266 rfl rfl (fun _ => ?_) (fun c => absurd rfl c)
  refine bw_iload 1273 dL_law_1271 rfl rfl ?_
  refine bw_if_ne 1288 1276 dL_law_1273 rfl rfl (fun c => ?_) (fun c => ?_)
  · refine bw_goto 2499 dL_law_1288 rfl ?_
    exact bw_loc (lvL g x M i) ⟨rfl, rfl, rfl, rfl, rfl, trivial⟩ (kk _ _ hL2)
  · have hk0 : k = 0 := (xn_eq0 (by omega)).mp c
    obtain ⟨f, hf, hf0⟩ := hO hk0
    refine bw_aload_n 1277 dL_law_1276 rfl rfl ?_
    refine bw_iconst (0) 1278 dL_law_1277 (by decide) rfl ?_
    refine bw_lald 1279 dL_law_1278 rfl (hO2.trans hf) (vp_in_nI (n := 0) (N := 1) (by decide) (by decide)) ?_
    refine bw_iload 1281 dL_law_1279 rfl rfl ?_
    refine bw_i2l 1282 dL_law_1281 rfl ?_
    refine bw_lcmp 1283 dL_law_1282 rfl ?_
    refine bw_if_eq 1288 1286 dL_law_1283 rfl rfl (fun _ => ?_) (fun c => absurd (show lg_cmp (f 0) y.toInt64 = 0 by rw [hyv hk0, hf0]; exact lg_same _) c)
    refine bw_goto 2499 dL_law_1288 rfl ?_
    exact bw_loc (lvL g x M i) ⟨rfl, rfl, rfl, rfl, rfl, trivial⟩ (kk _ _ hL2)
set_option maxHeartbeats 1000000 in
theorem lc_rank (g : bw_G) {R : Room} {Q : bw_O → bw_H → Prop} {cu su i x M n p gg th : Nat} {A : bw_H} (hG : GFg n p gg) (hxM : x + 57 + 2 * n ≤ M) (hfr : 10 ≤ R.frames) (hlo : 1200 ≤ R.locals) (hcu : cu + 20 ≤ R.cells) (hsu : su + 200 ≤ R.slots) (hi : i + 5 ≤ g.2.2.2.2.2.1) (hS : g.2.2.2.2.2.1 ≤ 2562) (hL : LI g x M n p gg th A)
    (kk : ∀ (A' : bw_H) (th' : Nat), LI g x M n p gg th' A' → bw_W g R mL_law Q (cu + 20) (su + 200) 2499 (lvL g x M i) [] A') : bw_W g R mL_law Q cu su 1291 (lvL g x M i) [] A := by
  obtain ⟨fs, hb⟩ := hL.xo
  obtain ⟨k, v, J, hk, hJ1, hJ2, hX, hM⟩ := b_rank hG hxM hL (sv g i 1)
  have hk3 : k ≤ 3 := Nat.le_trans hk (by decide)
  refine bw_aload_n 1292 dL_law_1291 rfl rfl ?_
  refine bw_aload_n 1293 dL_law_1292 rfl rfl ?_
  refine bw_iload 1295 dL_law_1293 rfl rfl ?_
  refine bw_iconst (1) 1296 dL_law_1295 (by decide) rfl ?_
  refine bw_eqi (y := nI 1) rfl ?_
  refine bw_iadd 1297 dL_law_1296 rfl ?_
  refine bw_eqi (nI_add i 1) ?_
  refine bw_sld 1298 dL_law_1297 rfl (vp_in_nI (by omega) (by omega)) ?_
  refine bw_aload_n 1299 dL_law_1298 rfl rfl ?_
  refine bw_callH 1302 dL_law_1299 rfl hL_211 (w_rank g hb hk hJ1 (fun A1 h => (hJ2 A1 h).1.1) hX) rfl rfl (Nat.le_of_ble_eq_true rfl) ⟨Nat.le_trans (Nat.le_of_ble_eq_true rfl) hfr, Nat.le_trans (Nat.le_of_ble_eq_true rfl) hlo⟩ hcu hsu (fun E A1 h => by obtain ⟨x, h, -⟩ := h; cases h) (fun v' A1 h => ?_)
  obtain ⟨y, hv, rfl, hJ, hO⟩ := h
  have hv := Sum.inl.inj hv
  subst hv
  obtain ⟨-, fm, hbM⟩ := hJ2 A1 hJ
  refine bw_istore 1304 dL_law_1302 rfl (by decide) ?_
  refine bw_aload_n 1305 dL_law_1304 rfl rfl ?_
  refine bw_aload_n 1306 dL_law_1305 rfl rfl ?_
  refine bw_iload 1308 dL_law_1306 rfl rfl ?_
  refine bw_iconst (1) 1309 dL_law_1308 (by decide) rfl ?_
  refine bw_eqi (y := nI 1) rfl ?_
  refine bw_iadd 1310 dL_law_1309 rfl ?_
  refine bw_eqi (nI_add i 1) ?_
  refine bw_sld 1311 dL_law_1310 rfl (vp_in_nI (by omega) (by omega)) ?_
  refine bw_callV 1314 dL_law_1311 rfl vL_213 (hM A1 hJ) hbM rfl rfl (Nat.le_of_ble_eq_true rfl) ⟨Nat.le_trans (Nat.le_of_ble_eq_true rfl) hfr, Nat.le_trans (Nat.le_of_ble_eq_true rfl) hlo⟩ hcu hsu (fun E A2 h => by obtain ⟨x, h, -⟩ := h; cases h) (fun v' A2 h => ?_)
  obtain ⟨y, hv, hyv, hL2, hO2⟩ := h
  have hv := Sum.inl.inj hv
  subst hv
  refine bw_istore 1316 dL_law_1314 rfl (by decide) ?_
  refine bw_aload_n 1317 dL_law_1316 rfl rfl ?_
  obtain ⟨rn, mn, pn, sn, rd, rs, pt, hmd⟩ := hL2.md
  refine bw_cVi 1320 dL_law_1317 rfl vL_156 (m_thrown g (bw_has.one hmd)) hmd rfl rfl (Nat.le_of_ble_eq_true rfl) ⟨Nat.le_trans (Nat.le_of_ble_eq_true rfl) hfr, Nat.le_trans (Nat.le_of_ble_eq_true rfl) hlo⟩ hcu hsu ?_
  refine bw_iload 1322 dL_law_1320 rfl rfl ?_
  refine bw_icmp_eq 1327 1325 dL_law_1322 rfl rfl (fun _ => ?_) (fun c => absurd rfl c)
  refine bw_iload 1329 dL_law_1327 rfl rfl ?_
  refine bw_if_ne 1344 1332 dL_law_1329 rfl rfl (fun c => ?_) (fun c => ?_)
  · refine bw_goto 2499 dL_law_1344 rfl ?_
    exact bw_loc (lvL g x M i) ⟨rfl, rfl, rfl, rfl, rfl, trivial⟩ (kk _ _ hL2)
  · have hk0 : k = 0 := (xn_eq0 (by omega)).mp c
    obtain ⟨f, hf, hf0⟩ := hO hk0
    refine bw_aload_n 1333 dL_law_1332 rfl rfl ?_
    refine bw_iconst (0) 1334 dL_law_1333 (by decide) rfl ?_
    refine bw_lald 1335 dL_law_1334 rfl (hO2.trans hf) (vp_in_nI (n := 0) (N := 1) (by decide) (by decide)) ?_
    refine bw_iload 1337 dL_law_1335 rfl rfl ?_
    refine bw_i2l 1338 dL_law_1337 rfl ?_
    refine bw_lcmp 1339 dL_law_1338 rfl ?_
    refine bw_if_eq 1344 1342 dL_law_1339 rfl rfl (fun _ => ?_) (fun c => absurd (show lg_cmp (f 0) y.toInt64 = 0 by rw [hyv hk0, hf0]; exact lg_same _) c)
    refine bw_goto 2499 dL_law_1344 rfl ?_
    exact bw_loc (lvL g x M i) ⟨rfl, rfl, rfl, rfl, rfl, trivial⟩ (kk _ _ hL2)
set_option maxHeartbeats 1000000 in
theorem lc_determinant (g : bw_G) {R : Room} {Q : bw_O → bw_H → Prop} {cu su i x M n p gg th : Nat} {A : bw_H} (hG : GFg n p gg) (hxM : x + 57 + 2 * n ≤ M) (hfr : 10 ≤ R.frames) (hlo : 1200 ≤ R.locals) (hcu : cu + 20 ≤ R.cells) (hsu : su + 200 ≤ R.slots) (hi : i + 5 ≤ g.2.2.2.2.2.1) (hS : g.2.2.2.2.2.1 ≤ 2562) (hL : LI g x M n p gg th A)
    (kk : ∀ (A' : bw_H) (th' : Nat), LI g x M n p gg th' A' → bw_W g R mL_law Q (cu + 20) (su + 200) 2499 (lvL g x M i) [] A') : bw_W g R mL_law Q cu su 1347 (lvL g x M i) [] A := by
  obtain ⟨fs, hb⟩ := hL.xo
  obtain ⟨k, v, J, hk, hJ1, hJ2, hX, hM⟩ := b_determinant hG hxM hL (sv g i 1)
  have hk3 : k ≤ 3 := Nat.le_trans hk (by decide)
  refine bw_aload_n 1348 dL_law_1347 rfl rfl ?_
  refine bw_aload_n 1349 dL_law_1348 rfl rfl ?_
  refine bw_iload 1351 dL_law_1349 rfl rfl ?_
  refine bw_iconst (1) 1352 dL_law_1351 (by decide) rfl ?_
  refine bw_eqi (y := nI 1) rfl ?_
  refine bw_iadd 1353 dL_law_1352 rfl ?_
  refine bw_eqi (nI_add i 1) ?_
  refine bw_sld 1354 dL_law_1353 rfl (vp_in_nI (by omega) (by omega)) ?_
  refine bw_aload_n 1355 dL_law_1354 rfl rfl ?_
  refine bw_callH 1358 dL_law_1355 rfl hL_214 (w_determinant g hb hk hJ1 (fun A1 h => (hJ2 A1 h).1.1) hX) rfl rfl (Nat.le_of_ble_eq_true rfl) ⟨Nat.le_trans (Nat.le_of_ble_eq_true rfl) hfr, Nat.le_trans (Nat.le_of_ble_eq_true rfl) hlo⟩ hcu hsu (fun E A1 h => by obtain ⟨x, h, -⟩ := h; cases h) (fun v' A1 h => ?_)
  obtain ⟨y, hv, rfl, hJ, hO⟩ := h
  have hv := Sum.inl.inj hv
  subst hv
  obtain ⟨-, fm, hbM⟩ := hJ2 A1 hJ
  refine bw_istore 1360 dL_law_1358 rfl (by decide) ?_
  refine bw_aload_n 1361 dL_law_1360 rfl rfl ?_
  refine bw_aload_n 1362 dL_law_1361 rfl rfl ?_
  refine bw_iload 1364 dL_law_1362 rfl rfl ?_
  refine bw_iconst (1) 1365 dL_law_1364 (by decide) rfl ?_
  refine bw_eqi (y := nI 1) rfl ?_
  refine bw_iadd 1366 dL_law_1365 rfl ?_
  refine bw_eqi (nI_add i 1) ?_
  refine bw_sld 1367 dL_law_1366 rfl (vp_in_nI (by omega) (by omega)) ?_
  refine bw_callV 1370 dL_law_1367 rfl vL_216 (hM A1 hJ) hbM rfl rfl (Nat.le_of_ble_eq_true rfl) ⟨Nat.le_trans (Nat.le_of_ble_eq_true rfl) hfr, Nat.le_trans (Nat.le_of_ble_eq_true rfl) hlo⟩ hcu hsu (fun E A2 h => by obtain ⟨x, h, -⟩ := h; cases h) (fun v' A2 h => ?_)
  obtain ⟨y, hv, hyv, hL2, hO2⟩ := h
  have hv := Sum.inl.inj hv
  subst hv
  refine bw_istore 1372 dL_law_1370 rfl (by decide) ?_
  refine bw_aload_n 1373 dL_law_1372 rfl rfl ?_
  obtain ⟨rn, mn, pn, sn, rd, rs, pt, hmd⟩ := hL2.md
  refine bw_cVi 1376 dL_law_1373 rfl vL_156 (m_thrown g (bw_has.one hmd)) hmd rfl rfl (Nat.le_of_ble_eq_true rfl) ⟨Nat.le_trans (Nat.le_of_ble_eq_true rfl) hfr, Nat.le_trans (Nat.le_of_ble_eq_true rfl) hlo⟩ hcu hsu ?_
  refine bw_iload 1378 dL_law_1376 rfl rfl ?_
  refine bw_icmp_eq 1383 1381 dL_law_1378 rfl rfl (fun _ => ?_) (fun c => absurd rfl c)
  refine bw_iload 1385 dL_law_1383 rfl rfl ?_
  refine bw_if_ne 1400 1388 dL_law_1385 rfl rfl (fun c => ?_) (fun c => ?_)
  · refine bw_goto 2499 dL_law_1400 rfl ?_
    exact bw_loc (lvL g x M i) ⟨rfl, rfl, rfl, rfl, rfl, trivial⟩ (kk _ _ hL2)
  · have hk0 : k = 0 := (xn_eq0 (by omega)).mp c
    obtain ⟨f, hf, hf0⟩ := hO hk0
    refine bw_aload_n 1389 dL_law_1388 rfl rfl ?_
    refine bw_iconst (0) 1390 dL_law_1389 (by decide) rfl ?_
    refine bw_lald 1391 dL_law_1390 rfl (hO2.trans hf) (vp_in_nI (n := 0) (N := 1) (by decide) (by decide)) ?_
    refine bw_iload 1393 dL_law_1391 rfl rfl ?_
    refine bw_i2l 1394 dL_law_1393 rfl ?_
    refine bw_lcmp 1395 dL_law_1394 rfl ?_
    refine bw_if_eq 1400 1398 dL_law_1395 rfl rfl (fun _ => ?_) (fun c => absurd (show lg_cmp (f 0) y.toInt64 = 0 by rw [hyv hk0, hf0]; exact lg_same _) c)
    refine bw_goto 2499 dL_law_1400 rfl ?_
    exact bw_loc (lvL g x M i) ⟨rfl, rfl, rfl, rfl, rfl, trivial⟩ (kk _ _ hL2)
set_option maxHeartbeats 1000000 in
theorem lc_singular (g : bw_G) {R : Room} {Q : bw_O → bw_H → Prop} {cu su i x M n p gg th : Nat} {A : bw_H} (hG : GFg n p gg) (hxM : x + 57 + 2 * n ≤ M) (hfr : 10 ≤ R.frames) (hlo : 1200 ≤ R.locals) (hcu : cu + 20 ≤ R.cells) (hsu : su + 200 ≤ R.slots) (hi : i + 5 ≤ g.2.2.2.2.2.1) (hS : g.2.2.2.2.2.1 ≤ 2562) (hL : LI g x M n p gg th A)
    (kk : ∀ (A' : bw_H) (th' : Nat), LI g x M n p gg th' A' → bw_W g R mL_law Q (cu + 20) (su + 200) 2499 (lvL g x M i) [] A') : bw_W g R mL_law Q cu su 1403 (lvL g x M i) [] A := by
  obtain ⟨fs, hb⟩ := hL.xo
  obtain ⟨k, v, J, hk, hJ1, hJ2, hX, hM⟩ := b_singular hG hxM hL (sv g i 1)
  have hk3 : k ≤ 3 := Nat.le_trans hk (by decide)
  refine bw_aload_n 1404 dL_law_1403 rfl rfl ?_
  refine bw_aload_n 1405 dL_law_1404 rfl rfl ?_
  refine bw_iload 1407 dL_law_1405 rfl rfl ?_
  refine bw_iconst (1) 1408 dL_law_1407 (by decide) rfl ?_
  refine bw_eqi (y := nI 1) rfl ?_
  refine bw_iadd 1409 dL_law_1408 rfl ?_
  refine bw_eqi (nI_add i 1) ?_
  refine bw_sld 1410 dL_law_1409 rfl (vp_in_nI (by omega) (by omega)) ?_
  refine bw_aload_n 1411 dL_law_1410 rfl rfl ?_
  refine bw_callH 1414 dL_law_1411 rfl hL_217 (w_singular g hb hk hJ1 (fun A1 h => (hJ2 A1 h).1.1) hX) rfl rfl (Nat.le_of_ble_eq_true rfl) ⟨Nat.le_trans (Nat.le_of_ble_eq_true rfl) hfr, Nat.le_trans (Nat.le_of_ble_eq_true rfl) hlo⟩ hcu hsu (fun E A1 h => by obtain ⟨x, h, -⟩ := h; cases h) (fun v' A1 h => ?_)
  obtain ⟨y, hv, rfl, hJ, hO⟩ := h
  have hv := Sum.inl.inj hv
  subst hv
  obtain ⟨-, fm, hbM⟩ := hJ2 A1 hJ
  refine bw_istore 1416 dL_law_1414 rfl (by decide) ?_
  refine bw_aload_n 1417 dL_law_1416 rfl rfl ?_
  refine bw_aload_n 1418 dL_law_1417 rfl rfl ?_
  refine bw_iload 1420 dL_law_1418 rfl rfl ?_
  refine bw_iconst (1) 1421 dL_law_1420 (by decide) rfl ?_
  refine bw_eqi (y := nI 1) rfl ?_
  refine bw_iadd 1422 dL_law_1421 rfl ?_
  refine bw_eqi (nI_add i 1) ?_
  refine bw_sld 1423 dL_law_1422 rfl (vp_in_nI (by omega) (by omega)) ?_
  refine bw_callV 1426 dL_law_1423 rfl vL_219 (hM A1 hJ) hbM rfl rfl (Nat.le_of_ble_eq_true rfl) ⟨Nat.le_trans (Nat.le_of_ble_eq_true rfl) hfr, Nat.le_trans (Nat.le_of_ble_eq_true rfl) hlo⟩ hcu hsu (fun E A2 h => by obtain ⟨x, h, -⟩ := h; cases h) (fun v' A2 h => ?_)
  obtain ⟨y, hv, hyv, hL2, hO2⟩ := h
  have hv := Sum.inl.inj hv
  subst hv
  refine bw_istore 1428 dL_law_1426 rfl (by decide) ?_
  refine bw_aload_n 1429 dL_law_1428 rfl rfl ?_
  obtain ⟨rn, mn, pn, sn, rd, rs, pt, hmd⟩ := hL2.md
  refine bw_cVi 1432 dL_law_1429 rfl vL_156 (m_thrown g (bw_has.one hmd)) hmd rfl rfl (Nat.le_of_ble_eq_true rfl) ⟨Nat.le_trans (Nat.le_of_ble_eq_true rfl) hfr, Nat.le_trans (Nat.le_of_ble_eq_true rfl) hlo⟩ hcu hsu ?_
  refine bw_iload 1434 dL_law_1432 rfl rfl ?_
  refine bw_icmp_eq 1439 1437 dL_law_1434 rfl rfl (fun _ => ?_) (fun c => absurd rfl c)
  refine bw_iload 1441 dL_law_1439 rfl rfl ?_
  refine bw_if_ne 1456 1444 dL_law_1441 rfl rfl (fun c => ?_) (fun c => ?_)
  · refine bw_goto 2499 dL_law_1456 rfl ?_
    exact bw_loc (lvL g x M i) ⟨rfl, rfl, rfl, rfl, rfl, trivial⟩ (kk _ _ hL2)
  · have hk0 : k = 0 := (xn_eq0 (by omega)).mp c
    obtain ⟨f, hf, hf0⟩ := hO hk0
    refine bw_aload_n 1445 dL_law_1444 rfl rfl ?_
    refine bw_iconst (0) 1446 dL_law_1445 (by decide) rfl ?_
    refine bw_lald 1447 dL_law_1446 rfl (hO2.trans hf) (vp_in_nI (n := 0) (N := 1) (by decide) (by decide)) ?_
    refine bw_iload 1449 dL_law_1447 rfl rfl ?_
    refine bw_i2l 1450 dL_law_1449 rfl ?_
    refine bw_lcmp 1451 dL_law_1450 rfl ?_
    refine bw_if_eq 1456 1454 dL_law_1451 rfl rfl (fun _ => ?_) (fun c => absurd (show lg_cmp (f 0) y.toInt64 = 0 by rw [hyv hk0, hf0]; exact lg_same _) c)
    refine bw_goto 2499 dL_law_1456 rfl ?_
    exact bw_loc (lvL g x M i) ⟨rfl, rfl, rfl, rfl, rfl, trivial⟩ (kk _ _ hL2)
set_option maxHeartbeats 1000000 in
theorem lc_solve (g : bw_G) {R : Room} {Q : bw_O → bw_H → Prop} {cu su i x M n p gg th : Nat} {A : bw_H} (hG : GFg n p gg) (hxM : x + 57 + 2 * n ≤ M) (hfr : 10 ≤ R.frames) (hlo : 1200 ≤ R.locals) (hcu : cu + 20 ≤ R.cells) (hsu : su + 200 ≤ R.slots) (hi : i + 5 ≤ g.2.2.2.2.2.1) (hS : g.2.2.2.2.2.1 ≤ 2562) (hL : LI g x M n p gg th A)
    (kk : ∀ (A' : bw_H) (th' : Nat), LI g x M n p gg th' A' → bw_W g R mL_law Q (cu + 20) (su + 200) 2499 (lvL g x M i) [] A') : bw_W g R mL_law Q cu su 1459 (lvL g x M i) [] A := by
  obtain ⟨fs, hb⟩ := hL.xo
  obtain ⟨k, v, J, hk, hJ1, hJ2, hX, hM⟩ := b_solve hG hxM hL (sv g i 1)
  have hk3 : k ≤ 3 := Nat.le_trans hk (by decide)
  refine bw_aload_n 1460 dL_law_1459 rfl rfl ?_
  refine bw_aload_n 1461 dL_law_1460 rfl rfl ?_
  refine bw_iload 1463 dL_law_1461 rfl rfl ?_
  refine bw_iconst (1) 1464 dL_law_1463 (by decide) rfl ?_
  refine bw_eqi (y := nI 1) rfl ?_
  refine bw_iadd 1465 dL_law_1464 rfl ?_
  refine bw_eqi (nI_add i 1) ?_
  refine bw_sld 1466 dL_law_1465 rfl (vp_in_nI (by omega) (by omega)) ?_
  refine bw_aload_n 1467 dL_law_1466 rfl rfl ?_
  refine bw_callH 1470 dL_law_1467 rfl hL_220 (w_solve g hb hk hJ1 (fun A1 h => (hJ2 A1 h).1.1) hX) rfl rfl (Nat.le_of_ble_eq_true rfl) ⟨Nat.le_trans (Nat.le_of_ble_eq_true rfl) hfr, Nat.le_trans (Nat.le_of_ble_eq_true rfl) hlo⟩ hcu hsu (fun E A1 h => by obtain ⟨x, h, -⟩ := h; cases h) (fun v' A1 h => ?_)
  obtain ⟨y, hv, rfl, hJ, hO⟩ := h
  have hv := Sum.inl.inj hv
  subst hv
  obtain ⟨-, fm, hbM⟩ := hJ2 A1 hJ
  refine bw_istore 1472 dL_law_1470 rfl (by decide) ?_
  refine bw_aload_n 1473 dL_law_1472 rfl rfl ?_
  refine bw_aload_n 1474 dL_law_1473 rfl rfl ?_
  refine bw_iload 1476 dL_law_1474 rfl rfl ?_
  refine bw_iconst (1) 1477 dL_law_1476 (by decide) rfl ?_
  refine bw_eqi (y := nI 1) rfl ?_
  refine bw_iadd 1478 dL_law_1477 rfl ?_
  refine bw_eqi (nI_add i 1) ?_
  refine bw_sld 1479 dL_law_1478 rfl (vp_in_nI (by omega) (by omega)) ?_
  refine bw_callV 1482 dL_law_1479 rfl vL_222 (hM A1 hJ) hbM rfl rfl (Nat.le_of_ble_eq_true rfl) ⟨Nat.le_trans (Nat.le_of_ble_eq_true rfl) hfr, Nat.le_trans (Nat.le_of_ble_eq_true rfl) hlo⟩ hcu hsu (fun E A2 h => by obtain ⟨x, h, -⟩ := h; cases h) (fun v' A2 h => ?_)
  obtain ⟨y, hv, hyv, hL2, hO2⟩ := h
  have hv := Sum.inl.inj hv
  subst hv
  refine bw_istore 1484 dL_law_1482 rfl (by decide) ?_
  refine bw_aload_n 1485 dL_law_1484 rfl rfl ?_
  obtain ⟨rn, mn, pn, sn, rd, rs, pt, hmd⟩ := hL2.md
  refine bw_cVi 1488 dL_law_1485 rfl vL_156 (m_thrown g (bw_has.one hmd)) hmd rfl rfl (Nat.le_of_ble_eq_true rfl) ⟨Nat.le_trans (Nat.le_of_ble_eq_true rfl) hfr, Nat.le_trans (Nat.le_of_ble_eq_true rfl) hlo⟩ hcu hsu ?_
  refine bw_iload 1490 dL_law_1488 rfl rfl ?_
  refine bw_icmp_eq 1495 1493 dL_law_1490 rfl rfl (fun _ => ?_) (fun c => absurd rfl c)
  refine bw_iload 1497 dL_law_1495 rfl rfl ?_
  refine bw_if_ne 1512 1500 dL_law_1497 rfl rfl (fun c => ?_) (fun c => ?_)
  · refine bw_goto 2499 dL_law_1512 rfl ?_
    exact bw_loc (lvL g x M i) ⟨rfl, rfl, rfl, rfl, rfl, trivial⟩ (kk _ _ hL2)
  · have hk0 : k = 0 := (xn_eq0 (by omega)).mp c
    obtain ⟨f, hf, hf0⟩ := hO hk0
    refine bw_aload_n 1501 dL_law_1500 rfl rfl ?_
    refine bw_iconst (0) 1502 dL_law_1501 (by decide) rfl ?_
    refine bw_lald 1503 dL_law_1502 rfl (hO2.trans hf) (vp_in_nI (n := 0) (N := 1) (by decide) (by decide)) ?_
    refine bw_iload 1505 dL_law_1503 rfl rfl ?_
    refine bw_i2l 1506 dL_law_1505 rfl ?_
    refine bw_lcmp 1507 dL_law_1506 rfl ?_
    refine bw_if_eq 1512 1510 dL_law_1507 rfl rfl (fun _ => ?_) (fun c => absurd (show lg_cmp (f 0) y.toInt64 = 0 by rw [hyv hk0, hf0]; exact lg_same _) c)
    refine bw_goto 2499 dL_law_1512 rfl ?_
    exact bw_loc (lvL g x M i) ⟨rfl, rfl, rfl, rfl, rfl, trivial⟩ (kk _ _ hL2)
set_option maxHeartbeats 1000000 in
theorem lc_polynomial (g : bw_G) {R : Room} {Q : bw_O → bw_H → Prop} {cu su i x M n p gg th : Nat} {A : bw_H} (hG : GFg n p gg) (hxM : x + 57 + 2 * n ≤ M) (hfr : 10 ≤ R.frames) (hlo : 1200 ≤ R.locals) (hcu : cu + 20 ≤ R.cells) (hsu : su + 200 ≤ R.slots) (hi : i + 5 ≤ g.2.2.2.2.2.1) (hS : g.2.2.2.2.2.1 ≤ 2562) (hL : LI g x M n p gg th A)
    (kk : ∀ (A' : bw_H) (th' : Nat), LI g x M n p gg th' A' → bw_W g R mL_law Q (cu + 20) (su + 200) 2499 (lvL g x M i) [] A') : bw_W g R mL_law Q cu su 1515 (lvL g x M i) [] A := by
  obtain ⟨fs, hb⟩ := hL.xo
  obtain ⟨k, v, J, hk, hJ1, hJ2, hX, hM⟩ := b_polynomial hG hxM hL 
  have hk3 : k ≤ 3 := Nat.le_trans hk (by decide)
  refine bw_aload_n 1516 dL_law_1515 rfl rfl ?_
  refine bw_aload_n 1517 dL_law_1516 rfl rfl ?_
  refine bw_callH 1520 dL_law_1517 rfl hL_223 (w_polynomial g hb hk hJ1 (fun A1 h => (hJ2 A1 h).1.1) hX) rfl rfl (Nat.le_of_ble_eq_true rfl) ⟨Nat.le_trans (Nat.le_of_ble_eq_true rfl) hfr, Nat.le_trans (Nat.le_of_ble_eq_true rfl) hlo⟩ hcu hsu (fun E A1 h => by obtain ⟨x, h, -⟩ := h; cases h) (fun v' A1 h => ?_)
  obtain ⟨y, hv, rfl, hJ, hO⟩ := h
  have hv := Sum.inl.inj hv
  subst hv
  obtain ⟨-, fm, hbM⟩ := hJ2 A1 hJ
  refine bw_istore 1522 dL_law_1520 rfl (by decide) ?_
  refine bw_aload_n 1523 dL_law_1522 rfl rfl ?_
  refine bw_callV 1526 dL_law_1523 rfl vL_226 (hM A1 hJ) hbM rfl rfl (Nat.le_of_ble_eq_true rfl) ⟨Nat.le_trans (Nat.le_of_ble_eq_true rfl) hfr, Nat.le_trans (Nat.le_of_ble_eq_true rfl) hlo⟩ hcu hsu (fun E A2 h => by obtain ⟨x, h, -⟩ := h; cases h) (fun v' A2 h => ?_)
  obtain ⟨y, hv, hyv, hL2, hO2⟩ := h
  have hv := Sum.inl.inj hv
  subst hv
  refine bw_istore 1528 dL_law_1526 rfl (by decide) ?_
  refine bw_aload_n 1529 dL_law_1528 rfl rfl ?_
  obtain ⟨rn, mn, pn, sn, rd, rs, pt, hmd⟩ := hL2.md
  refine bw_cVi 1532 dL_law_1529 rfl vL_156 (m_thrown g (bw_has.one hmd)) hmd rfl rfl (Nat.le_of_ble_eq_true rfl) ⟨Nat.le_trans (Nat.le_of_ble_eq_true rfl) hfr, Nat.le_trans (Nat.le_of_ble_eq_true rfl) hlo⟩ hcu hsu ?_
  refine bw_iload 1534 dL_law_1532 rfl rfl ?_
  refine bw_icmp_eq 1539 1537 dL_law_1534 rfl rfl (fun _ => ?_) (fun c => absurd rfl c)
  refine bw_iload 1541 dL_law_1539 rfl rfl ?_
  refine bw_if_ne 1556 1544 dL_law_1541 rfl rfl (fun c => ?_) (fun c => ?_)
  · refine bw_goto 2499 dL_law_1556 rfl ?_
    exact bw_loc (lvL g x M i) ⟨rfl, rfl, rfl, rfl, rfl, trivial⟩ (kk _ _ hL2)
  · have hk0 : k = 0 := (xn_eq0 (by omega)).mp c
    obtain ⟨f, hf, hf0⟩ := hO hk0
    refine bw_aload_n 1545 dL_law_1544 rfl rfl ?_
    refine bw_iconst (0) 1546 dL_law_1545 (by decide) rfl ?_
    refine bw_lald 1547 dL_law_1546 rfl (hO2.trans hf) (vp_in_nI (n := 0) (N := 1) (by decide) (by decide)) ?_
    refine bw_iload 1549 dL_law_1547 rfl rfl ?_
    refine bw_i2l 1550 dL_law_1549 rfl ?_
    refine bw_lcmp 1551 dL_law_1550 rfl ?_
    refine bw_if_eq 1556 1554 dL_law_1551 rfl rfl (fun _ => ?_) (fun c => absurd (show lg_cmp (f 0) y.toInt64 = 0 by rw [hyv hk0, hf0]; exact lg_same _) c)
    refine bw_goto 2499 dL_law_1556 rfl ?_
    exact bw_loc (lvL g x M i) ⟨rfl, rfl, rfl, rfl, rfl, trivial⟩ (kk _ _ hL2)
set_option maxHeartbeats 1000000 in
theorem lc_through (g : bw_G) {R : Room} {Q : bw_O → bw_H → Prop} {cu su i x M n p gg th : Nat} {A : bw_H} (hG : GFg n p gg) (hxM : x + 57 + 2 * n ≤ M) (hfr : 10 ≤ R.frames) (hlo : 1200 ≤ R.locals) (hcu : cu + 20 ≤ R.cells) (hsu : su + 200 ≤ R.slots) (hi : i + 5 ≤ g.2.2.2.2.2.1) (hS : g.2.2.2.2.2.1 ≤ 2562) (hL : LI g x M n p gg th A)
    (kk : ∀ (A' : bw_H) (th' : Nat), LI g x M n p gg th' A' → bw_W g R mL_law Q (cu + 20) (su + 200) 2499 (lvL g x M i) [] A') : bw_W g R mL_law Q cu su 1559 (lvL g x M i) [] A := by
  obtain ⟨fs, hb⟩ := hL.xo
  obtain ⟨k, v, J, hk, hJ1, hJ2, hX, hM⟩ := b_through hG hxM hL 
  have hk3 : k ≤ 3 := Nat.le_trans hk (by decide)
  refine bw_aload_n 1560 dL_law_1559 rfl rfl ?_
  refine bw_aload_n 1561 dL_law_1560 rfl rfl ?_
  refine bw_callH 1564 dL_law_1561 rfl hL_227 (w_through g hb hk hJ1 (fun A1 h => (hJ2 A1 h).1.1) hX) rfl rfl (Nat.le_of_ble_eq_true rfl) ⟨Nat.le_trans (Nat.le_of_ble_eq_true rfl) hfr, Nat.le_trans (Nat.le_of_ble_eq_true rfl) hlo⟩ hcu hsu (fun E A1 h => by obtain ⟨x, h, -⟩ := h; cases h) (fun v' A1 h => ?_)
  obtain ⟨y, hv, rfl, hJ, hO⟩ := h
  have hv := Sum.inl.inj hv
  subst hv
  obtain ⟨-, fm, hbM⟩ := hJ2 A1 hJ
  refine bw_istore 1566 dL_law_1564 rfl (by decide) ?_
  refine bw_aload_n 1567 dL_law_1566 rfl rfl ?_
  refine bw_callV 1570 dL_law_1567 rfl vL_229 (hM A1 hJ) hbM rfl rfl (Nat.le_of_ble_eq_true rfl) ⟨Nat.le_trans (Nat.le_of_ble_eq_true rfl) hfr, Nat.le_trans (Nat.le_of_ble_eq_true rfl) hlo⟩ hcu hsu (fun E A2 h => by obtain ⟨x, h, -⟩ := h; cases h) (fun v' A2 h => ?_)
  obtain ⟨y, hv, hyv, hL2, hO2⟩ := h
  have hv := Sum.inl.inj hv
  subst hv
  refine bw_istore 1572 dL_law_1570 rfl (by decide) ?_
  refine bw_aload_n 1573 dL_law_1572 rfl rfl ?_
  obtain ⟨rn, mn, pn, sn, rd, rs, pt, hmd⟩ := hL2.md
  refine bw_cVi 1576 dL_law_1573 rfl vL_156 (m_thrown g (bw_has.one hmd)) hmd rfl rfl (Nat.le_of_ble_eq_true rfl) ⟨Nat.le_trans (Nat.le_of_ble_eq_true rfl) hfr, Nat.le_trans (Nat.le_of_ble_eq_true rfl) hlo⟩ hcu hsu ?_
  refine bw_iload 1578 dL_law_1576 rfl rfl ?_
  refine bw_icmp_eq 1583 1581 dL_law_1578 rfl rfl (fun _ => ?_) (fun c => absurd rfl c)
  refine bw_iload 1585 dL_law_1583 rfl rfl ?_
  refine bw_if_ne 1600 1588 dL_law_1585 rfl rfl (fun c => ?_) (fun c => ?_)
  · refine bw_goto 2499 dL_law_1600 rfl ?_
    exact bw_loc (lvL g x M i) ⟨rfl, rfl, rfl, rfl, rfl, trivial⟩ (kk _ _ hL2)
  · have hk0 : k = 0 := (xn_eq0 (by omega)).mp c
    obtain ⟨f, hf, hf0⟩ := hO hk0
    refine bw_aload_n 1589 dL_law_1588 rfl rfl ?_
    refine bw_iconst (0) 1590 dL_law_1589 (by decide) rfl ?_
    refine bw_lald 1591 dL_law_1590 rfl (hO2.trans hf) (vp_in_nI (n := 0) (N := 1) (by decide) (by decide)) ?_
    refine bw_iload 1593 dL_law_1591 rfl rfl ?_
    refine bw_i2l 1594 dL_law_1593 rfl ?_
    refine bw_lcmp 1595 dL_law_1594 rfl ?_
    refine bw_if_eq 1600 1598 dL_law_1595 rfl rfl (fun _ => ?_) (fun c => absurd (show lg_cmp (f 0) y.toInt64 = 0 by rw [hyv hk0, hf0]; exact lg_same _) c)
    refine bw_goto 2499 dL_law_1600 rfl ?_
    exact bw_loc (lvL g x M i) ⟨rfl, rfl, rfl, rfl, rfl, trivial⟩ (kk _ _ hL2)
set_option maxHeartbeats 1000000 in
theorem lc_degree (g : bw_G) {R : Room} {Q : bw_O → bw_H → Prop} {cu su i x M n p gg th : Nat} {A : bw_H} (hG : GFg n p gg) (hxM : x + 57 + 2 * n ≤ M) (hfr : 10 ≤ R.frames) (hlo : 1200 ≤ R.locals) (hcu : cu + 20 ≤ R.cells) (hsu : su + 200 ≤ R.slots) (hi : i + 5 ≤ g.2.2.2.2.2.1) (hS : g.2.2.2.2.2.1 ≤ 2562) (hL : LI g x M n p gg th A)
    (kk : ∀ (A' : bw_H) (th' : Nat), LI g x M n p gg th' A' → bw_W g R mL_law Q (cu + 20) (su + 200) 2499 (lvL g x M i) [] A') : bw_W g R mL_law Q cu su 1603 (lvL g x M i) [] A := by
  obtain ⟨fs, hb⟩ := hL.xo
  obtain ⟨k, v, J, hk, hJ1, hJ2, hX, hM⟩ := b_degree hG hxM hL (sv g i 1)
  have hk3 : k ≤ 3 := Nat.le_trans hk (by decide)
  refine bw_aload_n 1604 dL_law_1603 rfl rfl ?_
  refine bw_aload_n 1605 dL_law_1604 rfl rfl ?_
  refine bw_iload 1607 dL_law_1605 rfl rfl ?_
  refine bw_iconst (1) 1608 dL_law_1607 (by decide) rfl ?_
  refine bw_eqi (y := nI 1) rfl ?_
  refine bw_iadd 1609 dL_law_1608 rfl ?_
  refine bw_eqi (nI_add i 1) ?_
  refine bw_sld 1610 dL_law_1609 rfl (vp_in_nI (by omega) (by omega)) ?_
  refine bw_aload_n 1611 dL_law_1610 rfl rfl ?_
  refine bw_callH 1614 dL_law_1611 rfl hL_230 (w_degree g hb hk hJ1 (fun A1 h => (hJ2 A1 h).1.1) hX) rfl rfl (Nat.le_of_ble_eq_true rfl) ⟨Nat.le_trans (Nat.le_of_ble_eq_true rfl) hfr, Nat.le_trans (Nat.le_of_ble_eq_true rfl) hlo⟩ hcu hsu (fun E A1 h => by obtain ⟨x, h, -⟩ := h; cases h) (fun v' A1 h => ?_)
  obtain ⟨y, hv, rfl, hJ, hO⟩ := h
  have hv := Sum.inl.inj hv
  subst hv
  obtain ⟨-, fm, hbM⟩ := hJ2 A1 hJ
  refine bw_istore 1616 dL_law_1614 rfl (by decide) ?_
  refine bw_aload_n 1617 dL_law_1616 rfl rfl ?_
  refine bw_aload_n 1618 dL_law_1617 rfl rfl ?_
  refine bw_iload 1620 dL_law_1618 rfl rfl ?_
  refine bw_iconst (1) 1621 dL_law_1620 (by decide) rfl ?_
  refine bw_eqi (y := nI 1) rfl ?_
  refine bw_iadd 1622 dL_law_1621 rfl ?_
  refine bw_eqi (nI_add i 1) ?_
  refine bw_sld 1623 dL_law_1622 rfl (vp_in_nI (by omega) (by omega)) ?_
  refine bw_callV 1626 dL_law_1623 rfl vL_232 (hM A1 hJ) hbM rfl rfl (Nat.le_of_ble_eq_true rfl) ⟨Nat.le_trans (Nat.le_of_ble_eq_true rfl) hfr, Nat.le_trans (Nat.le_of_ble_eq_true rfl) hlo⟩ hcu hsu (fun E A2 h => by obtain ⟨x, h, -⟩ := h; cases h) (fun v' A2 h => ?_)
  obtain ⟨y, hv, hyv, hL2, hO2⟩ := h
  have hv := Sum.inl.inj hv
  subst hv
  refine bw_istore 1628 dL_law_1626 rfl (by decide) ?_
  refine bw_aload_n 1629 dL_law_1628 rfl rfl ?_
  obtain ⟨rn, mn, pn, sn, rd, rs, pt, hmd⟩ := hL2.md
  refine bw_cVi 1632 dL_law_1629 rfl vL_156 (m_thrown g (bw_has.one hmd)) hmd rfl rfl (Nat.le_of_ble_eq_true rfl) ⟨Nat.le_trans (Nat.le_of_ble_eq_true rfl) hfr, Nat.le_trans (Nat.le_of_ble_eq_true rfl) hlo⟩ hcu hsu ?_
  refine bw_iload 1634 dL_law_1632 rfl rfl ?_
  refine bw_icmp_eq 1639 1637 dL_law_1634 rfl rfl (fun _ => ?_) (fun c => absurd rfl c)
  refine bw_iload 1641 dL_law_1639 rfl rfl ?_
  refine bw_if_ne 1656 1644 dL_law_1641 rfl rfl (fun c => ?_) (fun c => ?_)
  · refine bw_goto 2499 dL_law_1656 rfl ?_
    exact bw_loc (lvL g x M i) ⟨rfl, rfl, rfl, rfl, rfl, trivial⟩ (kk _ _ hL2)
  · have hk0 : k = 0 := (xn_eq0 (by omega)).mp c
    obtain ⟨f, hf, hf0⟩ := hO hk0
    refine bw_aload_n 1645 dL_law_1644 rfl rfl ?_
    refine bw_iconst (0) 1646 dL_law_1645 (by decide) rfl ?_
    refine bw_lald 1647 dL_law_1646 rfl (hO2.trans hf) (vp_in_nI (n := 0) (N := 1) (by decide) (by decide)) ?_
    refine bw_iload 1649 dL_law_1647 rfl rfl ?_
    refine bw_i2l 1650 dL_law_1649 rfl ?_
    refine bw_lcmp 1651 dL_law_1650 rfl ?_
    refine bw_if_eq 1656 1654 dL_law_1651 rfl rfl (fun _ => ?_) (fun c => absurd (show lg_cmp (f 0) y.toInt64 = 0 by rw [hyv hk0, hf0]; exact lg_same _) c)
    refine bw_goto 2499 dL_law_1656 rfl ?_
    exact bw_loc (lvL g x M i) ⟨rfl, rfl, rfl, rfl, rfl, trivial⟩ (kk _ _ hL2)
set_option maxHeartbeats 1000000 in
theorem lc_coefficient (g : bw_G) {R : Room} {Q : bw_O → bw_H → Prop} {cu su i x M n p gg th : Nat} {A : bw_H} (hG : GFg n p gg) (hxM : x + 57 + 2 * n ≤ M) (hfr : 10 ≤ R.frames) (hlo : 1200 ≤ R.locals) (hcu : cu + 20 ≤ R.cells) (hsu : su + 200 ≤ R.slots) (hi : i + 5 ≤ g.2.2.2.2.2.1) (hS : g.2.2.2.2.2.1 ≤ 2562) (hL : LI g x M n p gg th A)
    (kk : ∀ (A' : bw_H) (th' : Nat), LI g x M n p gg th' A' → bw_W g R mL_law Q (cu + 20) (su + 200) 2499 (lvL g x M i) [] A') : bw_W g R mL_law Q cu su 1659 (lvL g x M i) [] A := by
  obtain ⟨fs, hb⟩ := hL.xo
  obtain ⟨k, v, J, hk, hJ1, hJ2, hX, hM⟩ := b_coefficient hG hxM hL (sv g i 1) (sv g i 2)
  have hk3 : k ≤ 3 := Nat.le_trans hk (by decide)
  refine bw_aload_n 1660 dL_law_1659 rfl rfl ?_
  refine bw_aload_n 1661 dL_law_1660 rfl rfl ?_
  refine bw_iload 1663 dL_law_1661 rfl rfl ?_
  refine bw_iconst (1) 1664 dL_law_1663 (by decide) rfl ?_
  refine bw_eqi (y := nI 1) rfl ?_
  refine bw_iadd 1665 dL_law_1664 rfl ?_
  refine bw_eqi (nI_add i 1) ?_
  refine bw_sld 1666 dL_law_1665 rfl (vp_in_nI (by omega) (by omega)) ?_
  refine bw_aload_n 1667 dL_law_1666 rfl rfl ?_
  refine bw_iload 1669 dL_law_1667 rfl rfl ?_
  refine bw_iconst (2) 1670 dL_law_1669 (by decide) rfl ?_
  refine bw_eqi (y := nI 2) rfl ?_
  refine bw_iadd 1671 dL_law_1670 rfl ?_
  refine bw_eqi (nI_add i 2) ?_
  refine bw_sld 1672 dL_law_1671 rfl (vp_in_nI (by omega) (by omega)) ?_
  refine bw_aload_n 1673 dL_law_1672 rfl rfl ?_
  refine bw_callH 1676 dL_law_1673 rfl hL_233 (w_coefficient g hb hk hJ1 (fun A1 h => (hJ2 A1 h).1.1) hX) rfl rfl (Nat.le_of_ble_eq_true rfl) ⟨Nat.le_trans (Nat.le_of_ble_eq_true rfl) hfr, Nat.le_trans (Nat.le_of_ble_eq_true rfl) hlo⟩ hcu hsu (fun E A1 h => by obtain ⟨x, h, -⟩ := h; cases h) (fun v' A1 h => ?_)
  obtain ⟨y, hv, rfl, hJ, hO⟩ := h
  have hv := Sum.inl.inj hv
  subst hv
  obtain ⟨-, fm, hbM⟩ := hJ2 A1 hJ
  refine bw_istore 1678 dL_law_1676 rfl (by decide) ?_
  refine bw_aload_n 1679 dL_law_1678 rfl rfl ?_
  refine bw_aload_n 1680 dL_law_1679 rfl rfl ?_
  refine bw_iload 1682 dL_law_1680 rfl rfl ?_
  refine bw_iconst (1) 1683 dL_law_1682 (by decide) rfl ?_
  refine bw_eqi (y := nI 1) rfl ?_
  refine bw_iadd 1684 dL_law_1683 rfl ?_
  refine bw_eqi (nI_add i 1) ?_
  refine bw_sld 1685 dL_law_1684 rfl (vp_in_nI (by omega) (by omega)) ?_
  refine bw_aload_n 1686 dL_law_1685 rfl rfl ?_
  refine bw_iload 1688 dL_law_1686 rfl rfl ?_
  refine bw_iconst (2) 1689 dL_law_1688 (by decide) rfl ?_
  refine bw_eqi (y := nI 2) rfl ?_
  refine bw_iadd 1690 dL_law_1689 rfl ?_
  refine bw_eqi (nI_add i 2) ?_
  refine bw_sld 1691 dL_law_1690 rfl (vp_in_nI (by omega) (by omega)) ?_
  refine bw_callV 1694 dL_law_1691 rfl vL_235 (hM A1 hJ) hbM rfl rfl (Nat.le_of_ble_eq_true rfl) ⟨Nat.le_trans (Nat.le_of_ble_eq_true rfl) hfr, Nat.le_trans (Nat.le_of_ble_eq_true rfl) hlo⟩ hcu hsu (fun E A2 h => by obtain ⟨x, h, -⟩ := h; cases h) (fun v' A2 h => ?_)
  obtain ⟨y, hv, hyv, hL2, hO2⟩ := h
  have hv := Sum.inl.inj hv
  subst hv
  refine bw_istore 1696 dL_law_1694 rfl (by decide) ?_
  refine bw_aload_n 1697 dL_law_1696 rfl rfl ?_
  obtain ⟨rn, mn, pn, sn, rd, rs, pt, hmd⟩ := hL2.md
  refine bw_cVi 1700 dL_law_1697 rfl vL_156 (m_thrown g (bw_has.one hmd)) hmd rfl rfl (Nat.le_of_ble_eq_true rfl) ⟨Nat.le_trans (Nat.le_of_ble_eq_true rfl) hfr, Nat.le_trans (Nat.le_of_ble_eq_true rfl) hlo⟩ hcu hsu ?_
  refine bw_iload 1702 dL_law_1700 rfl rfl ?_
  refine bw_icmp_eq 1707 1705 dL_law_1702 rfl rfl (fun _ => ?_) (fun c => absurd rfl c)
  refine bw_iload 1709 dL_law_1707 rfl rfl ?_
  refine bw_if_ne 1724 1712 dL_law_1709 rfl rfl (fun c => ?_) (fun c => ?_)
  · refine bw_goto 2499 dL_law_1724 rfl ?_
    exact bw_loc (lvL g x M i) ⟨rfl, rfl, rfl, rfl, rfl, trivial⟩ (kk _ _ hL2)
  · have hk0 : k = 0 := (xn_eq0 (by omega)).mp c
    obtain ⟨f, hf, hf0⟩ := hO hk0
    refine bw_aload_n 1713 dL_law_1712 rfl rfl ?_
    refine bw_iconst (0) 1714 dL_law_1713 (by decide) rfl ?_
    refine bw_lald 1715 dL_law_1714 rfl (hO2.trans hf) (vp_in_nI (n := 0) (N := 1) (by decide) (by decide)) ?_
    refine bw_iload 1717 dL_law_1715 rfl rfl ?_
    refine bw_i2l 1718 dL_law_1717 rfl ?_
    refine bw_lcmp 1719 dL_law_1718 rfl ?_
    refine bw_if_eq 1724 1722 dL_law_1719 rfl rfl (fun _ => ?_) (fun c => absurd (show lg_cmp (f 0) y.toInt64 = 0 by rw [hyv hk0, hf0]; exact lg_same _) c)
    refine bw_goto 2499 dL_law_1724 rfl ?_
    exact bw_loc (lvL g x M i) ⟨rfl, rfl, rfl, rfl, rfl, trivial⟩ (kk _ _ hL2)
set_option maxHeartbeats 1000000 in
theorem lc_value (g : bw_G) {R : Room} {Q : bw_O → bw_H → Prop} {cu su i x M n p gg th : Nat} {A : bw_H} (hG : GFg n p gg) (hxM : x + 57 + 2 * n ≤ M) (hfr : 10 ≤ R.frames) (hlo : 1200 ≤ R.locals) (hcu : cu + 20 ≤ R.cells) (hsu : su + 200 ≤ R.slots) (hi : i + 5 ≤ g.2.2.2.2.2.1) (hS : g.2.2.2.2.2.1 ≤ 2562) (hL : LI g x M n p gg th A)
    (kk : ∀ (A' : bw_H) (th' : Nat), LI g x M n p gg th' A' → bw_W g R mL_law Q (cu + 20) (su + 200) 2499 (lvL g x M i) [] A') : bw_W g R mL_law Q cu su 1727 (lvL g x M i) [] A := by
  obtain ⟨fs, hb⟩ := hL.xo
  obtain ⟨k, v, J, hk, hJ1, hJ2, hX, hM⟩ := b_value hG hxM hL (sv g i 1) (sv g i 2)
  have hk3 : k ≤ 3 := Nat.le_trans hk (by decide)
  refine bw_aload_n 1728 dL_law_1727 rfl rfl ?_
  refine bw_aload_n 1729 dL_law_1728 rfl rfl ?_
  refine bw_iload 1731 dL_law_1729 rfl rfl ?_
  refine bw_iconst (1) 1732 dL_law_1731 (by decide) rfl ?_
  refine bw_eqi (y := nI 1) rfl ?_
  refine bw_iadd 1733 dL_law_1732 rfl ?_
  refine bw_eqi (nI_add i 1) ?_
  refine bw_sld 1734 dL_law_1733 rfl (vp_in_nI (by omega) (by omega)) ?_
  refine bw_aload_n 1735 dL_law_1734 rfl rfl ?_
  refine bw_iload 1737 dL_law_1735 rfl rfl ?_
  refine bw_iconst (2) 1738 dL_law_1737 (by decide) rfl ?_
  refine bw_eqi (y := nI 2) rfl ?_
  refine bw_iadd 1739 dL_law_1738 rfl ?_
  refine bw_eqi (nI_add i 2) ?_
  refine bw_sld 1740 dL_law_1739 rfl (vp_in_nI (by omega) (by omega)) ?_
  refine bw_aload_n 1741 dL_law_1740 rfl rfl ?_
  refine bw_callH 1744 dL_law_1741 rfl hL_236 (w_value g hb hk hJ1 (fun A1 h => (hJ2 A1 h).1.1) hX) rfl rfl (Nat.le_of_ble_eq_true rfl) ⟨Nat.le_trans (Nat.le_of_ble_eq_true rfl) hfr, Nat.le_trans (Nat.le_of_ble_eq_true rfl) hlo⟩ hcu hsu (fun E A1 h => by obtain ⟨x, h, -⟩ := h; cases h) (fun v' A1 h => ?_)
  obtain ⟨y, hv, rfl, hJ, hO⟩ := h
  have hv := Sum.inl.inj hv
  subst hv
  obtain ⟨-, fm, hbM⟩ := hJ2 A1 hJ
  refine bw_istore 1746 dL_law_1744 rfl (by decide) ?_
  refine bw_aload_n 1747 dL_law_1746 rfl rfl ?_
  refine bw_aload_n 1748 dL_law_1747 rfl rfl ?_
  refine bw_iload 1750 dL_law_1748 rfl rfl ?_
  refine bw_iconst (1) 1751 dL_law_1750 (by decide) rfl ?_
  refine bw_eqi (y := nI 1) rfl ?_
  refine bw_iadd 1752 dL_law_1751 rfl ?_
  refine bw_eqi (nI_add i 1) ?_
  refine bw_sld 1753 dL_law_1752 rfl (vp_in_nI (by omega) (by omega)) ?_
  refine bw_aload_n 1754 dL_law_1753 rfl rfl ?_
  refine bw_iload 1756 dL_law_1754 rfl rfl ?_
  refine bw_iconst (2) 1757 dL_law_1756 (by decide) rfl ?_
  refine bw_eqi (y := nI 2) rfl ?_
  refine bw_iadd 1758 dL_law_1757 rfl ?_
  refine bw_eqi (nI_add i 2) ?_
  refine bw_sld 1759 dL_law_1758 rfl (vp_in_nI (by omega) (by omega)) ?_
  refine bw_callV 1762 dL_law_1759 rfl vL_238 (hM A1 hJ) hbM rfl rfl (Nat.le_of_ble_eq_true rfl) ⟨Nat.le_trans (Nat.le_of_ble_eq_true rfl) hfr, Nat.le_trans (Nat.le_of_ble_eq_true rfl) hlo⟩ hcu hsu (fun E A2 h => by obtain ⟨x, h, -⟩ := h; cases h) (fun v' A2 h => ?_)
  obtain ⟨y, hv, hyv, hL2, hO2⟩ := h
  have hv := Sum.inl.inj hv
  subst hv
  refine bw_istore 1764 dL_law_1762 rfl (by decide) ?_
  refine bw_aload_n 1765 dL_law_1764 rfl rfl ?_
  obtain ⟨rn, mn, pn, sn, rd, rs, pt, hmd⟩ := hL2.md
  refine bw_cVi 1768 dL_law_1765 rfl vL_156 (m_thrown g (bw_has.one hmd)) hmd rfl rfl (Nat.le_of_ble_eq_true rfl) ⟨Nat.le_trans (Nat.le_of_ble_eq_true rfl) hfr, Nat.le_trans (Nat.le_of_ble_eq_true rfl) hlo⟩ hcu hsu ?_
  refine bw_iload 1770 dL_law_1768 rfl rfl ?_
  refine bw_icmp_eq 1775 1773 dL_law_1770 rfl rfl (fun _ => ?_) (fun c => absurd rfl c)
  refine bw_iload 1777 dL_law_1775 rfl rfl ?_
  refine bw_if_ne 1792 1780 dL_law_1777 rfl rfl (fun c => ?_) (fun c => ?_)
  · refine bw_goto 2499 dL_law_1792 rfl ?_
    exact bw_loc (lvL g x M i) ⟨rfl, rfl, rfl, rfl, rfl, trivial⟩ (kk _ _ hL2)
  · have hk0 : k = 0 := (xn_eq0 (by omega)).mp c
    obtain ⟨f, hf, hf0⟩ := hO hk0
    refine bw_aload_n 1781 dL_law_1780 rfl rfl ?_
    refine bw_iconst (0) 1782 dL_law_1781 (by decide) rfl ?_
    refine bw_lald 1783 dL_law_1782 rfl (hO2.trans hf) (vp_in_nI (n := 0) (N := 1) (by decide) (by decide)) ?_
    refine bw_iload 1785 dL_law_1783 rfl rfl ?_
    refine bw_i2l 1786 dL_law_1785 rfl ?_
    refine bw_lcmp 1787 dL_law_1786 rfl ?_
    refine bw_if_eq 1792 1790 dL_law_1787 rfl rfl (fun _ => ?_) (fun c => absurd (show lg_cmp (f 0) y.toInt64 = 0 by rw [hyv hk0, hf0]; exact lg_same _) c)
    refine bw_goto 2499 dL_law_1792 rfl ?_
    exact bw_loc (lvL g x M i) ⟨rfl, rfl, rfl, rfl, rfl, trivial⟩ (kk _ _ hL2)
set_option maxHeartbeats 1000000 in
theorem lc_plus (g : bw_G) {R : Room} {Q : bw_O → bw_H → Prop} {cu su i x M n p gg th : Nat} {A : bw_H} (hG : GFg n p gg) (hxM : x + 57 + 2 * n ≤ M) (hfr : 10 ≤ R.frames) (hlo : 1200 ≤ R.locals) (hcu : cu + 20 ≤ R.cells) (hsu : su + 200 ≤ R.slots) (hi : i + 5 ≤ g.2.2.2.2.2.1) (hS : g.2.2.2.2.2.1 ≤ 2562) (hL : LI g x M n p gg th A)
    (kk : ∀ (A' : bw_H) (th' : Nat), LI g x M n p gg th' A' → bw_W g R mL_law Q (cu + 20) (su + 200) 2499 (lvL g x M i) [] A') : bw_W g R mL_law Q cu su 1795 (lvL g x M i) [] A := by
  obtain ⟨fs, hb⟩ := hL.xo
  obtain ⟨k, v, J, hk, hJ1, hJ2, hX, hM⟩ := b_plus hG hxM hL (sv g i 1) (sv g i 2)
  have hk3 : k ≤ 3 := Nat.le_trans hk (by decide)
  refine bw_aload_n 1796 dL_law_1795 rfl rfl ?_
  refine bw_aload_n 1797 dL_law_1796 rfl rfl ?_
  refine bw_iload 1799 dL_law_1797 rfl rfl ?_
  refine bw_iconst (1) 1800 dL_law_1799 (by decide) rfl ?_
  refine bw_eqi (y := nI 1) rfl ?_
  refine bw_iadd 1801 dL_law_1800 rfl ?_
  refine bw_eqi (nI_add i 1) ?_
  refine bw_sld 1802 dL_law_1801 rfl (vp_in_nI (by omega) (by omega)) ?_
  refine bw_aload_n 1803 dL_law_1802 rfl rfl ?_
  refine bw_iload 1805 dL_law_1803 rfl rfl ?_
  refine bw_iconst (2) 1806 dL_law_1805 (by decide) rfl ?_
  refine bw_eqi (y := nI 2) rfl ?_
  refine bw_iadd 1807 dL_law_1806 rfl ?_
  refine bw_eqi (nI_add i 2) ?_
  refine bw_sld 1808 dL_law_1807 rfl (vp_in_nI (by omega) (by omega)) ?_
  refine bw_aload_n 1809 dL_law_1808 rfl rfl ?_
  refine bw_callH 1812 dL_law_1809 rfl hL_239 (w_plus g hb hk hJ1 (fun A1 h => (hJ2 A1 h).1.1) hX) rfl rfl (Nat.le_of_ble_eq_true rfl) ⟨Nat.le_trans (Nat.le_of_ble_eq_true rfl) hfr, Nat.le_trans (Nat.le_of_ble_eq_true rfl) hlo⟩ hcu hsu (fun E A1 h => by obtain ⟨x, h, -⟩ := h; cases h) (fun v' A1 h => ?_)
  obtain ⟨y, hv, rfl, hJ, hO⟩ := h
  have hv := Sum.inl.inj hv
  subst hv
  obtain ⟨-, fm, hbM⟩ := hJ2 A1 hJ
  refine bw_istore 1814 dL_law_1812 rfl (by decide) ?_
  refine bw_aload_n 1815 dL_law_1814 rfl rfl ?_
  refine bw_aload_n 1816 dL_law_1815 rfl rfl ?_
  refine bw_iload 1818 dL_law_1816 rfl rfl ?_
  refine bw_iconst (1) 1819 dL_law_1818 (by decide) rfl ?_
  refine bw_eqi (y := nI 1) rfl ?_
  refine bw_iadd 1820 dL_law_1819 rfl ?_
  refine bw_eqi (nI_add i 1) ?_
  refine bw_sld 1821 dL_law_1820 rfl (vp_in_nI (by omega) (by omega)) ?_
  refine bw_aload_n 1822 dL_law_1821 rfl rfl ?_
  refine bw_iload 1824 dL_law_1822 rfl rfl ?_
  refine bw_iconst (2) 1825 dL_law_1824 (by decide) rfl ?_
  refine bw_eqi (y := nI 2) rfl ?_
  refine bw_iadd 1826 dL_law_1825 rfl ?_
  refine bw_eqi (nI_add i 2) ?_
  refine bw_sld 1827 dL_law_1826 rfl (vp_in_nI (by omega) (by omega)) ?_
  refine bw_callV 1830 dL_law_1827 rfl vL_241 (hM A1 hJ) hbM rfl rfl (Nat.le_of_ble_eq_true rfl) ⟨Nat.le_trans (Nat.le_of_ble_eq_true rfl) hfr, Nat.le_trans (Nat.le_of_ble_eq_true rfl) hlo⟩ hcu hsu (fun E A2 h => by obtain ⟨x, h, -⟩ := h; cases h) (fun v' A2 h => ?_)
  obtain ⟨y, hv, hyv, hL2, hO2⟩ := h
  have hv := Sum.inl.inj hv
  subst hv
  refine bw_istore 1832 dL_law_1830 rfl (by decide) ?_
  refine bw_aload_n 1833 dL_law_1832 rfl rfl ?_
  obtain ⟨rn, mn, pn, sn, rd, rs, pt, hmd⟩ := hL2.md
  refine bw_cVi 1836 dL_law_1833 rfl vL_156 (m_thrown g (bw_has.one hmd)) hmd rfl rfl (Nat.le_of_ble_eq_true rfl) ⟨Nat.le_trans (Nat.le_of_ble_eq_true rfl) hfr, Nat.le_trans (Nat.le_of_ble_eq_true rfl) hlo⟩ hcu hsu ?_
  refine bw_iload 1838 dL_law_1836 rfl rfl ?_
  refine bw_icmp_eq 1843 1841 dL_law_1838 rfl rfl (fun _ => ?_) (fun c => absurd rfl c)
  refine bw_iload 1845 dL_law_1843 rfl rfl ?_
  refine bw_if_ne 1860 1848 dL_law_1845 rfl rfl (fun c => ?_) (fun c => ?_)
  · refine bw_goto 2499 dL_law_1860 rfl ?_
    exact bw_loc (lvL g x M i) ⟨rfl, rfl, rfl, rfl, rfl, trivial⟩ (kk _ _ hL2)
  · have hk0 : k = 0 := (xn_eq0 (by omega)).mp c
    obtain ⟨f, hf, hf0⟩ := hO hk0
    refine bw_aload_n 1849 dL_law_1848 rfl rfl ?_
    refine bw_iconst (0) 1850 dL_law_1849 (by decide) rfl ?_
    refine bw_lald 1851 dL_law_1850 rfl (hO2.trans hf) (vp_in_nI (n := 0) (N := 1) (by decide) (by decide)) ?_
    refine bw_iload 1853 dL_law_1851 rfl rfl ?_
    refine bw_i2l 1854 dL_law_1853 rfl ?_
    refine bw_lcmp 1855 dL_law_1854 rfl ?_
    refine bw_if_eq 1860 1858 dL_law_1855 rfl rfl (fun _ => ?_) (fun c => absurd (show lg_cmp (f 0) y.toInt64 = 0 by rw [hyv hk0, hf0]; exact lg_same _) c)
    refine bw_goto 2499 dL_law_1860 rfl ?_
    exact bw_loc (lvL g x M i) ⟨rfl, rfl, rfl, rfl, rfl, trivial⟩ (kk _ _ hL2)
set_option maxHeartbeats 1000000 in
theorem lc_multiply (g : bw_G) {R : Room} {Q : bw_O → bw_H → Prop} {cu su i x M n p gg th : Nat} {A : bw_H} (hG : GFg n p gg) (hxM : x + 57 + 2 * n ≤ M) (hfr : 10 ≤ R.frames) (hlo : 1200 ≤ R.locals) (hcu : cu + 20 ≤ R.cells) (hsu : su + 200 ≤ R.slots) (hi : i + 5 ≤ g.2.2.2.2.2.1) (hS : g.2.2.2.2.2.1 ≤ 2562) (hL : LI g x M n p gg th A)
    (kk : ∀ (A' : bw_H) (th' : Nat), LI g x M n p gg th' A' → bw_W g R mL_law Q (cu + 20) (su + 200) 2499 (lvL g x M i) [] A') : bw_W g R mL_law Q cu su 1863 (lvL g x M i) [] A := by
  obtain ⟨fs, hb⟩ := hL.xo
  obtain ⟨k, v, J, hk, hJ1, hJ2, hX, hM⟩ := b_multiply hG hxM hL (sv g i 1) (sv g i 2)
  have hk3 : k ≤ 3 := Nat.le_trans hk (by decide)
  refine bw_aload_n 1864 dL_law_1863 rfl rfl ?_
  refine bw_aload_n 1865 dL_law_1864 rfl rfl ?_
  refine bw_iload 1867 dL_law_1865 rfl rfl ?_
  refine bw_iconst (1) 1868 dL_law_1867 (by decide) rfl ?_
  refine bw_eqi (y := nI 1) rfl ?_
  refine bw_iadd 1869 dL_law_1868 rfl ?_
  refine bw_eqi (nI_add i 1) ?_
  refine bw_sld 1870 dL_law_1869 rfl (vp_in_nI (by omega) (by omega)) ?_
  refine bw_aload_n 1871 dL_law_1870 rfl rfl ?_
  refine bw_iload 1873 dL_law_1871 rfl rfl ?_
  refine bw_iconst (2) 1874 dL_law_1873 (by decide) rfl ?_
  refine bw_eqi (y := nI 2) rfl ?_
  refine bw_iadd 1875 dL_law_1874 rfl ?_
  refine bw_eqi (nI_add i 2) ?_
  refine bw_sld 1876 dL_law_1875 rfl (vp_in_nI (by omega) (by omega)) ?_
  refine bw_aload_n 1877 dL_law_1876 rfl rfl ?_
  refine bw_callH 1880 dL_law_1877 rfl hL_242 (w_multiply g hb hk hJ1 (fun A1 h => (hJ2 A1 h).1.1) hX) rfl rfl (Nat.le_of_ble_eq_true rfl) ⟨Nat.le_trans (Nat.le_of_ble_eq_true rfl) hfr, Nat.le_trans (Nat.le_of_ble_eq_true rfl) hlo⟩ hcu hsu (fun E A1 h => by obtain ⟨x, h, -⟩ := h; cases h) (fun v' A1 h => ?_)
  obtain ⟨y, hv, rfl, hJ, hO⟩ := h
  have hv := Sum.inl.inj hv
  subst hv
  obtain ⟨-, fm, hbM⟩ := hJ2 A1 hJ
  refine bw_istore 1882 dL_law_1880 rfl (by decide) ?_
  refine bw_aload_n 1883 dL_law_1882 rfl rfl ?_
  refine bw_aload_n 1884 dL_law_1883 rfl rfl ?_
  refine bw_iload 1886 dL_law_1884 rfl rfl ?_
  refine bw_iconst (1) 1887 dL_law_1886 (by decide) rfl ?_
  refine bw_eqi (y := nI 1) rfl ?_
  refine bw_iadd 1888 dL_law_1887 rfl ?_
  refine bw_eqi (nI_add i 1) ?_
  refine bw_sld 1889 dL_law_1888 rfl (vp_in_nI (by omega) (by omega)) ?_
  refine bw_aload_n 1890 dL_law_1889 rfl rfl ?_
  refine bw_iload 1892 dL_law_1890 rfl rfl ?_
  refine bw_iconst (2) 1893 dL_law_1892 (by decide) rfl ?_
  refine bw_eqi (y := nI 2) rfl ?_
  refine bw_iadd 1894 dL_law_1893 rfl ?_
  refine bw_eqi (nI_add i 2) ?_
  refine bw_sld 1895 dL_law_1894 rfl (vp_in_nI (by omega) (by omega)) ?_
  refine bw_callV 1898 dL_law_1895 rfl vL_244 (hM A1 hJ) hbM rfl rfl (Nat.le_of_ble_eq_true rfl) ⟨Nat.le_trans (Nat.le_of_ble_eq_true rfl) hfr, Nat.le_trans (Nat.le_of_ble_eq_true rfl) hlo⟩ hcu hsu (fun E A2 h => by obtain ⟨x, h, -⟩ := h; cases h) (fun v' A2 h => ?_)
  obtain ⟨y, hv, hyv, hL2, hO2⟩ := h
  have hv := Sum.inl.inj hv
  subst hv
  refine bw_istore 1900 dL_law_1898 rfl (by decide) ?_
  refine bw_aload_n 1901 dL_law_1900 rfl rfl ?_
  obtain ⟨rn, mn, pn, sn, rd, rs, pt, hmd⟩ := hL2.md
  refine bw_cVi 1904 dL_law_1901 rfl vL_156 (m_thrown g (bw_has.one hmd)) hmd rfl rfl (Nat.le_of_ble_eq_true rfl) ⟨Nat.le_trans (Nat.le_of_ble_eq_true rfl) hfr, Nat.le_trans (Nat.le_of_ble_eq_true rfl) hlo⟩ hcu hsu ?_
  refine bw_iload 1906 dL_law_1904 rfl rfl ?_
  refine bw_icmp_eq 1911 1909 dL_law_1906 rfl rfl (fun _ => ?_) (fun c => absurd rfl c)
  refine bw_iload 1913 dL_law_1911 rfl rfl ?_
  refine bw_if_ne 1928 1916 dL_law_1913 rfl rfl (fun c => ?_) (fun c => ?_)
  · refine bw_goto 2499 dL_law_1928 rfl ?_
    exact bw_loc (lvL g x M i) ⟨rfl, rfl, rfl, rfl, rfl, trivial⟩ (kk _ _ hL2)
  · have hk0 : k = 0 := (xn_eq0 (by omega)).mp c
    obtain ⟨f, hf, hf0⟩ := hO hk0
    refine bw_aload_n 1917 dL_law_1916 rfl rfl ?_
    refine bw_iconst (0) 1918 dL_law_1917 (by decide) rfl ?_
    refine bw_lald 1919 dL_law_1918 rfl (hO2.trans hf) (vp_in_nI (n := 0) (N := 1) (by decide) (by decide)) ?_
    refine bw_iload 1921 dL_law_1919 rfl rfl ?_
    refine bw_i2l 1922 dL_law_1921 rfl ?_
    refine bw_lcmp 1923 dL_law_1922 rfl ?_
    refine bw_if_eq 1928 1926 dL_law_1923 rfl rfl (fun _ => ?_) (fun c => absurd (show lg_cmp (f 0) y.toInt64 = 0 by rw [hyv hk0, hf0]; exact lg_same _) c)
    refine bw_goto 2499 dL_law_1928 rfl ?_
    exact bw_loc (lvL g x M i) ⟨rfl, rfl, rfl, rfl, rfl, trivial⟩ (kk _ _ hL2)
set_option maxHeartbeats 1000000 in
theorem lc_divide (g : bw_G) {R : Room} {Q : bw_O → bw_H → Prop} {cu su i x M n p gg th : Nat} {A : bw_H} (hG : GFg n p gg) (hxM : x + 57 + 2 * n ≤ M) (hfr : 10 ≤ R.frames) (hlo : 1200 ≤ R.locals) (hcu : cu + 20 ≤ R.cells) (hsu : su + 200 ≤ R.slots) (hi : i + 5 ≤ g.2.2.2.2.2.1) (hS : g.2.2.2.2.2.1 ≤ 2562) (hL : LI g x M n p gg th A)
    (kk : ∀ (A' : bw_H) (th' : Nat), LI g x M n p gg th' A' → bw_W g R mL_law Q (cu + 20) (su + 200) 2499 (lvL g x M i) [] A') : bw_W g R mL_law Q cu su 1931 (lvL g x M i) [] A := by
  obtain ⟨fs, hb⟩ := hL.xo
  by_cases hz : sv g i 3 = 0
  · skip
    obtain ⟨k, v, J, hk, hJ1, hJ2, hX, hM⟩ := b_divideQ hG hxM hL (sv g i 1) (sv g i 2)
    have hk3 : k ≤ 3 := Nat.le_trans hk (by decide)
    refine bw_aload_n 1932 dL_law_1931 rfl rfl ?_
    refine bw_aload_n 1933 dL_law_1932 rfl rfl ?_
    refine bw_iload 1935 dL_law_1933 rfl rfl ?_
    refine bw_iconst (1) 1936 dL_law_1935 (by decide) rfl ?_
    refine bw_eqi (y := nI 1) rfl ?_
    refine bw_iadd 1937 dL_law_1936 rfl ?_
    refine bw_eqi (nI_add i 1) ?_
    refine bw_sld 1938 dL_law_1937 rfl (vp_in_nI (by omega) (by omega)) ?_
    refine bw_aload_n 1939 dL_law_1938 rfl rfl ?_
    refine bw_iload 1941 dL_law_1939 rfl rfl ?_
    refine bw_iconst (2) 1942 dL_law_1941 (by decide) rfl ?_
    refine bw_eqi (y := nI 2) rfl ?_
    refine bw_iadd 1943 dL_law_1942 rfl ?_
    refine bw_eqi (nI_add i 2) ?_
    refine bw_sld 1944 dL_law_1943 rfl (vp_in_nI (by omega) (by omega)) ?_
    refine bw_aload_n 1945 dL_law_1944 rfl rfl ?_
    refine bw_iload 1947 dL_law_1945 rfl rfl ?_
    refine bw_iconst (3) 1948 dL_law_1947 (by decide) rfl ?_
    refine bw_eqi (y := nI 3) rfl ?_
    refine bw_iadd 1949 dL_law_1948 rfl ?_
    refine bw_eqi (nI_add i 3) ?_
    refine bw_sld 1950 dL_law_1949 rfl (vp_in_nI (by omega) (by omega)) ?_
    refine bw_if_eq 1957 1953 dL_law_1950 rfl rfl (fun _ => ?_) (fun c => absurd hz c)
    refine bw_iconst (0) 1958 dL_law_1957 (by decide) rfl ?_
    refine bw_aload_n 1959 dL_law_1958 rfl rfl ?_
    refine bw_callH 1962 dL_law_1959 rfl hL_245 (w_divide g hb hk hJ1 (fun A1 h => (hJ2 A1 h).1.1) hX) rfl rfl (Nat.le_of_ble_eq_true rfl) ⟨Nat.le_trans (Nat.le_of_ble_eq_true rfl) hfr, Nat.le_trans (Nat.le_of_ble_eq_true rfl) hlo⟩ hcu hsu (fun E A1 h => by obtain ⟨x, h, -⟩ := h; cases h) (fun v' A1 h => ?_)
    obtain ⟨y, hv, rfl, hJ, hO⟩ := h
    have hv := Sum.inl.inj hv
    subst hv
    obtain ⟨-, fm, hbM⟩ := hJ2 A1 hJ
    refine bw_istore 1964 dL_law_1962 rfl (by decide) ?_
    refine bw_aload_n 1965 dL_law_1964 rfl rfl ?_
    refine bw_aload_n 1966 dL_law_1965 rfl rfl ?_
    refine bw_iload 1968 dL_law_1966 rfl rfl ?_
    refine bw_iconst (1) 1969 dL_law_1968 (by decide) rfl ?_
    refine bw_eqi (y := nI 1) rfl ?_
    refine bw_iadd 1970 dL_law_1969 rfl ?_
    refine bw_eqi (nI_add i 1) ?_
    refine bw_sld 1971 dL_law_1970 rfl (vp_in_nI (by omega) (by omega)) ?_
    refine bw_aload_n 1972 dL_law_1971 rfl rfl ?_
    refine bw_iload 1974 dL_law_1972 rfl rfl ?_
    refine bw_iconst (2) 1975 dL_law_1974 (by decide) rfl ?_
    refine bw_eqi (y := nI 2) rfl ?_
    refine bw_iadd 1976 dL_law_1975 rfl ?_
    refine bw_eqi (nI_add i 2) ?_
    refine bw_sld 1977 dL_law_1976 rfl (vp_in_nI (by omega) (by omega)) ?_
    refine bw_aload_n 1978 dL_law_1977 rfl rfl ?_
    refine bw_iload 1980 dL_law_1978 rfl rfl ?_
    refine bw_iconst (3) 1981 dL_law_1980 (by decide) rfl ?_
    refine bw_eqi (y := nI 3) rfl ?_
    refine bw_iadd 1982 dL_law_1981 rfl ?_
    refine bw_eqi (nI_add i 3) ?_
    refine bw_sld 1983 dL_law_1982 rfl (vp_in_nI (by omega) (by omega)) ?_
    refine bw_if_eq 1990 1986 dL_law_1983 rfl rfl (fun _ => ?_) (fun c => absurd hz c)
    refine bw_iconst (0) 1991 dL_law_1990 (by decide) rfl ?_
    refine bw_callV 1994 dL_law_1991 rfl vL_248 (hM A1 hJ) hbM rfl rfl (Nat.le_of_ble_eq_true rfl) ⟨Nat.le_trans (Nat.le_of_ble_eq_true rfl) hfr, Nat.le_trans (Nat.le_of_ble_eq_true rfl) hlo⟩ hcu hsu (fun E A2 h => by obtain ⟨x, h, -⟩ := h; cases h) (fun v' A2 h => ?_)
    obtain ⟨y, hv, hyv, hL2, hO2⟩ := h
    have hv := Sum.inl.inj hv
    subst hv
    refine bw_istore 1996 dL_law_1994 rfl (by decide) ?_
    refine bw_aload_n 1997 dL_law_1996 rfl rfl ?_
    obtain ⟨rn, mn, pn, sn, rd, rs, pt, hmd⟩ := hL2.md
    refine bw_cVi 2000 dL_law_1997 rfl vL_156 (m_thrown g (bw_has.one hmd)) hmd rfl rfl (Nat.le_of_ble_eq_true rfl) ⟨Nat.le_trans (Nat.le_of_ble_eq_true rfl) hfr, Nat.le_trans (Nat.le_of_ble_eq_true rfl) hlo⟩ hcu hsu ?_
    refine bw_iload 2002 dL_law_2000 rfl rfl ?_
    refine bw_icmp_eq 2007 2005 dL_law_2002 rfl rfl (fun _ => ?_) (fun c => absurd rfl c)
    refine bw_iload 2009 dL_law_2007 rfl rfl ?_
    refine bw_if_ne 2024 2012 dL_law_2009 rfl rfl (fun c => ?_) (fun c => ?_)
    · refine bw_goto 2499 dL_law_2024 rfl ?_
      exact bw_loc (lvL g x M i) ⟨rfl, rfl, rfl, rfl, rfl, trivial⟩ (kk _ _ hL2)
    · have hk0 : k = 0 := (xn_eq0 (by omega)).mp c
      obtain ⟨f, hf, hf0⟩ := hO hk0
      refine bw_aload_n 2013 dL_law_2012 rfl rfl ?_
      refine bw_iconst (0) 2014 dL_law_2013 (by decide) rfl ?_
      refine bw_lald 2015 dL_law_2014 rfl (hO2.trans hf) (vp_in_nI (n := 0) (N := 1) (by decide) (by decide)) ?_
      refine bw_iload 2017 dL_law_2015 rfl rfl ?_
      refine bw_i2l 2018 dL_law_2017 rfl ?_
      refine bw_lcmp 2019 dL_law_2018 rfl ?_
      refine bw_if_eq 2024 2022 dL_law_2019 rfl rfl (fun _ => ?_) (fun c => absurd (show lg_cmp (f 0) y.toInt64 = 0 by rw [hyv hk0, hf0]; exact lg_same _) c)
      refine bw_goto 2499 dL_law_2024 rfl ?_
      exact bw_loc (lvL g x M i) ⟨rfl, rfl, rfl, rfl, rfl, trivial⟩ (kk _ _ hL2)
  · skip
    obtain ⟨k, v, J, hk, hJ1, hJ2, hX, hM⟩ := b_divideR hG hxM hL (sv g i 1) (sv g i 2)
    have hk3 : k ≤ 3 := Nat.le_trans hk (by decide)
    refine bw_aload_n 1932 dL_law_1931 rfl rfl ?_
    refine bw_aload_n 1933 dL_law_1932 rfl rfl ?_
    refine bw_iload 1935 dL_law_1933 rfl rfl ?_
    refine bw_iconst (1) 1936 dL_law_1935 (by decide) rfl ?_
    refine bw_eqi (y := nI 1) rfl ?_
    refine bw_iadd 1937 dL_law_1936 rfl ?_
    refine bw_eqi (nI_add i 1) ?_
    refine bw_sld 1938 dL_law_1937 rfl (vp_in_nI (by omega) (by omega)) ?_
    refine bw_aload_n 1939 dL_law_1938 rfl rfl ?_
    refine bw_iload 1941 dL_law_1939 rfl rfl ?_
    refine bw_iconst (2) 1942 dL_law_1941 (by decide) rfl ?_
    refine bw_eqi (y := nI 2) rfl ?_
    refine bw_iadd 1943 dL_law_1942 rfl ?_
    refine bw_eqi (nI_add i 2) ?_
    refine bw_sld 1944 dL_law_1943 rfl (vp_in_nI (by omega) (by omega)) ?_
    refine bw_aload_n 1945 dL_law_1944 rfl rfl ?_
    refine bw_iload 1947 dL_law_1945 rfl rfl ?_
    refine bw_iconst (3) 1948 dL_law_1947 (by decide) rfl ?_
    refine bw_eqi (y := nI 3) rfl ?_
    refine bw_iadd 1949 dL_law_1948 rfl ?_
    refine bw_eqi (nI_add i 3) ?_
    refine bw_sld 1950 dL_law_1949 rfl (vp_in_nI (by omega) (by omega)) ?_
    refine bw_if_eq 1957 1953 dL_law_1950 rfl rfl (fun c => absurd c hz) (fun _ => ?_)
    refine bw_iconst (1) 1954 dL_law_1953 (by decide) rfl ?_
    refine bw_goto 1958 dL_law_1954 rfl ?_
    refine bw_aload_n 1959 dL_law_1958 rfl rfl ?_
    refine bw_callH 1962 dL_law_1959 rfl hL_245 (w_divide g hb hk hJ1 (fun A1 h => (hJ2 A1 h).1.1) hX) rfl rfl (Nat.le_of_ble_eq_true rfl) ⟨Nat.le_trans (Nat.le_of_ble_eq_true rfl) hfr, Nat.le_trans (Nat.le_of_ble_eq_true rfl) hlo⟩ hcu hsu (fun E A1 h => by obtain ⟨x, h, -⟩ := h; cases h) (fun v' A1 h => ?_)
    obtain ⟨y, hv, rfl, hJ, hO⟩ := h
    have hv := Sum.inl.inj hv
    subst hv
    obtain ⟨-, fm, hbM⟩ := hJ2 A1 hJ
    refine bw_istore 1964 dL_law_1962 rfl (by decide) ?_
    refine bw_aload_n 1965 dL_law_1964 rfl rfl ?_
    refine bw_aload_n 1966 dL_law_1965 rfl rfl ?_
    refine bw_iload 1968 dL_law_1966 rfl rfl ?_
    refine bw_iconst (1) 1969 dL_law_1968 (by decide) rfl ?_
    refine bw_eqi (y := nI 1) rfl ?_
    refine bw_iadd 1970 dL_law_1969 rfl ?_
    refine bw_eqi (nI_add i 1) ?_
    refine bw_sld 1971 dL_law_1970 rfl (vp_in_nI (by omega) (by omega)) ?_
    refine bw_aload_n 1972 dL_law_1971 rfl rfl ?_
    refine bw_iload 1974 dL_law_1972 rfl rfl ?_
    refine bw_iconst (2) 1975 dL_law_1974 (by decide) rfl ?_
    refine bw_eqi (y := nI 2) rfl ?_
    refine bw_iadd 1976 dL_law_1975 rfl ?_
    refine bw_eqi (nI_add i 2) ?_
    refine bw_sld 1977 dL_law_1976 rfl (vp_in_nI (by omega) (by omega)) ?_
    refine bw_aload_n 1978 dL_law_1977 rfl rfl ?_
    refine bw_iload 1980 dL_law_1978 rfl rfl ?_
    refine bw_iconst (3) 1981 dL_law_1980 (by decide) rfl ?_
    refine bw_eqi (y := nI 3) rfl ?_
    refine bw_iadd 1982 dL_law_1981 rfl ?_
    refine bw_eqi (nI_add i 3) ?_
    refine bw_sld 1983 dL_law_1982 rfl (vp_in_nI (by omega) (by omega)) ?_
    refine bw_if_eq 1990 1986 dL_law_1983 rfl rfl (fun c => absurd c hz) (fun _ => ?_)
    refine bw_iconst (1) 1987 dL_law_1986 (by decide) rfl ?_
    refine bw_goto 1991 dL_law_1987 rfl ?_
    refine bw_callV 1994 dL_law_1991 rfl vL_248 (hM A1 hJ) hbM rfl rfl (Nat.le_of_ble_eq_true rfl) ⟨Nat.le_trans (Nat.le_of_ble_eq_true rfl) hfr, Nat.le_trans (Nat.le_of_ble_eq_true rfl) hlo⟩ hcu hsu (fun E A2 h => by obtain ⟨x, h, -⟩ := h; cases h) (fun v' A2 h => ?_)
    obtain ⟨y, hv, hyv, hL2, hO2⟩ := h
    have hv := Sum.inl.inj hv
    subst hv
    refine bw_istore 1996 dL_law_1994 rfl (by decide) ?_
    refine bw_aload_n 1997 dL_law_1996 rfl rfl ?_
    obtain ⟨rn, mn, pn, sn, rd, rs, pt, hmd⟩ := hL2.md
    refine bw_cVi 2000 dL_law_1997 rfl vL_156 (m_thrown g (bw_has.one hmd)) hmd rfl rfl (Nat.le_of_ble_eq_true rfl) ⟨Nat.le_trans (Nat.le_of_ble_eq_true rfl) hfr, Nat.le_trans (Nat.le_of_ble_eq_true rfl) hlo⟩ hcu hsu ?_
    refine bw_iload 2002 dL_law_2000 rfl rfl ?_
    refine bw_icmp_eq 2007 2005 dL_law_2002 rfl rfl (fun _ => ?_) (fun c => absurd rfl c)
    refine bw_iload 2009 dL_law_2007 rfl rfl ?_
    refine bw_if_ne 2024 2012 dL_law_2009 rfl rfl (fun c => ?_) (fun c => ?_)
    · refine bw_goto 2499 dL_law_2024 rfl ?_
      exact bw_loc (lvL g x M i) ⟨rfl, rfl, rfl, rfl, rfl, trivial⟩ (kk _ _ hL2)
    · have hk0 : k = 0 := (xn_eq0 (by omega)).mp c
      obtain ⟨f, hf, hf0⟩ := hO hk0
      refine bw_aload_n 2013 dL_law_2012 rfl rfl ?_
      refine bw_iconst (0) 2014 dL_law_2013 (by decide) rfl ?_
      refine bw_lald 2015 dL_law_2014 rfl (hO2.trans hf) (vp_in_nI (n := 0) (N := 1) (by decide) (by decide)) ?_
      refine bw_iload 2017 dL_law_2015 rfl rfl ?_
      refine bw_i2l 2018 dL_law_2017 rfl ?_
      refine bw_lcmp 2019 dL_law_2018 rfl ?_
      refine bw_if_eq 2024 2022 dL_law_2019 rfl rfl (fun _ => ?_) (fun c => absurd (show lg_cmp (f 0) y.toInt64 = 0 by rw [hyv hk0, hf0]; exact lg_same _) c)
      refine bw_goto 2499 dL_law_2024 rfl ?_
      exact bw_loc (lvL g x M i) ⟨rfl, rfl, rfl, rfl, rfl, trivial⟩ (kk _ _ hL2)
set_option maxHeartbeats 1000000 in
theorem lc_common (g : bw_G) {R : Room} {Q : bw_O → bw_H → Prop} {cu su i x M n p gg th : Nat} {A : bw_H} (hG : GFg n p gg) (hxM : x + 57 + 2 * n ≤ M) (hfr : 10 ≤ R.frames) (hlo : 1200 ≤ R.locals) (hcu : cu + 20 ≤ R.cells) (hsu : su + 200 ≤ R.slots) (hi : i + 5 ≤ g.2.2.2.2.2.1) (hS : g.2.2.2.2.2.1 ≤ 2562) (hL : LI g x M n p gg th A)
    (kk : ∀ (A' : bw_H) (th' : Nat), LI g x M n p gg th' A' → bw_W g R mL_law Q (cu + 20) (su + 200) 2499 (lvL g x M i) [] A') : bw_W g R mL_law Q cu su 2027 (lvL g x M i) [] A := by
  obtain ⟨fs, hb⟩ := hL.xo
  obtain ⟨k, v, J, hk, hJ1, hJ2, hX, hM⟩ := b_common hG hxM hL (sv g i 1) (sv g i 2)
  have hk3 : k ≤ 3 := Nat.le_trans hk (by decide)
  refine bw_aload_n 2028 dL_law_2027 rfl rfl ?_
  refine bw_aload_n 2029 dL_law_2028 rfl rfl ?_
  refine bw_iload 2031 dL_law_2029 rfl rfl ?_
  refine bw_iconst (1) 2032 dL_law_2031 (by decide) rfl ?_
  refine bw_eqi (y := nI 1) rfl ?_
  refine bw_iadd 2033 dL_law_2032 rfl ?_
  refine bw_eqi (nI_add i 1) ?_
  refine bw_sld 2034 dL_law_2033 rfl (vp_in_nI (by omega) (by omega)) ?_
  refine bw_aload_n 2035 dL_law_2034 rfl rfl ?_
  refine bw_iload 2037 dL_law_2035 rfl rfl ?_
  refine bw_iconst (2) 2038 dL_law_2037 (by decide) rfl ?_
  refine bw_eqi (y := nI 2) rfl ?_
  refine bw_iadd 2039 dL_law_2038 rfl ?_
  refine bw_eqi (nI_add i 2) ?_
  refine bw_sld 2040 dL_law_2039 rfl (vp_in_nI (by omega) (by omega)) ?_
  refine bw_aload_n 2041 dL_law_2040 rfl rfl ?_
  refine bw_callH 2044 dL_law_2041 rfl hL_249 (w_common g hb hk hJ1 (fun A1 h => (hJ2 A1 h).1.1) hX) rfl rfl (Nat.le_of_ble_eq_true rfl) ⟨Nat.le_trans (Nat.le_of_ble_eq_true rfl) hfr, Nat.le_trans (Nat.le_of_ble_eq_true rfl) hlo⟩ hcu hsu (fun E A1 h => by obtain ⟨x, h, -⟩ := h; cases h) (fun v' A1 h => ?_)
  obtain ⟨y, hv, rfl, hJ, hO⟩ := h
  have hv := Sum.inl.inj hv
  subst hv
  obtain ⟨-, fm, hbM⟩ := hJ2 A1 hJ
  refine bw_istore 2046 dL_law_2044 rfl (by decide) ?_
  refine bw_aload_n 2047 dL_law_2046 rfl rfl ?_
  refine bw_aload_n 2048 dL_law_2047 rfl rfl ?_
  refine bw_iload 2050 dL_law_2048 rfl rfl ?_
  refine bw_iconst (1) 2051 dL_law_2050 (by decide) rfl ?_
  refine bw_eqi (y := nI 1) rfl ?_
  refine bw_iadd 2052 dL_law_2051 rfl ?_
  refine bw_eqi (nI_add i 1) ?_
  refine bw_sld 2053 dL_law_2052 rfl (vp_in_nI (by omega) (by omega)) ?_
  refine bw_aload_n 2054 dL_law_2053 rfl rfl ?_
  refine bw_iload 2056 dL_law_2054 rfl rfl ?_
  refine bw_iconst (2) 2057 dL_law_2056 (by decide) rfl ?_
  refine bw_eqi (y := nI 2) rfl ?_
  refine bw_iadd 2058 dL_law_2057 rfl ?_
  refine bw_eqi (nI_add i 2) ?_
  refine bw_sld 2059 dL_law_2058 rfl (vp_in_nI (by omega) (by omega)) ?_
  refine bw_callV 2062 dL_law_2059 rfl vL_251 (hM A1 hJ) hbM rfl rfl (Nat.le_of_ble_eq_true rfl) ⟨Nat.le_trans (Nat.le_of_ble_eq_true rfl) hfr, Nat.le_trans (Nat.le_of_ble_eq_true rfl) hlo⟩ hcu hsu (fun E A2 h => by obtain ⟨x, h, -⟩ := h; cases h) (fun v' A2 h => ?_)
  obtain ⟨y, hv, hyv, hL2, hO2⟩ := h
  have hv := Sum.inl.inj hv
  subst hv
  refine bw_istore 2064 dL_law_2062 rfl (by decide) ?_
  refine bw_aload_n 2065 dL_law_2064 rfl rfl ?_
  obtain ⟨rn, mn, pn, sn, rd, rs, pt, hmd⟩ := hL2.md
  refine bw_cVi 2068 dL_law_2065 rfl vL_156 (m_thrown g (bw_has.one hmd)) hmd rfl rfl (Nat.le_of_ble_eq_true rfl) ⟨Nat.le_trans (Nat.le_of_ble_eq_true rfl) hfr, Nat.le_trans (Nat.le_of_ble_eq_true rfl) hlo⟩ hcu hsu ?_
  refine bw_iload 2070 dL_law_2068 rfl rfl ?_
  refine bw_icmp_eq 2075 2073 dL_law_2070 rfl rfl (fun _ => ?_) (fun c => absurd rfl c)
  refine bw_iload 2077 dL_law_2075 rfl rfl ?_
  refine bw_if_ne 2092 2080 dL_law_2077 rfl rfl (fun c => ?_) (fun c => ?_)
  · refine bw_goto 2499 dL_law_2092 rfl ?_
    exact bw_loc (lvL g x M i) ⟨rfl, rfl, rfl, rfl, rfl, trivial⟩ (kk _ _ hL2)
  · have hk0 : k = 0 := (xn_eq0 (by omega)).mp c
    obtain ⟨f, hf, hf0⟩ := hO hk0
    refine bw_aload_n 2081 dL_law_2080 rfl rfl ?_
    refine bw_iconst (0) 2082 dL_law_2081 (by decide) rfl ?_
    refine bw_lald 2083 dL_law_2082 rfl (hO2.trans hf) (vp_in_nI (n := 0) (N := 1) (by decide) (by decide)) ?_
    refine bw_iload 2085 dL_law_2083 rfl rfl ?_
    refine bw_i2l 2086 dL_law_2085 rfl ?_
    refine bw_lcmp 2087 dL_law_2086 rfl ?_
    refine bw_if_eq 2092 2090 dL_law_2087 rfl rfl (fun _ => ?_) (fun c => absurd (show lg_cmp (f 0) y.toInt64 = 0 by rw [hyv hk0, hf0]; exact lg_same _) c)
    refine bw_goto 2499 dL_law_2092 rfl ?_
    exact bw_loc (lvL g x M i) ⟨rfl, rfl, rfl, rfl, rfl, trivial⟩ (kk _ _ hL2)
set_option maxHeartbeats 1000000 in
theorem lc_root (g : bw_G) {R : Room} {Q : bw_O → bw_H → Prop} {cu su i x M n p gg th : Nat} {A : bw_H} (hG : GFg n p gg) (hxM : x + 57 + 2 * n ≤ M) (hfr : 10 ≤ R.frames) (hlo : 1200 ≤ R.locals) (hcu : cu + 20 ≤ R.cells) (hsu : su + 200 ≤ R.slots) (hi : i + 5 ≤ g.2.2.2.2.2.1) (hS : g.2.2.2.2.2.1 ≤ 2562) (hL : LI g x M n p gg th A)
    (kk : ∀ (A' : bw_H) (th' : Nat), LI g x M n p gg th' A' → bw_W g R mL_law Q (cu + 20) (su + 200) 2499 (lvL g x M i) [] A') : bw_W g R mL_law Q cu su 2095 (lvL g x M i) [] A := by
  obtain ⟨fs, hb⟩ := hL.xo
  obtain ⟨k, v, J, hk, hJ1, hJ2, hX, hM⟩ := b_root hG hxM hL (sv g i 1) (sv g i 2)
  have hk3 : k ≤ 3 := Nat.le_trans hk (by decide)
  refine bw_aload_n 2096 dL_law_2095 rfl rfl ?_
  refine bw_aload_n 2097 dL_law_2096 rfl rfl ?_
  refine bw_iload 2099 dL_law_2097 rfl rfl ?_
  refine bw_iconst (1) 2100 dL_law_2099 (by decide) rfl ?_
  refine bw_eqi (y := nI 1) rfl ?_
  refine bw_iadd 2101 dL_law_2100 rfl ?_
  refine bw_eqi (nI_add i 1) ?_
  refine bw_sld 2102 dL_law_2101 rfl (vp_in_nI (by omega) (by omega)) ?_
  refine bw_aload_n 2103 dL_law_2102 rfl rfl ?_
  refine bw_iload 2105 dL_law_2103 rfl rfl ?_
  refine bw_iconst (2) 2106 dL_law_2105 (by decide) rfl ?_
  refine bw_eqi (y := nI 2) rfl ?_
  refine bw_iadd 2107 dL_law_2106 rfl ?_
  refine bw_eqi (nI_add i 2) ?_
  refine bw_sld 2108 dL_law_2107 rfl (vp_in_nI (by omega) (by omega)) ?_
  refine bw_aload_n 2109 dL_law_2108 rfl rfl ?_
  refine bw_callH 2112 dL_law_2109 rfl hL_252 (w_root g hb hk hJ1 (fun A1 h => (hJ2 A1 h).1.1) hX) rfl rfl (Nat.le_of_ble_eq_true rfl) ⟨Nat.le_trans (Nat.le_of_ble_eq_true rfl) hfr, Nat.le_trans (Nat.le_of_ble_eq_true rfl) hlo⟩ hcu hsu (fun E A1 h => by obtain ⟨x, h, -⟩ := h; cases h) (fun v' A1 h => ?_)
  obtain ⟨y, hv, rfl, hJ, hO⟩ := h
  have hv := Sum.inl.inj hv
  subst hv
  obtain ⟨-, fm, hbM⟩ := hJ2 A1 hJ
  refine bw_istore 2114 dL_law_2112 rfl (by decide) ?_
  refine bw_aload_n 2115 dL_law_2114 rfl rfl ?_
  refine bw_aload_n 2116 dL_law_2115 rfl rfl ?_
  refine bw_iload 2118 dL_law_2116 rfl rfl ?_
  refine bw_iconst (1) 2119 dL_law_2118 (by decide) rfl ?_
  refine bw_eqi (y := nI 1) rfl ?_
  refine bw_iadd 2120 dL_law_2119 rfl ?_
  refine bw_eqi (nI_add i 1) ?_
  refine bw_sld 2121 dL_law_2120 rfl (vp_in_nI (by omega) (by omega)) ?_
  refine bw_aload_n 2122 dL_law_2121 rfl rfl ?_
  refine bw_iload 2124 dL_law_2122 rfl rfl ?_
  refine bw_iconst (2) 2125 dL_law_2124 (by decide) rfl ?_
  refine bw_eqi (y := nI 2) rfl ?_
  refine bw_iadd 2126 dL_law_2125 rfl ?_
  refine bw_eqi (nI_add i 2) ?_
  refine bw_sld 2127 dL_law_2126 rfl (vp_in_nI (by omega) (by omega)) ?_
  refine bw_callV 2130 dL_law_2127 rfl vL_254 (hM A1 hJ) hbM rfl rfl (Nat.le_of_ble_eq_true rfl) ⟨Nat.le_trans (Nat.le_of_ble_eq_true rfl) hfr, Nat.le_trans (Nat.le_of_ble_eq_true rfl) hlo⟩ hcu hsu (fun E A2 h => by obtain ⟨x, h, -⟩ := h; cases h) (fun v' A2 h => ?_)
  obtain ⟨y, hv, hyv, hL2, hO2⟩ := h
  have hv := Sum.inl.inj hv
  subst hv
  refine bw_istore 2132 dL_law_2130 rfl (by decide) ?_
  refine bw_aload_n 2133 dL_law_2132 rfl rfl ?_
  obtain ⟨rn, mn, pn, sn, rd, rs, pt, hmd⟩ := hL2.md
  refine bw_cVi 2136 dL_law_2133 rfl vL_156 (m_thrown g (bw_has.one hmd)) hmd rfl rfl (Nat.le_of_ble_eq_true rfl) ⟨Nat.le_trans (Nat.le_of_ble_eq_true rfl) hfr, Nat.le_trans (Nat.le_of_ble_eq_true rfl) hlo⟩ hcu hsu ?_
  refine bw_iload 2138 dL_law_2136 rfl rfl ?_
  refine bw_icmp_eq 2143 2141 dL_law_2138 rfl rfl (fun _ => ?_) (fun c => absurd rfl c)
  refine bw_iload 2145 dL_law_2143 rfl rfl ?_
  refine bw_if_ne 2160 2148 dL_law_2145 rfl rfl (fun c => ?_) (fun c => ?_)
  · refine bw_goto 2499 dL_law_2160 rfl ?_
    exact bw_loc (lvL g x M i) ⟨rfl, rfl, rfl, rfl, rfl, trivial⟩ (kk _ _ hL2)
  · have hk0 : k = 0 := (xn_eq0 (by omega)).mp c
    obtain ⟨f, hf, hf0⟩ := hO hk0
    refine bw_aload_n 2149 dL_law_2148 rfl rfl ?_
    refine bw_iconst (0) 2150 dL_law_2149 (by decide) rfl ?_
    refine bw_lald 2151 dL_law_2150 rfl (hO2.trans hf) (vp_in_nI (n := 0) (N := 1) (by decide) (by decide)) ?_
    refine bw_iload 2153 dL_law_2151 rfl rfl ?_
    refine bw_i2l 2154 dL_law_2153 rfl ?_
    refine bw_lcmp 2155 dL_law_2154 rfl ?_
    refine bw_if_eq 2160 2158 dL_law_2155 rfl rfl (fun _ => ?_) (fun c => absurd (show lg_cmp (f 0) y.toInt64 = 0 by rw [hyv hk0, hf0]; exact lg_same _) c)
    refine bw_goto 2499 dL_law_2160 rfl ?_
    exact bw_loc (lvL g x M i) ⟨rfl, rfl, rfl, rfl, rfl, trivial⟩ (kk _ _ hL2)
set_option maxHeartbeats 1000000 in
theorem lc_often (g : bw_G) {R : Room} {Q : bw_O → bw_H → Prop} {cu su i x M n p gg th : Nat} {A : bw_H} (hG : GFg n p gg) (hxM : x + 57 + 2 * n ≤ M) (hfr : 10 ≤ R.frames) (hlo : 1200 ≤ R.locals) (hcu : cu + 20 ≤ R.cells) (hsu : su + 200 ≤ R.slots) (hi : i + 5 ≤ g.2.2.2.2.2.1) (hS : g.2.2.2.2.2.1 ≤ 2562) (hL : LI g x M n p gg th A)
    (kk : ∀ (A' : bw_H) (th' : Nat), LI g x M n p gg th' A' → bw_W g R mL_law Q (cu + 20) (su + 200) 2499 (lvL g x M i) [] A') : bw_W g R mL_law Q cu su 2163 (lvL g x M i) [] A := by
  obtain ⟨fs, hb⟩ := hL.xo
  obtain ⟨k, v, J, hk, hJ1, hJ2, hX, hM⟩ := b_often hG hxM hL (sv g i 1) (sv g i 2)
  have hk3 : k ≤ 3 := Nat.le_trans hk (by decide)
  refine bw_aload_n 2164 dL_law_2163 rfl rfl ?_
  refine bw_aload_n 2165 dL_law_2164 rfl rfl ?_
  refine bw_iload 2167 dL_law_2165 rfl rfl ?_
  refine bw_iconst (1) 2168 dL_law_2167 (by decide) rfl ?_
  refine bw_eqi (y := nI 1) rfl ?_
  refine bw_iadd 2169 dL_law_2168 rfl ?_
  refine bw_eqi (nI_add i 1) ?_
  refine bw_sld 2170 dL_law_2169 rfl (vp_in_nI (by omega) (by omega)) ?_
  refine bw_aload_n 2171 dL_law_2170 rfl rfl ?_
  refine bw_iload 2173 dL_law_2171 rfl rfl ?_
  refine bw_iconst (2) 2174 dL_law_2173 (by decide) rfl ?_
  refine bw_eqi (y := nI 2) rfl ?_
  refine bw_iadd 2175 dL_law_2174 rfl ?_
  refine bw_eqi (nI_add i 2) ?_
  refine bw_sld 2176 dL_law_2175 rfl (vp_in_nI (by omega) (by omega)) ?_
  refine bw_aload_n 2177 dL_law_2176 rfl rfl ?_
  refine bw_callH 2180 dL_law_2177 rfl hL_255 (w_often g hb hk hJ1 (fun A1 h => (hJ2 A1 h).1.1) hX) rfl rfl (Nat.le_of_ble_eq_true rfl) ⟨Nat.le_trans (Nat.le_of_ble_eq_true rfl) hfr, Nat.le_trans (Nat.le_of_ble_eq_true rfl) hlo⟩ hcu hsu (fun E A1 h => by obtain ⟨x, h, -⟩ := h; cases h) (fun v' A1 h => ?_)
  obtain ⟨y, hv, rfl, hJ, hO⟩ := h
  have hv := Sum.inl.inj hv
  subst hv
  obtain ⟨-, fm, hbM⟩ := hJ2 A1 hJ
  refine bw_istore 2182 dL_law_2180 rfl (by decide) ?_
  refine bw_aload_n 2183 dL_law_2182 rfl rfl ?_
  refine bw_aload_n 2184 dL_law_2183 rfl rfl ?_
  refine bw_iload 2186 dL_law_2184 rfl rfl ?_
  refine bw_iconst (1) 2187 dL_law_2186 (by decide) rfl ?_
  refine bw_eqi (y := nI 1) rfl ?_
  refine bw_iadd 2188 dL_law_2187 rfl ?_
  refine bw_eqi (nI_add i 1) ?_
  refine bw_sld 2189 dL_law_2188 rfl (vp_in_nI (by omega) (by omega)) ?_
  refine bw_aload_n 2190 dL_law_2189 rfl rfl ?_
  refine bw_iload 2192 dL_law_2190 rfl rfl ?_
  refine bw_iconst (2) 2193 dL_law_2192 (by decide) rfl ?_
  refine bw_eqi (y := nI 2) rfl ?_
  refine bw_iadd 2194 dL_law_2193 rfl ?_
  refine bw_eqi (nI_add i 2) ?_
  refine bw_sld 2195 dL_law_2194 rfl (vp_in_nI (by omega) (by omega)) ?_
  refine bw_callV 2198 dL_law_2195 rfl vL_257 (hM A1 hJ) hbM rfl rfl (Nat.le_of_ble_eq_true rfl) ⟨Nat.le_trans (Nat.le_of_ble_eq_true rfl) hfr, Nat.le_trans (Nat.le_of_ble_eq_true rfl) hlo⟩ hcu hsu (fun E A2 h => by obtain ⟨x, h, -⟩ := h; cases h) (fun v' A2 h => ?_)
  obtain ⟨y, hv, hyv, hL2, hO2⟩ := h
  have hv := Sum.inl.inj hv
  subst hv
  refine bw_istore 2200 dL_law_2198 rfl (by decide) ?_
  refine bw_aload_n 2201 dL_law_2200 rfl rfl ?_
  obtain ⟨rn, mn, pn, sn, rd, rs, pt, hmd⟩ := hL2.md
  refine bw_cVi 2204 dL_law_2201 rfl vL_156 (m_thrown g (bw_has.one hmd)) hmd rfl rfl (Nat.le_of_ble_eq_true rfl) ⟨Nat.le_trans (Nat.le_of_ble_eq_true rfl) hfr, Nat.le_trans (Nat.le_of_ble_eq_true rfl) hlo⟩ hcu hsu ?_
  refine bw_iload 2206 dL_law_2204 rfl rfl ?_
  refine bw_icmp_eq 2211 2209 dL_law_2206 rfl rfl (fun _ => ?_) (fun c => absurd rfl c)
  refine bw_iload 2213 dL_law_2211 rfl rfl ?_
  refine bw_if_ne 2228 2216 dL_law_2213 rfl rfl (fun c => ?_) (fun c => ?_)
  · refine bw_goto 2499 dL_law_2228 rfl ?_
    exact bw_loc (lvL g x M i) ⟨rfl, rfl, rfl, rfl, rfl, trivial⟩ (kk _ _ hL2)
  · have hk0 : k = 0 := (xn_eq0 (by omega)).mp c
    obtain ⟨f, hf, hf0⟩ := hO hk0
    refine bw_aload_n 2217 dL_law_2216 rfl rfl ?_
    refine bw_iconst (0) 2218 dL_law_2217 (by decide) rfl ?_
    refine bw_lald 2219 dL_law_2218 rfl (hO2.trans hf) (vp_in_nI (n := 0) (N := 1) (by decide) (by decide)) ?_
    refine bw_iload 2221 dL_law_2219 rfl rfl ?_
    refine bw_i2l 2222 dL_law_2221 rfl ?_
    refine bw_lcmp 2223 dL_law_2222 rfl ?_
    refine bw_if_eq 2228 2226 dL_law_2223 rfl rfl (fun _ => ?_) (fun c => absurd (show lg_cmp (f 0) y.toInt64 = 0 by rw [hyv hk0, hf0]; exact lg_same _) c)
    refine bw_goto 2499 dL_law_2228 rfl ?_
    exact bw_loc (lvL g x M i) ⟨rfl, rfl, rfl, rfl, rfl, trivial⟩ (kk _ _ hL2)
set_option maxHeartbeats 1000000 in
theorem lc_parts (g : bw_G) {R : Room} {Q : bw_O → bw_H → Prop} {cu su i x M n p gg th : Nat} {A : bw_H} (hG : GFg n p gg) (hxM : x + 57 + 2 * n ≤ M) (hfr : 10 ≤ R.frames) (hlo : 1200 ≤ R.locals) (hcu : cu + 20 ≤ R.cells) (hsu : su + 200 ≤ R.slots) (hi : i + 5 ≤ g.2.2.2.2.2.1) (hS : g.2.2.2.2.2.1 ≤ 2562) (hL : LI g x M n p gg th A)
    (kk : ∀ (A' : bw_H) (th' : Nat), LI g x M n p gg th' A' → bw_W g R mL_law Q (cu + 20) (su + 200) 2499 (lvL g x M i) [] A') : bw_W g R mL_law Q cu su 2231 (lvL g x M i) [] A := by
  obtain ⟨fs, hb⟩ := hL.xo
  obtain ⟨k, v, J, hk, hJ1, hJ2, hX, hM⟩ := b_parts hG hxM hL (sv g i 1) (sv g i 2)
  have hk3 : k ≤ 3 := Nat.le_trans hk (by decide)
  refine bw_aload_n 2232 dL_law_2231 rfl rfl ?_
  refine bw_aload_n 2233 dL_law_2232 rfl rfl ?_
  refine bw_iload 2235 dL_law_2233 rfl rfl ?_
  refine bw_iconst (1) 2236 dL_law_2235 (by decide) rfl ?_
  refine bw_eqi (y := nI 1) rfl ?_
  refine bw_iadd 2237 dL_law_2236 rfl ?_
  refine bw_eqi (nI_add i 1) ?_
  refine bw_sld 2238 dL_law_2237 rfl (vp_in_nI (by omega) (by omega)) ?_
  refine bw_aload_n 2239 dL_law_2238 rfl rfl ?_
  refine bw_iload 2241 dL_law_2239 rfl rfl ?_
  refine bw_iconst (2) 2242 dL_law_2241 (by decide) rfl ?_
  refine bw_eqi (y := nI 2) rfl ?_
  refine bw_iadd 2243 dL_law_2242 rfl ?_
  refine bw_eqi (nI_add i 2) ?_
  refine bw_sld 2244 dL_law_2243 rfl (vp_in_nI (by omega) (by omega)) ?_
  refine bw_aload_n 2245 dL_law_2244 rfl rfl ?_
  refine bw_callH 2248 dL_law_2245 rfl hL_258 (w_parts g hb hk hJ1 (fun A1 h => (hJ2 A1 h).1.1) hX) rfl rfl (Nat.le_of_ble_eq_true rfl) ⟨Nat.le_trans (Nat.le_of_ble_eq_true rfl) hfr, Nat.le_trans (Nat.le_of_ble_eq_true rfl) hlo⟩ hcu hsu (fun E A1 h => by obtain ⟨x, h, -⟩ := h; cases h) (fun v' A1 h => ?_)
  obtain ⟨y, hv, rfl, hJ, hO⟩ := h
  have hv := Sum.inl.inj hv
  subst hv
  obtain ⟨-, fm, hbM⟩ := hJ2 A1 hJ
  refine bw_istore 2250 dL_law_2248 rfl (by decide) ?_
  refine bw_aload_n 2251 dL_law_2250 rfl rfl ?_
  refine bw_aload_n 2252 dL_law_2251 rfl rfl ?_
  refine bw_iload 2254 dL_law_2252 rfl rfl ?_
  refine bw_iconst (1) 2255 dL_law_2254 (by decide) rfl ?_
  refine bw_eqi (y := nI 1) rfl ?_
  refine bw_iadd 2256 dL_law_2255 rfl ?_
  refine bw_eqi (nI_add i 1) ?_
  refine bw_sld 2257 dL_law_2256 rfl (vp_in_nI (by omega) (by omega)) ?_
  refine bw_aload_n 2258 dL_law_2257 rfl rfl ?_
  refine bw_iload 2260 dL_law_2258 rfl rfl ?_
  refine bw_iconst (2) 2261 dL_law_2260 (by decide) rfl ?_
  refine bw_eqi (y := nI 2) rfl ?_
  refine bw_iadd 2262 dL_law_2261 rfl ?_
  refine bw_eqi (nI_add i 2) ?_
  refine bw_sld 2263 dL_law_2262 rfl (vp_in_nI (by omega) (by omega)) ?_
  refine bw_callV 2266 dL_law_2263 rfl vL_260 (hM A1 hJ) hbM rfl rfl (Nat.le_of_ble_eq_true rfl) ⟨Nat.le_trans (Nat.le_of_ble_eq_true rfl) hfr, Nat.le_trans (Nat.le_of_ble_eq_true rfl) hlo⟩ hcu hsu (fun E A2 h => by obtain ⟨x, h, -⟩ := h; cases h) (fun v' A2 h => ?_)
  obtain ⟨y, hv, hyv, hL2, hO2⟩ := h
  have hv := Sum.inl.inj hv
  subst hv
  refine bw_istore 2268 dL_law_2266 rfl (by decide) ?_
  refine bw_aload_n 2269 dL_law_2268 rfl rfl ?_
  obtain ⟨rn, mn, pn, sn, rd, rs, pt, hmd⟩ := hL2.md
  refine bw_cVi 2272 dL_law_2269 rfl vL_156 (m_thrown g (bw_has.one hmd)) hmd rfl rfl (Nat.le_of_ble_eq_true rfl) ⟨Nat.le_trans (Nat.le_of_ble_eq_true rfl) hfr, Nat.le_trans (Nat.le_of_ble_eq_true rfl) hlo⟩ hcu hsu ?_
  refine bw_iload 2274 dL_law_2272 rfl rfl ?_
  refine bw_icmp_eq 2279 2277 dL_law_2274 rfl rfl (fun _ => ?_) (fun c => absurd rfl c)
  refine bw_iload 2281 dL_law_2279 rfl rfl ?_
  refine bw_if_ne 2296 2284 dL_law_2281 rfl rfl (fun c => ?_) (fun c => ?_)
  · refine bw_goto 2499 dL_law_2296 rfl ?_
    exact bw_loc (lvL g x M i) ⟨rfl, rfl, rfl, rfl, rfl, trivial⟩ (kk _ _ hL2)
  · have hk0 : k = 0 := (xn_eq0 (by omega)).mp c
    obtain ⟨f, hf, hf0⟩ := hO hk0
    refine bw_aload_n 2285 dL_law_2284 rfl rfl ?_
    refine bw_iconst (0) 2286 dL_law_2285 (by decide) rfl ?_
    refine bw_lald 2287 dL_law_2286 rfl (hO2.trans hf) (vp_in_nI (n := 0) (N := 1) (by decide) (by decide)) ?_
    refine bw_iload 2289 dL_law_2287 rfl rfl ?_
    refine bw_i2l 2290 dL_law_2289 rfl ?_
    refine bw_lcmp 2291 dL_law_2290 rfl ?_
    refine bw_if_eq 2296 2294 dL_law_2291 rfl rfl (fun _ => ?_) (fun c => absurd (show lg_cmp (f 0) y.toInt64 = 0 by rw [hyv hk0, hf0]; exact lg_same _) c)
    refine bw_goto 2499 dL_law_2296 rfl ?_
    exact bw_loc (lvL g x M i) ⟨rfl, rfl, rfl, rfl, rfl, trivial⟩ (kk _ _ hL2)
set_option maxHeartbeats 1000000 in
theorem lc_span (g : bw_G) {R : Room} {Q : bw_O → bw_H → Prop} {cu su i x M n p gg th : Nat} {A : bw_H} (hG : GFg n p gg) (hxM : x + 57 + 2 * n ≤ M) (hfr : 10 ≤ R.frames) (hlo : 1200 ≤ R.locals) (hcu : cu + 20 ≤ R.cells) (hsu : su + 200 ≤ R.slots) (hi : i + 5 ≤ g.2.2.2.2.2.1) (hS : g.2.2.2.2.2.1 ≤ 2562) (hL : LI g x M n p gg th A)
    (kk : ∀ (A' : bw_H) (th' : Nat), LI g x M n p gg th' A' → bw_W g R mL_law Q (cu + 20) (su + 200) 2499 (lvL g x M i) [] A') : bw_W g R mL_law Q cu su 2299 (lvL g x M i) [] A := by
  obtain ⟨fs, hb⟩ := hL.xo
  obtain ⟨k, v, J, hk, hJ1, hJ2, hX, hM⟩ := b_span hG hxM hL 
  have hk3 : k ≤ 3 := Nat.le_trans hk (by decide)
  refine bw_aload_n 2300 dL_law_2299 rfl rfl ?_
  refine bw_aload_n 2301 dL_law_2300 rfl rfl ?_
  refine bw_callH 2304 dL_law_2301 rfl hL_261 (w_span g hb hk hJ1 (fun A1 h => (hJ2 A1 h).1.1) hX) rfl rfl (Nat.le_of_ble_eq_true rfl) ⟨Nat.le_trans (Nat.le_of_ble_eq_true rfl) hfr, Nat.le_trans (Nat.le_of_ble_eq_true rfl) hlo⟩ hcu hsu (fun E A1 h => by obtain ⟨x, h, -⟩ := h; cases h) (fun v' A1 h => ?_)
  obtain ⟨y, hv, rfl, hJ, hO⟩ := h
  have hv := Sum.inl.inj hv
  subst hv
  obtain ⟨-, fm, hbM⟩ := hJ2 A1 hJ
  refine bw_istore 2306 dL_law_2304 rfl (by decide) ?_
  refine bw_aload_n 2307 dL_law_2306 rfl rfl ?_
  refine bw_callV 2310 dL_law_2307 rfl vL_263 (hM A1 hJ) hbM rfl rfl (Nat.le_of_ble_eq_true rfl) ⟨Nat.le_trans (Nat.le_of_ble_eq_true rfl) hfr, Nat.le_trans (Nat.le_of_ble_eq_true rfl) hlo⟩ hcu hsu (fun E A2 h => by obtain ⟨x, h, -⟩ := h; cases h) (fun v' A2 h => ?_)
  obtain ⟨y, hv, hyv, hL2, hO2⟩ := h
  have hv := Sum.inl.inj hv
  subst hv
  refine bw_istore 2312 dL_law_2310 rfl (by decide) ?_
  refine bw_aload_n 2313 dL_law_2312 rfl rfl ?_
  obtain ⟨rn, mn, pn, sn, rd, rs, pt, hmd⟩ := hL2.md
  refine bw_cVi 2316 dL_law_2313 rfl vL_156 (m_thrown g (bw_has.one hmd)) hmd rfl rfl (Nat.le_of_ble_eq_true rfl) ⟨Nat.le_trans (Nat.le_of_ble_eq_true rfl) hfr, Nat.le_trans (Nat.le_of_ble_eq_true rfl) hlo⟩ hcu hsu ?_
  refine bw_iload 2318 dL_law_2316 rfl rfl ?_
  refine bw_icmp_eq 2323 2321 dL_law_2318 rfl rfl (fun _ => ?_) (fun c => absurd rfl c)
  refine bw_iload 2325 dL_law_2323 rfl rfl ?_
  refine bw_if_ne 2340 2328 dL_law_2325 rfl rfl (fun c => ?_) (fun c => ?_)
  · refine bw_goto 2499 dL_law_2340 rfl ?_
    exact bw_loc (lvL g x M i) ⟨rfl, rfl, rfl, rfl, rfl, trivial⟩ (kk _ _ hL2)
  · have hk0 : k = 0 := (xn_eq0 (by omega)).mp c
    obtain ⟨f, hf, hf0⟩ := hO hk0
    refine bw_aload_n 2329 dL_law_2328 rfl rfl ?_
    refine bw_iconst (0) 2330 dL_law_2329 (by decide) rfl ?_
    refine bw_lald 2331 dL_law_2330 rfl (hO2.trans hf) (vp_in_nI (n := 0) (N := 1) (by decide) (by decide)) ?_
    refine bw_iload 2333 dL_law_2331 rfl rfl ?_
    refine bw_i2l 2334 dL_law_2333 rfl ?_
    refine bw_lcmp 2335 dL_law_2334 rfl ?_
    refine bw_if_eq 2340 2338 dL_law_2335 rfl rfl (fun _ => ?_) (fun c => absurd (show lg_cmp (f 0) y.toInt64 = 0 by rw [hyv hk0, hf0]; exact lg_same _) c)
    refine bw_goto 2499 dL_law_2340 rfl ?_
    exact bw_loc (lvL g x M i) ⟨rfl, rfl, rfl, rfl, rfl, trivial⟩ (kk _ _ hL2)
set_option maxHeartbeats 1000000 in
theorem lc_forth (g : bw_G) {R : Room} {Q : bw_O → bw_H → Prop} {cu su i x M n p gg th : Nat} {A : bw_H} (hG : GFg n p gg) (hxM : x + 57 + 2 * n ≤ M) (hfr : 10 ≤ R.frames) (hlo : 1200 ≤ R.locals) (hcu : cu + 20 ≤ R.cells) (hsu : su + 200 ≤ R.slots) (hi : i + 5 ≤ g.2.2.2.2.2.1) (hS : g.2.2.2.2.2.1 ≤ 2562) (hL : LI g x M n p gg th A)
    (kk : ∀ (A' : bw_H) (th' : Nat), LI g x M n p gg th' A' → bw_W g R mL_law Q (cu + 20) (su + 200) 2499 (lvL g x M i) [] A') : bw_W g R mL_law Q cu su 2343 (lvL g x M i) [] A := by
  obtain ⟨fs, hb⟩ := hL.xo
  obtain ⟨k, v, J, hk, hJ1, hJ2, hX, hM⟩ := b_forth hG hxM hL (sv g i 1)
  have hk3 : k ≤ 3 := Nat.le_trans hk (by decide)
  refine bw_aload_n 2344 dL_law_2343 rfl rfl ?_
  refine bw_aload_n 2345 dL_law_2344 rfl rfl ?_
  refine bw_iload 2347 dL_law_2345 rfl rfl ?_
  refine bw_iconst (1) 2348 dL_law_2347 (by decide) rfl ?_
  refine bw_eqi (y := nI 1) rfl ?_
  refine bw_iadd 2349 dL_law_2348 rfl ?_
  refine bw_eqi (nI_add i 1) ?_
  refine bw_sld 2350 dL_law_2349 rfl (vp_in_nI (by omega) (by omega)) ?_
  refine bw_aload_n 2351 dL_law_2350 rfl rfl ?_
  refine bw_callH 2354 dL_law_2351 rfl hL_264 (w_forth g hb hk hJ1 (fun A1 h => (hJ2 A1 h).1.1) hX) rfl rfl (Nat.le_of_ble_eq_true rfl) ⟨Nat.le_trans (Nat.le_of_ble_eq_true rfl) hfr, Nat.le_trans (Nat.le_of_ble_eq_true rfl) hlo⟩ hcu hsu (fun E A1 h => by obtain ⟨x, h, -⟩ := h; cases h) (fun v' A1 h => ?_)
  obtain ⟨y, hv, rfl, hJ, hO⟩ := h
  have hv := Sum.inl.inj hv
  subst hv
  obtain ⟨-, fm, hbM⟩ := hJ2 A1 hJ
  refine bw_istore 2356 dL_law_2354 rfl (by decide) ?_
  refine bw_aload_n 2357 dL_law_2356 rfl rfl ?_
  refine bw_aload_n 2358 dL_law_2357 rfl rfl ?_
  refine bw_iload 2360 dL_law_2358 rfl rfl ?_
  refine bw_iconst (1) 2361 dL_law_2360 (by decide) rfl ?_
  refine bw_eqi (y := nI 1) rfl ?_
  refine bw_iadd 2362 dL_law_2361 rfl ?_
  refine bw_eqi (nI_add i 1) ?_
  refine bw_sld 2363 dL_law_2362 rfl (vp_in_nI (by omega) (by omega)) ?_
  refine bw_callV 2366 dL_law_2363 rfl vL_266 (hM A1 hJ) hbM rfl rfl (Nat.le_of_ble_eq_true rfl) ⟨Nat.le_trans (Nat.le_of_ble_eq_true rfl) hfr, Nat.le_trans (Nat.le_of_ble_eq_true rfl) hlo⟩ hcu hsu (fun E A2 h => by obtain ⟨x, h, -⟩ := h; cases h) (fun v' A2 h => ?_)
  obtain ⟨y, hv, hyv, hL2, hO2⟩ := h
  have hv := Sum.inl.inj hv
  subst hv
  refine bw_istore 2368 dL_law_2366 rfl (by decide) ?_
  refine bw_aload_n 2369 dL_law_2368 rfl rfl ?_
  obtain ⟨rn, mn, pn, sn, rd, rs, pt, hmd⟩ := hL2.md
  refine bw_cVi 2372 dL_law_2369 rfl vL_156 (m_thrown g (bw_has.one hmd)) hmd rfl rfl (Nat.le_of_ble_eq_true rfl) ⟨Nat.le_trans (Nat.le_of_ble_eq_true rfl) hfr, Nat.le_trans (Nat.le_of_ble_eq_true rfl) hlo⟩ hcu hsu ?_
  refine bw_iload 2374 dL_law_2372 rfl rfl ?_
  refine bw_icmp_eq 2379 2377 dL_law_2374 rfl rfl (fun _ => ?_) (fun c => absurd rfl c)
  refine bw_iload 2381 dL_law_2379 rfl rfl ?_
  refine bw_if_ne 2396 2384 dL_law_2381 rfl rfl (fun c => ?_) (fun c => ?_)
  · refine bw_goto 2499 dL_law_2396 rfl ?_
    exact bw_loc (lvL g x M i) ⟨rfl, rfl, rfl, rfl, rfl, trivial⟩ (kk _ _ hL2)
  · have hk0 : k = 0 := (xn_eq0 (by omega)).mp c
    obtain ⟨f, hf, hf0⟩ := hO hk0
    refine bw_aload_n 2385 dL_law_2384 rfl rfl ?_
    refine bw_iconst (0) 2386 dL_law_2385 (by decide) rfl ?_
    refine bw_lald 2387 dL_law_2386 rfl (hO2.trans hf) (vp_in_nI (n := 0) (N := 1) (by decide) (by decide)) ?_
    refine bw_iload 2389 dL_law_2387 rfl rfl ?_
    refine bw_i2l 2390 dL_law_2389 rfl ?_
    refine bw_lcmp 2391 dL_law_2390 rfl ?_
    refine bw_if_eq 2396 2394 dL_law_2391 rfl rfl (fun _ => ?_) (fun c => absurd (show lg_cmp (f 0) y.toInt64 = 0 by rw [hyv hk0, hf0]; exact lg_same _) c)
    refine bw_goto 2499 dL_law_2396 rfl ?_
    exact bw_loc (lvL g x M i) ⟨rfl, rfl, rfl, rfl, rfl, trivial⟩ (kk _ _ hL2)
set_option maxHeartbeats 1000000 in
theorem lc_back (g : bw_G) {R : Room} {Q : bw_O → bw_H → Prop} {cu su i x M n p gg th : Nat} {A : bw_H} (hG : GFg n p gg) (hxM : x + 57 + 2 * n ≤ M) (hfr : 10 ≤ R.frames) (hlo : 1200 ≤ R.locals) (hcu : cu + 20 ≤ R.cells) (hsu : su + 200 ≤ R.slots) (hi : i + 5 ≤ g.2.2.2.2.2.1) (hS : g.2.2.2.2.2.1 ≤ 2562) (hL : LI g x M n p gg th A)
    (kk : ∀ (A' : bw_H) (th' : Nat), LI g x M n p gg th' A' → bw_W g R mL_law Q (cu + 20) (su + 200) 2499 (lvL g x M i) [] A') : bw_W g R mL_law Q cu su 2399 (lvL g x M i) [] A := by
  obtain ⟨fs, hb⟩ := hL.xo
  obtain ⟨k, v, J, hk, hJ1, hJ2, hX, hM⟩ := b_back hG hxM hL 
  have hk3 : k ≤ 3 := Nat.le_trans hk (by decide)
  refine bw_aload_n 2400 dL_law_2399 rfl rfl ?_
  refine bw_aload_n 2401 dL_law_2400 rfl rfl ?_
  refine bw_callH 2404 dL_law_2401 rfl hL_267 (w_back g hb hk hJ1 (fun A1 h => (hJ2 A1 h).1.1) hX) rfl rfl (Nat.le_of_ble_eq_true rfl) ⟨Nat.le_trans (Nat.le_of_ble_eq_true rfl) hfr, Nat.le_trans (Nat.le_of_ble_eq_true rfl) hlo⟩ hcu hsu (fun E A1 h => by obtain ⟨x, h, -⟩ := h; cases h) (fun v' A1 h => ?_)
  obtain ⟨y, hv, rfl, hJ, hO⟩ := h
  have hv := Sum.inl.inj hv
  subst hv
  obtain ⟨-, fm, hbM⟩ := hJ2 A1 hJ
  refine bw_istore 2406 dL_law_2404 rfl (by decide) ?_
  refine bw_aload_n 2407 dL_law_2406 rfl rfl ?_
  refine bw_callV 2410 dL_law_2407 rfl vL_269 (hM A1 hJ) hbM rfl rfl (Nat.le_of_ble_eq_true rfl) ⟨Nat.le_trans (Nat.le_of_ble_eq_true rfl) hfr, Nat.le_trans (Nat.le_of_ble_eq_true rfl) hlo⟩ hcu hsu (fun E A2 h => by obtain ⟨x, h, -⟩ := h; cases h) (fun v' A2 h => ?_)
  obtain ⟨y, hv, hyv, hL2, hO2⟩ := h
  have hv := Sum.inl.inj hv
  subst hv
  refine bw_istore 2412 dL_law_2410 rfl (by decide) ?_
  refine bw_aload_n 2413 dL_law_2412 rfl rfl ?_
  obtain ⟨rn, mn, pn, sn, rd, rs, pt, hmd⟩ := hL2.md
  refine bw_cVi 2416 dL_law_2413 rfl vL_156 (m_thrown g (bw_has.one hmd)) hmd rfl rfl (Nat.le_of_ble_eq_true rfl) ⟨Nat.le_trans (Nat.le_of_ble_eq_true rfl) hfr, Nat.le_trans (Nat.le_of_ble_eq_true rfl) hlo⟩ hcu hsu ?_
  refine bw_iload 2418 dL_law_2416 rfl rfl ?_
  refine bw_icmp_eq 2423 2421 dL_law_2418 rfl rfl (fun _ => ?_) (fun c => absurd rfl c)
  refine bw_iload 2425 dL_law_2423 rfl rfl ?_
  refine bw_if_ne 2440 2428 dL_law_2425 rfl rfl (fun c => ?_) (fun c => ?_)
  · refine bw_goto 2499 dL_law_2440 rfl ?_
    exact bw_loc (lvL g x M i) ⟨rfl, rfl, rfl, rfl, rfl, trivial⟩ (kk _ _ hL2)
  · have hk0 : k = 0 := (xn_eq0 (by omega)).mp c
    obtain ⟨f, hf, hf0⟩ := hO hk0
    refine bw_aload_n 2429 dL_law_2428 rfl rfl ?_
    refine bw_iconst (0) 2430 dL_law_2429 (by decide) rfl ?_
    refine bw_lald 2431 dL_law_2430 rfl (hO2.trans hf) (vp_in_nI (n := 0) (N := 1) (by decide) (by decide)) ?_
    refine bw_iload 2433 dL_law_2431 rfl rfl ?_
    refine bw_i2l 2434 dL_law_2433 rfl ?_
    refine bw_lcmp 2435 dL_law_2434 rfl ?_
    refine bw_if_eq 2440 2438 dL_law_2435 rfl rfl (fun _ => ?_) (fun c => absurd (show lg_cmp (f 0) y.toInt64 = 0 by rw [hyv hk0, hf0]; exact lg_same _) c)
    refine bw_goto 2499 dL_law_2440 rfl ?_
    exact bw_loc (lvL g x M i) ⟨rfl, rfl, rfl, rfl, rfl, trivial⟩ (kk _ _ hL2)
set_option maxHeartbeats 1000000 in
theorem lc_told (g : bw_G) {R : Room} {Q : bw_O → bw_H → Prop} {cu su i x M n p gg th : Nat} {A : bw_H} (hG : GFg n p gg) (hxM : x + 57 + 2 * n ≤ M) (hfr : 10 ≤ R.frames) (hlo : 1200 ≤ R.locals) (hcu : cu + 20 ≤ R.cells) (hsu : su + 200 ≤ R.slots) (hi : i + 5 ≤ g.2.2.2.2.2.1) (hS : g.2.2.2.2.2.1 ≤ 2562) (hL : LI g x M n p gg th A)
    (kk : ∀ (A' : bw_H) (th' : Nat), LI g x M n p gg th' A' → bw_W g R mL_law Q (cu + 20) (su + 200) 2499 (lvL g x M i) [] A') : bw_W g R mL_law Q cu su 2443 (lvL g x M i) [] A := by
  obtain ⟨fs, hb⟩ := hL.xo
  obtain ⟨k, v, J, hk, hJ1, hJ2, hX, hM⟩ := b_told hG hxM hL (sv g i 1)
  have hk3 : k ≤ 3 := Nat.le_trans hk (by decide)
  refine bw_aload_n 2444 dL_law_2443 rfl rfl ?_
  refine bw_aload_n 2445 dL_law_2444 rfl rfl ?_
  refine bw_iload 2447 dL_law_2445 rfl rfl ?_
  refine bw_iconst (1) 2448 dL_law_2447 (by decide) rfl ?_
  refine bw_eqi (y := nI 1) rfl ?_
  refine bw_iadd 2449 dL_law_2448 rfl ?_
  refine bw_eqi (nI_add i 1) ?_
  refine bw_sld 2450 dL_law_2449 rfl (vp_in_nI (by omega) (by omega)) ?_
  refine bw_aload_n 2451 dL_law_2450 rfl rfl ?_
  refine bw_callH 2454 dL_law_2451 rfl hL_270 (w_told g hb hk hJ1 (fun A1 h => (hJ2 A1 h).1.1) hX) rfl rfl (Nat.le_of_ble_eq_true rfl) ⟨Nat.le_trans (Nat.le_of_ble_eq_true rfl) hfr, Nat.le_trans (Nat.le_of_ble_eq_true rfl) hlo⟩ hcu hsu (fun E A1 h => by obtain ⟨x, h, -⟩ := h; cases h) (fun v' A1 h => ?_)
  obtain ⟨y, hv, rfl, hJ, hO⟩ := h
  have hv := Sum.inl.inj hv
  subst hv
  obtain ⟨-, fm, hbM⟩ := hJ2 A1 hJ
  refine bw_istore 2456 dL_law_2454 rfl (by decide) ?_
  refine bw_aload_n 2457 dL_law_2456 rfl rfl ?_
  refine bw_aload_n 2458 dL_law_2457 rfl rfl ?_
  refine bw_iload 2460 dL_law_2458 rfl rfl ?_
  refine bw_iconst (1) 2461 dL_law_2460 (by decide) rfl ?_
  refine bw_eqi (y := nI 1) rfl ?_
  refine bw_iadd 2462 dL_law_2461 rfl ?_
  refine bw_eqi (nI_add i 1) ?_
  refine bw_sld 2463 dL_law_2462 rfl (vp_in_nI (by omega) (by omega)) ?_
  refine bw_callV 2466 dL_law_2463 rfl vL_272 (hM A1 hJ) hbM rfl rfl (Nat.le_of_ble_eq_true rfl) ⟨Nat.le_trans (Nat.le_of_ble_eq_true rfl) hfr, Nat.le_trans (Nat.le_of_ble_eq_true rfl) hlo⟩ hcu hsu (fun E A2 h => by obtain ⟨x, h, -⟩ := h; cases h) (fun v' A2 h => ?_)
  obtain ⟨y, hv, hyv, hL2, hO2⟩ := h
  have hv := Sum.inl.inj hv
  subst hv
  refine bw_istore 2468 dL_law_2466 rfl (by decide) ?_
  refine bw_aload_n 2469 dL_law_2468 rfl rfl ?_
  obtain ⟨rn, mn, pn, sn, rd, rs, pt, hmd⟩ := hL2.md
  refine bw_cVi 2472 dL_law_2469 rfl vL_156 (m_thrown g (bw_has.one hmd)) hmd rfl rfl (Nat.le_of_ble_eq_true rfl) ⟨Nat.le_trans (Nat.le_of_ble_eq_true rfl) hfr, Nat.le_trans (Nat.le_of_ble_eq_true rfl) hlo⟩ hcu hsu ?_
  refine bw_iload 2474 dL_law_2472 rfl rfl ?_
  refine bw_icmp_eq 2479 2477 dL_law_2474 rfl rfl (fun _ => ?_) (fun c => absurd rfl c)
  refine bw_iload 2481 dL_law_2479 rfl rfl ?_
  refine bw_if_ne 2496 2484 dL_law_2481 rfl rfl (fun c => ?_) (fun c => ?_)
  · refine bw_goto 2499 dL_law_2496 rfl ?_
    exact bw_loc (lvL g x M i) ⟨rfl, rfl, rfl, rfl, rfl, trivial⟩ (kk _ _ hL2)
  · have hk0 : k = 0 := (xn_eq0 (by omega)).mp c
    obtain ⟨f, hf, hf0⟩ := hO hk0
    refine bw_aload_n 2485 dL_law_2484 rfl rfl ?_
    refine bw_iconst (0) 2486 dL_law_2485 (by decide) rfl ?_
    refine bw_lald 2487 dL_law_2486 rfl (hO2.trans hf) (vp_in_nI (n := 0) (N := 1) (by decide) (by decide)) ?_
    refine bw_iload 2489 dL_law_2487 rfl rfl ?_
    refine bw_i2l 2490 dL_law_2489 rfl ?_
    refine bw_lcmp 2491 dL_law_2490 rfl ?_
    refine bw_if_eq 2496 2494 dL_law_2491 rfl rfl (fun _ => ?_) (fun c => absurd (show lg_cmp (f 0) y.toInt64 = 0 by rw [hyv hk0, hf0]; exact lg_same _) c)
    refine bw_goto 2499 dL_law_2496 rfl ?_
    exact bw_loc (lvL g x M i) ⟨rfl, rfl, rfl, rfl, rfl, trivial⟩ (kk _ _ hL2)
