/-! the law's start -/
theorem ml_cell (g : bw_G) {A : bw_H} {k : Nat} {v : Int32} (hk : k < 2) (hS : g.2.2.2.2.2.1 ≤ 2562) (hv : v = if k < g.2.2.2.2.2.1 then g.2.2.2.2.2.2 (nI k).toNatClampNeg else 0) : bw_C g (bw_rm 0 0 0) mL_cell [.ref g.2.2.2.2.1, .int (nI k)] A (bw_pi v A) := by
  refine bw_C.of (by decide) (Nat.le_of_ble_eq_true rfl) rfl ?_
  refine bw_iload_n 1 dL_cell_0 rfl rfl ?_
  refine bw_aload_n 2 dL_cell_1 rfl rfl ?_
  refine bw_slen 3 dL_cell_2 rfl ?_
  refine bw_icmp_ge 12 6 dL_cell_3 rfl rfl (fun c3 => ?_) (fun c3 => ?_)
  · have h : ¬ k < g.2.2.2.2.2.1 := fun h => absurd ((nI_leI (by omega) (by omega)).mp c3) (by omega)
    refine bw_iconst (0) 13 dL_cell_12 (by decide) rfl ?_
    refine bw_eqi (y := nI 0) rfl ?_
    refine bw_iret dL_cell_13 rfl (Nat.le_of_ble_eq_true rfl) (Nat.le_of_ble_eq_true rfl) ?_
    exact ⟨by first | (rw [hv, if_neg h]; rfl) | (rw [hv, if_pos h]), rfl⟩
  · have h : k < g.2.2.2.2.2.1 := Classical.byContradiction (fun h => c3 ((nI_leI (by omega) (by omega)).mpr (by omega)))
    refine bw_aload_n 7 dL_cell_6 rfl rfl ?_
    refine bw_iload_n 8 dL_cell_7 rfl rfl ?_
    refine bw_sld 9 dL_cell_8 rfl (by exact vp_in_nI (by omega) (by omega)) ?_
    refine bw_goto 13 dL_cell_9 rfl ?_
    refine bw_iret dL_cell_13 rfl (Nat.le_of_ble_eq_true rfl) (Nat.le_of_ble_eq_true rfl) ?_
    exact ⟨by first | (rw [hv, if_neg h]; rfl) | (rw [hv, if_pos h]), rfl⟩
theorem inP.xI {g : bw_G} {n p gg x B : Nat} {A0 A : bw_H} (h : inP g n p gg x A0 A) : xI g x n p gg B 0 0 0 0 (fun _ => 0) (fun _ => 0) (fun _ => none) (fun _ => none) (fun _ => 0) (fun _ => 0) (fun _ => 0) (fun _ => 0) A := by
  obtain ⟨hz, hW, hC, hE, hN, hR⟩ := h
  have h2 := Nat.two_pow_pos n
  have hp : pwk 129 (fun _ => 0) 0 := ⟨by decide, fun _ _ => rfl⟩
  have hq : pwk 65 (fun _ => 0) 0 := ⟨by decide, fun _ _ => rfl⟩
  refine ⟨hC.at 0 rfl, ⟨_, _, hp, hC.sub [1, 2] (by decide) rfl⟩, ⟨_, _, hp, hC.sub [3, 4] (by decide) rfl⟩, hC.at 5 rfl, hC.at 6 rfl, hC.at 7 rfl, hC.at 8 rfl, hC.sub [9, 10] (by decide) rfl, ?_, ?_, hC.at 16 rfl, ?_, ?_, ?_, ?_, ?_⟩
  · exact ⟨0, 0, 0, 0, fun _ => some 0, fun _ _ => 0, hC.sub [11, 12, 13] (by decide) rfl, hE, fun _ _ => h2⟩
  · exact ⟨fun _ _ => 0, hC.sub [14, 15] (by decide) rfl, hN, fun _ _ => h2⟩
  · exact ⟨fun _ => 0, fun _ => 0, fun _ => h2, fun _ => h2, hC.sub [17, 18, 19] (by decide) rfl⟩
  · exact ⟨hC.sub [20, 27, 28] (by decide) rfl, fun _ => 0, fun _ => 0, fun _ => 0, 0, 0, 0, fun _ _ => 0, fun _ => 0, hp, hp, hp, fun _ _ => hq, hC.sub [21, 22, 23, 24, 25, 26] (by decide) rfl, hR⟩
  · exact ⟨hC.at 29 rfl, fun _ => 0, fun _ => 0, fun _ => 0, fun _ => 0, 0, 0, 0, 0, hp, hp, hp, hp, hC.sub [30, 31, 32, 33, 34, 35, 36, 37] (by decide) rfl⟩
  · exact ⟨fun k hk => absurd hk (Nat.not_lt_zero _), fun k k' a hk => absurd hk (Nat.not_lt_zero _)⟩
  · exact ⟨fun k hk => absurd hk (Nat.not_lt_zero _), fun k k' a hk => absurd hk (Nat.not_lt_zero _)⟩
theorem minP.mrI {g : bw_G} {n p gg M : Nat} {A0 A : bw_H} (h : minP g n p gg M A0 A) : mrI g M n p gg 0 0 0 0 0 (fun _ => 0) (fun _ => 0) (fun _ => 0) (fun _ => 0) (fun _ => 0) (fun _ => 0) A := by
  obtain ⟨hz, hW, hC⟩ := h
  have k : ∀ X, A.2 X = some (bw_an g 200 (fun _ => 0)) → mzz g A X := fun X h => ⟨fun _ => 0, fun _ _ => rfl, h⟩
  refine ⟨0, 0, 0, fun _ => 1, fun _ => 0, fun _ => 0, fun _ => 0, fun _ => 0, fun _ => some 0, ⟨hC.at 0 rfl, hC.at 1 rfl, hC.at 2 rfl, hC.at 3 rfl, hC.at 4 rfl, hC.at 5 rfl, hC.at 6 rfl, hC.at 7 rfl, hC.at 8 rfl, hC.at 9 rfl, k _ (hC.at 10 rfl), k _ (hC.at 11 rfl), k _ (hC.at 12 rfl), k _ (hC.at 13 rfl), hC.at 14 rfl, hC.at 15 rfl, k _ (hC.at 16 rfl), k _ (hC.at 17 rfl), hC.at 18 rfl⟩, ?_⟩
  exact ⟨fun k hk => absurd hk (Nat.not_lt_zero _), Nat.le_refl _, Nat.le_refl _, fun b hb => by omega, fun b hb => by omega, fun _ _ => rfl⟩
theorem bw_hn {A : bw_H} : bw_has A [] := ⟨fun q hq => absurd hq List.not_mem_nil, List.nodup_nil⟩
abbrev bw_rL : Room := room_1
set_option maxHeartbeats 2000000 in
theorem law_start (g : bw_G) {Q : bw_O → bw_H → Prop} {A : bw_H} (hS : g.2.2.2.2.2.1 ≤ 2562) (hQ : ∀ A : bw_H, Q (.inl (some (.int 1))) A) : bw_W g bw_rL mL_law Q 0 0 0 [(0, .ref g.2.2.2.2.1)] [] A := by
  obtain ⟨x, hz⟩ : ∃ x, A.1 = x := ⟨_, rfl⟩
  obtain ⟨b, hb⟩ : ∃ b, b = if 0 < g.2.2.2.2.2.1 then g.2.2.2.2.2.2 (nI 0).toNatClampNeg else 0 := ⟨_, rfl⟩
  obtain ⟨s, hs⟩ : ∃ s, s = if 1 < g.2.2.2.2.2.1 then g.2.2.2.2.2.2 (nI 1).toNatClampNeg else 0 := ⟨_, rfl⟩
  obtain ⟨n, hn, hb8, hb16⟩ : ∃ n, (n = 8 ∨ n = 16) ∧ (¬ b = 16 → n = 8) ∧ (b = 16 → n = 16) := by
    by_cases h : b = 16
    · exact ⟨16, Or.inr rfl, fun h' => absurd h h', fun _ => rfl⟩
    · exact ⟨8, Or.inl rfl, fun _ => rfl, fun h' => absurd h' h⟩
  obtain ⟨j0, p, gg, hj0, hj1, hj2, hp, hG, hg2⟩ := field_ex n hn s.toBitVec.toNat
  have h2 := Nat.two_pow_pos n
  have hC := bw_hn (A := A)
  have hW : bw_gw x A A := bw_gw.rf
  refine bw_ok (fun hok => ?_)
  refine bw_newU 3 dL_law_0 rfl nL_8 (Nat.le_of_ble_eq_true rfl) (Nat.le_of_ble_eq_true rfl) hz (fun A hU => ?_)
  have hC := hC.nwda hok hz hU
  have hW := hW.nwd hU hz (by omega)
  try have hW2 := hW2.nwd hU hz (by omega)
  have hz := (congrArg Prod.fst hU).trans (congrArg (· + 1) hz)
  clear hU hok
  refine bw_dup 4 dL_law_3 rfl rfl ?_
  refine bw_aload_n 5 dL_law_4 rfl rfl ?_
  refine bw_iconst (0) 6 dL_law_5 (by decide) rfl ?_
  refine bw_eqi (y := nI 0) rfl ?_
  refine bw_cSi 9 dL_law_6 rfl sL_133 (ml_cell g (k := 0) (by decide) hS hb) rfl rfl (Nat.le_of_ble_eq_true rfl) ⟨(Nat.le_of_ble_eq_true rfl), (Nat.le_of_ble_eq_true rfl)⟩ (Nat.le_of_ble_eq_true rfl) (Nat.le_of_ble_eq_true rfl) ?_
  refine bw_aload_n 10 dL_law_9 rfl rfl ?_
  refine bw_iconst (1) 11 dL_law_10 (by decide) rfl ?_
  refine bw_eqi (y := nI 1) rfl ?_
  refine bw_cSi 14 dL_law_11 rfl sL_133 (ml_cell g (k := 1) (by decide) hS hs) rfl rfl (Nat.le_of_ble_eq_true rfl) ⟨(Nat.le_of_ble_eq_true rfl), (Nat.le_of_ble_eq_true rfl)⟩ (Nat.le_of_ble_eq_true rfl) (Nat.le_of_ble_eq_true rfl) ?_
  refine bw_ok (fun hok => ?_)
  refine bw_cIv 17 dL_law_14 rfl iL_138 (c9_init g hG hb8 hb16 hj0 hj1 hj2 hp hg2 hC hz) rfl rfl (Nat.le_of_ble_eq_true rfl) ⟨(Nat.le_of_ble_eq_true rfl), (Nat.le_of_ble_eq_true rfl)⟩ (Nat.le_of_ble_eq_true rfl) (Nat.le_of_ble_eq_true rfl) (fun A hP => ?_)
  have hX := hP.xI (B := x + 57 + 2 * n + 20)
  have hz := hP.1
  have hz0 := hP.1
  clear hP hC hW hok
  have hC := bw_hn (A := A)
  have hW : bw_gw (x + 57 + 2 * n) A A := bw_gw.rf
  refine bw_astore_n 18 dL_law_17 rfl (by decide) ?_
  refine bw_ok (fun hok => ?_)
  refine bw_newU 21 dL_law_18 rfl nL_141 (Nat.le_of_ble_eq_true rfl) (Nat.le_of_ble_eq_true rfl) hz (fun A hU => ?_)
  have hC := hC.nwda hok hz hU
  have hW := hW.nwd hU hz (by omega)
  try have hW2 := hW2.nwd hU hz (by omega)
  have hz := (congrArg Prod.fst hU).trans (congrArg (· + 1) hz)
  clear hU hok
  refine bw_dup 22 dL_law_21 rfl rfl ?_
  refine bw_aload_n 23 dL_law_22 rfl rfl ?_
  refine bw_iconst (0) 24 dL_law_23 (by decide) rfl ?_
  refine bw_eqi (y := nI 0) rfl ?_
  refine bw_cSi 27 dL_law_24 rfl sL_133 (ml_cell g (k := 0) (by decide) hS hb) rfl rfl (Nat.le_of_ble_eq_true rfl) ⟨(Nat.le_of_ble_eq_true rfl), (Nat.le_of_ble_eq_true rfl)⟩ (Nat.le_of_ble_eq_true rfl) (Nat.le_of_ble_eq_true rfl) ?_
  refine bw_aload_n 28 dL_law_27 rfl rfl ?_
  refine bw_iconst (1) 29 dL_law_28 (by decide) rfl ?_
  refine bw_eqi (y := nI 1) rfl ?_
  refine bw_cSi 32 dL_law_29 rfl sL_133 (ml_cell g (k := 1) (by decide) hS hs) rfl rfl (Nat.le_of_ble_eq_true rfl) ⟨(Nat.le_of_ble_eq_true rfl), (Nat.le_of_ble_eq_true rfl)⟩ (Nat.le_of_ble_eq_true rfl) (Nat.le_of_ble_eq_true rfl) ?_
  refine bw_ok (fun hok => ?_)
  refine bw_cIv 35 dL_law_32 rfl iL_143 (m_init g hG hb8 hb16 hj1 hj2 hp hg2 hC hz) rfl rfl (Nat.le_of_ble_eq_true rfl) ⟨(Nat.le_of_ble_eq_true rfl), (Nat.le_of_ble_eq_true rfl)⟩ (Nat.le_of_ble_eq_true rfl) (Nat.le_of_ble_eq_true rfl) (fun A hP => ?_)
  have hM := hP.mrI
  have hz := hP.1
  have hW := hW.trans hP.2.1 (Nat.le_refl _)
  clear hP hC hok
  have hC := bw_hn (A := A)
  have hW2 : bw_gw (x + 57 + 2 * n + 19) A A := bw_gw.rf
  refine bw_astore_n 36 dL_law_35 rfl (by decide) ?_
  refine bw_iconst (1) 37 dL_law_36 (by decide) rfl ?_
  refine bw_eqi (y := nI 1) rfl ?_
  refine bw_ok (fun hok => ?_)
  refine bw_newlU 39 dL_law_37 rfl bw_wL (by exact nI_pos (by omega)) (by exact nI_clamp (by omega)) (by omega) (Nat.le_of_ble_eq_true rfl) (Nat.le_of_ble_eq_true rfl) hz (fun A hU => ?_)
  have hC := hC.nwda hok hz hU
  have hW := hW.nwd hU hz (by omega)
  try have hW2 := hW2.nwd hU hz (by omega)
  have hz := (congrArg Prod.fst hU).trans (congrArg (· + 1) hz)
  clear hU hok
  refine bw_astore_n 40 dL_law_39 rfl (by decide) ?_
  refine bw_iconst (2) 41 dL_law_40 (by decide) rfl ?_
  refine bw_eqi (y := nI 2) rfl ?_
  refine bw_istore 43 dL_law_41 rfl (by decide) ?_
  exact bw_loc (lvL g x (x + 57 + 2 * n) 2) ⟨rfl, rfl, rfl, rfl, rfl, trivial⟩ (law_loop g hG (Nat.le_refl _) (by decide) (by decide) hS hQ 512 2 _ _ 0 A (by decide) (by decide) (by omega) (Nat.le_of_ble_eq_true rfl) (Nat.le_of_ble_eq_true rfl) ⟨0, 0, 0, 0, fun _ => 0, fun _ => 0, fun _ => none, fun _ => none, fun _ => 0, fun _ => 0, fun _ => 0, fun _ => 0, ⟨by decide, by decide, by decide, by decide, fun _ => h2, fun _ => h2, fun k hk => absurd hk (Nat.not_lt_zero _), fun _ => h2, fun _ => h2, fun i j hi => absurd hi (Nat.not_lt_zero _)⟩, hX.fr (fun b _ hb => hW b (by omega)) (fun b h1 h2 => absurd h2 (by omega)) (by omega), hM.fr (fun b _ hb => hW2 b (by omega)), ⟨_, hC.at 0 rfl⟩, by omega⟩)
