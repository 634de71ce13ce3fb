/-! the reference: parts, forth -/
theorem gmo_hi {n q : Nat} : ∀ (r d : Nat) (l w c : Nat → Nat) (i : Nat), d + r ≤ i → gmo n q r d l w c i = c i
  | 0, _, _, _, _, _, _ => rfl
  | r + 1, d, l, w, c, i, h => by
    by_cases h1 : pd l ≤ 1
    · rw [gmo_1 _ _ _ _ _ h1]
    · rw [show gmo n q (r + 1) d l w c = gmo n q r (d + 1) (gmi n q d 64 l (gsn n q l n w) (c d)).1 (gmi n q d 64 l (gsn n q l n w) (c d)).2.1 (fun i => if i = d then (gmi n q d 64 l (gsn n q l n w) (c d)).2.2 else c i) from if_neg h1, gmo_hi r (d + 1) _ _ _ i (by omega)]
      exact if_neg (by omega)
/-- the counts of parts -/
def gpa (n q : Nat) (f : Nat → Nat) : Nat → Nat := gmo n q 64 1 f (grs n q gX f) (fun _ => 0)
theorem gpa_hi {n q : Nat} {f : Nat → Nat} (i : Nat) (hi : 65 ≤ i) : gpa n q f i = 0 := gmo_hi 64 1 _ _ _ i (by omega)
theorem gpa_cnt {n q : Nat} (hG : GFp n q) {f : Nat → Nat} (hf : pok n 65 f) (h0 : pd f ≠ 0) : gcnt n q f = gpa n q f := @gcn_gmo n q hG _ (@plR (GFt n q) (gfR hG)) _ _ _ (gf_pol hG) f hf h0
/-- what parts leaves -/
def mpP (g : bw_G) (M : Nat) (e : va_E) (c : Nat → Nat) (v : Int32) (A0 : bw_H) (y : Int32) (A' : bw_H) : Prop := maR M (mlL M) e v A0 y A' ∧ A'.2 (M + 15) = some (bw_an g 65 c) ∧ ∀ X ∈ [M + 10, M + 11, M + 12, M + 13, M + 16, M + 17], mzz g A' X
theorem m_parts_fin (g : bw_G) {A A0 : bw_H} {M n p gg rn mn pn rd rs sn a d : Nat} {c : Nat → Nat} (hC : bw_has A [(M, mdo M n p gg 0 rn mn pn rd rs (a + 1) sn), (M + 15, bw_an g 65 c)]) (hS : bw_sm (M :: mlL M) A0 A) (hZ : ∀ X ∈ [M + 10, M + 11, M + 12, M + 13, M + 16, M + 17], mzz g A X) (hd : d ≤ 64) : bw_W g (bw_rm 8 0 0) mX10_parts (bw_pm (mpP g M (mdo M n p gg 0 rn mn pn rd rs (a + 1) sn) c (nI (c d)) A0)) 0 0 66 [(0, .ref M), (1, .int (nI a)), (2, .int (nI d))] [] A := by
  skip
  refine bw_aload_n 67 dX10_parts_66 rfl rfl ?_
  refine bw_get 70 dX10_parts_67 rfl lX10_63 (hC.at 0 rfl) rfl ?_
  refine bw_iload_n 71 dX10_parts_70 rfl rfl ?_
  refine bw_ialdN 72 dX10_parts_71 rfl (hC.at 1 rfl) (by omega) (by omega) ?_
  refine bw_iret dX10_parts_72 rfl (Nat.le_of_ble_eq_true rfl) (Nat.le_of_ble_eq_true rfl) ?_
  exact ⟨_, rfl, ⟨rfl, hS, hC.at 0 rfl⟩, hC.at 1 rfl, hZ⟩
set_option maxHeartbeats 4000000 in
theorem m_partsN (g : bw_G) {A : bw_H} {M n p gg th rn mn pn rd rs pt sn a d : Nat} {dd C o1 o2 o3 o4 c l w : Nat → Nat} (hG : GFg n p gg) (hC : bw_has A ((M, mdo M n p gg th rn mn pn rd rs pt sn) :: (mlc g M C o1 o2 o3 o4 c l w ++ [(M + 8, bw_ao g 40 (fun i => tO (dd i)))]))) (hCl : ∀ i, C i < 2 ^ n) (hc : ∀ i, 65 ≤ i → c i = 0) (z1 : zz o1) (z2 : zz o2) (z3 : zz o3) (z4 : zz o4) (zl : zz l) (zw : zz w) (hpn : pn ≤ 40) (ha : a < pn) (hpt : pt ≤ 40) (hne : pt ≠ a + 1) (hda : dd a = pd (gcf C a)) (h0 : pd (gcf C a) ≠ 0) (hd1 : 1 ≤ d) (hd : d ≤ 64) : bw_C g (bw_rm 8 0 0) mX10_parts [.ref M, .int (nI a), .int (nI d)] A (bw_pm (mpP g M (mdo M n p gg 0 rn mn pn rd rs (a + 1) sn) (gpa n (2 ^ n ||| p) (gcf C a)) (nI (gpa n (2 ^ n ||| p) (gcf C a) d)) A)) := by
  have hfa := gcf_ok hCl a
  have hpf := hfa.le (by omega)
  have hS : bw_sm (M :: mlL M) A A := bw_sm.rf
  refine bw_C.of (by decide) (Nat.le_of_ble_eq_true rfl) rfl ?_
  refine bw_aload_n 1 dX10_parts_0 rfl rfl ?_
  refine bw_iconst (0) 2 dX10_parts_1 (by decide) rfl ?_
  refine bw_eqi (y := nI 0) rfl ?_
  refine bw_putU 5 dX10_parts_2 rfl pX10_1 (hC.at 0 rfl) rfl rfl (Nat.le_of_ble_eq_true rfl) (fun A hU => ?_)
  have hC := hC.upd 0 rfl hU
  have hS := hS.upd hU (by simp)
  clear hU
  refine bw_aload_n 6 dX10_parts_5 rfl rfl ?_
  refine bw_iload_n 7 dX10_parts_6 rfl rfl ?_
  refine bw_cVi 10 dX10_parts_7 rfl vX10_182 (m_isPolynomial g (hC.sub [0] (by decide) rfl) (kI_nI (by omega) ha)) (hC.at 0 rfl) rfl rfl (Nat.le_of_ble_eq_true rfl) ⟨(Nat.le_of_ble_eq_true rfl), (Nat.le_of_ble_eq_true rfl)⟩ (Nat.le_of_ble_eq_true rfl) (Nat.le_of_ble_eq_true rfl) ?_
  refine bw_if_ne 19 13 dX10_parts_10 rfl rfl (fun c10 => ?_) (fun c10 => ?_)
  · refine bw_iload_n 20 dX10_parts_19 rfl rfl ?_
    refine bw_iconst (1) 21 dX10_parts_20 (by decide) rfl ?_
    refine bw_eqi (y := nI 1) rfl ?_
    refine bw_icmp_lt 30 24 dX10_parts_21 rfl rfl (fun c21 => ?_) (fun c21 => ?_)
    · exact absurd c21 (Int32.not_lt.mpr (nI_le (a := 1) hd1 (by omega)))
    · refine bw_iload_n 25 dX10_parts_24 rfl rfl ?_
      refine bw_bipush (64) 27 dX10_parts_25 (by decide) rfl ?_
      refine bw_eqi (y := nI 64) rfl ?_
      refine bw_icmp_le 36 30 dX10_parts_27 rfl rfl (fun c27 => ?_) (fun c27 => ?_)
      · refine bw_aload_n 37 dX10_parts_36 rfl rfl ?_
        refine bw_get 40 dX10_parts_37 rfl lX10_36 (hC.at 0 rfl) rfl ?_
        refine bw_iload_n 41 dX10_parts_40 rfl rfl ?_
        refine bw_ialdO 42 dX10_parts_41 rfl (hC.at 9 rfl) (by omega) (by omega) ?_
        refine bw_eqi ((tO_I (dd a)).symm) ?_
        refine bw_iconst (-1) 43 dX10_parts_42 (by decide) rfl ?_
        refine bw_icmp_ne 48 46 dX10_parts_43 rfl rfl (fun c43 => ?_) (fun c43 => ?_)
        · refine bw_aload_n 49 dX10_parts_48 rfl rfl ?_
          refine bw_get 52 dX10_parts_49 rfl lX10_60 (hC.at 0 rfl) rfl ?_
          refine bw_iload_n 53 dX10_parts_52 rfl rfl ?_
          refine bw_icmp_eq 66 56 dX10_parts_53 rfl rfl (fun c53 => ?_) (fun c53 => ?_)
          · exact absurd (tI_inj (by omega) (by omega) (c53.trans (tI_s a).symm)) hne
          · refine bw_aload_n 57 dX10_parts_56 rfl rfl ?_
            refine bw_iload_n 58 dX10_parts_57 rfl rfl ?_
            refine bw_eqi ((tI_s a).symm) ?_
            refine bw_putU 61 dX10_parts_58 rfl pX10_60 (hC.at 0 rfl) rfl rfl (Nat.le_of_ble_eq_true rfl) (fun A hU => ?_)
            have hC := hC.upd 0 rfl hU
            have hS := hS.upd hU (by simp)
            clear hU
            refine bw_aload_n 62 dX10_parts_61 rfl rfl ?_
            refine bw_iload_n 63 dX10_parts_62 rfl rfl ?_
            refine bw_cVv 66 dX10_parts_63 rfl vX10_205 (m_lookAtParts g hG (hC.sub [0, 1, 2, 3, 4, 5, 6, 7, 8] (by decide) rfl) hCl hc z1 z2 z3 z4 zl zw (by omega) h0) (hC.at 0 rfl) rfl rfl (Nat.le_of_ble_eq_true rfl) ⟨(Nat.le_of_ble_eq_true rfl), (Nat.le_of_ble_eq_true rfl)⟩ (Nat.le_of_ble_eq_true rfl) (Nat.le_of_ble_eq_true rfl) (fun A hP => ?_)
            obtain ⟨hs1, hs2, hs3⟩ := hP
            have hM := hC.at 0 rfl
            have hM := (hs1.2 M (by simp)).trans hM
            have hC : bw_has A [(M, mdo M n p gg 0 rn mn pn rd rs (a + 1) sn), (M + 15, bw_an g 65 (gpa n (2 ^ n ||| p) (gcf C a)))] := ⟨fun q hq => by rcases List.mem_cons.mp hq with h | hq; rw [h]; exact hM; rw [List.mem_singleton.mp hq]; exact hs2, by simp⟩
            have hS := hS.trans hs1 (by simp <;> omega)
            exact m_parts_fin g hC hS hs3 hd
        · exact absurd (tI_inj (b := 0) (by omega) (by omega) (c43.trans tI_0.symm)) (by omega)
      · exact absurd (nI_le (b := 64) hd (by omega)) c27
  · exact absurd c10 (by decide)
set_option maxHeartbeats 4000000 in
theorem m_partsC (g : bw_G) {A : bw_H} {M n p gg th rn mn pn rd rs sn a d : Nat} {dd C o1 o2 o3 o4 c l w : Nat → Nat} (hC : bw_has A ((M, mdo M n p gg th rn mn pn rd rs (a + 1) sn) :: (mlc g M C o1 o2 o3 o4 c l w ++ [(M + 8, bw_ao g 40 (fun i => tO (dd i)))]))) (z1 : zz o1) (z2 : zz o2) (z3 : zz o3) (z4 : zz o4) (zl : zz l) (zw : zz w) (hpn : pn ≤ 40) (ha : a < pn) (hd31 : dd a < 2 ^ 31) (hda : dd a ≠ 0) (hd1 : 1 ≤ d) (hd : d ≤ 64) : bw_C g (bw_rm 8 0 0) mX10_parts [.ref M, .int (nI a), .int (nI d)] A (bw_pm (mpP g M (mdo M n p gg 0 rn mn pn rd rs (a + 1) sn) c (nI (c d)) A)) := by
  have hS : bw_sm (M :: mlL M) A A := bw_sm.rf
  refine bw_C.of (by decide) (Nat.le_of_ble_eq_true rfl) rfl ?_
  refine bw_aload_n 1 dX10_parts_0 rfl rfl ?_
  refine bw_iconst (0) 2 dX10_parts_1 (by decide) rfl ?_
  refine bw_eqi (y := nI 0) rfl ?_
  refine bw_putU 5 dX10_parts_2 rfl pX10_1 (hC.at 0 rfl) rfl rfl (Nat.le_of_ble_eq_true rfl) (fun A hU => ?_)
  have hC := hC.upd 0 rfl hU
  have hS := hS.upd hU (by simp)
  clear hU
  refine bw_aload_n 6 dX10_parts_5 rfl rfl ?_
  refine bw_iload_n 7 dX10_parts_6 rfl rfl ?_
  refine bw_cVi 10 dX10_parts_7 rfl vX10_182 (m_isPolynomial g (hC.sub [0] (by decide) rfl) (kI_nI (by omega) ha)) (hC.at 0 rfl) rfl rfl (Nat.le_of_ble_eq_true rfl) ⟨(Nat.le_of_ble_eq_true rfl), (Nat.le_of_ble_eq_true rfl)⟩ (Nat.le_of_ble_eq_true rfl) (Nat.le_of_ble_eq_true rfl) ?_
  refine bw_if_ne 19 13 dX10_parts_10 rfl rfl (fun c10 => ?_) (fun c10 => ?_)
  · refine bw_iload_n 20 dX10_parts_19 rfl rfl ?_
    refine bw_iconst (1) 21 dX10_parts_20 (by decide) rfl ?_
    refine bw_eqi (y := nI 1) rfl ?_
    refine bw_icmp_lt 30 24 dX10_parts_21 rfl rfl (fun c21 => ?_) (fun c21 => ?_)
    · exact absurd c21 (Int32.not_lt.mpr (nI_le (a := 1) hd1 (by omega)))
    · refine bw_iload_n 25 dX10_parts_24 rfl rfl ?_
      refine bw_bipush (64) 27 dX10_parts_25 (by decide) rfl ?_
      refine bw_eqi (y := nI 64) rfl ?_
      refine bw_icmp_le 36 30 dX10_parts_27 rfl rfl (fun c27 => ?_) (fun c27 => ?_)
      · refine bw_aload_n 37 dX10_parts_36 rfl rfl ?_
        refine bw_get 40 dX10_parts_37 rfl lX10_36 (hC.at 0 rfl) rfl ?_
        refine bw_iload_n 41 dX10_parts_40 rfl rfl ?_
        refine bw_ialdO 42 dX10_parts_41 rfl (hC.at 9 rfl) (by omega) (by omega) ?_
        refine bw_eqi ((tO_I (dd a)).symm) ?_
        refine bw_iconst (-1) 43 dX10_parts_42 (by decide) rfl ?_
        refine bw_icmp_ne 48 46 dX10_parts_43 rfl rfl (fun c43 => ?_) (fun c43 => ?_)
        · refine bw_aload_n 49 dX10_parts_48 rfl rfl ?_
          refine bw_get 52 dX10_parts_49 rfl lX10_60 (hC.at 0 rfl) rfl ?_
          refine bw_iload_n 53 dX10_parts_52 rfl rfl ?_
          refine bw_icmp_eq 66 56 dX10_parts_53 rfl rfl (fun c53 => ?_) (fun c53 => ?_)
          · skip
            exact m_parts_fin g (hC.sub [0, 6] (by decide) rfl) hS (by
              intro W hW
              rcases List.mem_cons.mp hW with h | hW
              · rw [h]; exact ⟨_, z1, hC.at 2 rfl⟩
              · rcases List.mem_cons.mp hW with h | hW
                · rw [h]; exact ⟨_, z2, hC.at 3 rfl⟩
                · exact mz4 (hC.at 4 rfl) (hC.at 5 rfl) (hC.at 7 rfl) (hC.at 8 rfl) z3 z4 zl zw W hW) hd
          · exact absurd (tI_s a) c53
        · exact absurd (tI_inj (b := 0) (by omega) (by omega) (c43.trans tI_0.symm)) (by omega)
      · exact absurd (nI_le (b := 64) hd (by omega)) c27
  · exact absurd c10 (by decide)
theorem m_parts0 (g : bw_G) {A : bw_H} {M n p gg th rn mn pn rd rs pt sn a d : Nat} {dd : Nat → Nat} (hC : bw_has A [(M, mdo M n p gg th rn mn pn rd rs pt sn), (M + 8, bw_ao g 40 (fun i => tO (dd i)))]) (hpn : pn ≤ 40) (ha : a < pn) (h0 : dd a = 0) (hd1 : 1 ≤ d) (hd : d ≤ 64) : bw_C g (bw_rm 8 0 0) mX10_parts [.ref M, .int (nI a), .int (nI d)] A (bw_pm (maR M [] (mdo M n p gg 0 rn mn pn rd rs pt sn) (-1) A)) := by
  have hS : bw_sm [M] A A := bw_sm.rf
  refine bw_C.of (by decide) (Nat.le_of_ble_eq_true rfl) rfl ?_
  refine bw_aload_n 1 dX10_parts_0 rfl rfl ?_
  refine bw_iconst (0) 2 dX10_parts_1 (by decide) rfl ?_
  refine bw_eqi (y := nI 0) rfl ?_
  refine bw_putU 5 dX10_parts_2 rfl pX10_1 (hC.at 0 rfl) rfl rfl (Nat.le_of_ble_eq_true rfl) (fun A hU => ?_)
  have hC := hC.upd 0 rfl hU
  have hS := hS.upd hU (by simp)
  clear hU
  refine bw_aload_n 6 dX10_parts_5 rfl rfl ?_
  refine bw_iload_n 7 dX10_parts_6 rfl rfl ?_
  refine bw_cVi 10 dX10_parts_7 rfl vX10_182 (m_isPolynomial g (hC.sub [0] (by decide) rfl) (kI_nI (by omega) ha)) (hC.at 0 rfl) rfl rfl (Nat.le_of_ble_eq_true rfl) ⟨(Nat.le_of_ble_eq_true rfl), (Nat.le_of_ble_eq_true rfl)⟩ (Nat.le_of_ble_eq_true rfl) (Nat.le_of_ble_eq_true rfl) ?_
  refine bw_if_ne 19 13 dX10_parts_10 rfl rfl (fun c10 => ?_) (fun c10 => ?_)
  · refine bw_iload_n 20 dX10_parts_19 rfl rfl ?_
    refine bw_iconst (1) 21 dX10_parts_20 (by decide) rfl ?_
    refine bw_eqi (y := nI 1) rfl ?_
    refine bw_icmp_lt 30 24 dX10_parts_21 rfl rfl (fun c21 => ?_) (fun c21 => ?_)
    · exact absurd c21 (Int32.not_lt.mpr (nI_le (a := 1) hd1 (by omega)))
    · refine bw_iload_n 25 dX10_parts_24 rfl rfl ?_
      refine bw_bipush (64) 27 dX10_parts_25 (by decide) rfl ?_
      refine bw_eqi (y := nI 64) rfl ?_
      refine bw_icmp_le 36 30 dX10_parts_27 rfl rfl (fun c27 => ?_) (fun c27 => ?_)
      · refine bw_aload_n 37 dX10_parts_36 rfl rfl ?_
        refine bw_get 40 dX10_parts_37 rfl lX10_36 (hC.at 0 rfl) rfl ?_
        refine bw_iload_n 41 dX10_parts_40 rfl rfl ?_
        refine bw_ialdO 42 dX10_parts_41 rfl (hC.at 1 rfl) (by omega) (by omega) ?_
        refine bw_eqi ((tO_I (dd a)).symm) ?_
        refine bw_iconst (-1) 43 dX10_parts_42 (by decide) rfl ?_
        refine bw_icmp_ne 48 46 dX10_parts_43 rfl rfl (fun c43 => ?_) (fun c43 => ?_)
        · exact absurd (by rw [h0]; rfl) c43
        · refine bw_iconst (-1) 47 dX10_parts_46 (by decide) rfl ?_
          refine bw_iret dX10_parts_47 rfl (Nat.le_of_ble_eq_true rfl) (Nat.le_of_ble_eq_true rfl) ?_
          exact ⟨_, rfl, rfl, hS, hC.at 0 rfl⟩
      · exact absurd (nI_le (b := 64) hd (by omega)) c27
  · exact absurd c10 (by decide)
theorem m_partsY (g : bw_G) {A : bw_H} {M n p gg th rn mn pn rd rs pt sn k : Nat} {d : Int32} (hC : bw_has A [(M, mdo M n p gg th rn mn pn rd rs pt sn)]) (hm : pn ≤ 40) (hk : k < pn) (h : ¬ (¬ d < nI 1 ∧ d ≤ nI 64)) : bw_C g (bw_rm 8 0 0) mX10_parts [.ref M, .int (nI k), .int d] A (bw_pm (maR M [] (mdo M n p gg 2 rn mn pn rd rs pt sn) (nI 0) A)) := by
  have hS : bw_sm [M] A A := bw_sm.rf
  refine bw_C.of (by decide) (Nat.le_of_ble_eq_true rfl) rfl ?_
  refine bw_aload_n 1 dX10_parts_0 rfl rfl ?_
  refine bw_iconst (0) 2 dX10_parts_1 (by decide) rfl ?_
  refine bw_eqi (y := nI 0) rfl ?_
  refine bw_putU 5 dX10_parts_2 rfl pX10_1 (hC.at 0 rfl) rfl rfl (Nat.le_of_ble_eq_true rfl) (fun A hU => ?_)
  have hC := hC.upd 0 rfl hU
  have hS := hS.upd hU (by simp)
  clear hU
  refine bw_aload_n 6 dX10_parts_5 rfl rfl ?_
  refine bw_iload_n 7 dX10_parts_6 rfl rfl ?_
  refine bw_cVi 10 dX10_parts_7 rfl vX10_182 (m_isPolynomial g hC (kI_nI (by omega) hk)) (hC.at 0 rfl) rfl rfl (Nat.le_of_ble_eq_true rfl) ⟨(Nat.le_of_ble_eq_true rfl), (Nat.le_of_ble_eq_true rfl)⟩ (Nat.le_of_ble_eq_true rfl) (Nat.le_of_ble_eq_true rfl) ?_
  refine bw_if_ne 19 13 dX10_parts_10 rfl rfl (fun c10 => ?_) (fun c10 => ?_)
  · refine bw_iload_n 20 dX10_parts_19 rfl rfl ?_
    refine bw_iconst (1) 21 dX10_parts_20 (by decide) rfl ?_
    refine bw_eqi (y := nI 1) rfl ?_
    refine bw_icmp_lt 30 24 dX10_parts_21 rfl rfl (fun c21 => ?_) (fun c21 => ?_)
    · refine bw_aload_n 31 dX10_parts_30 rfl rfl ?_
      refine bw_iconst (2) 32 dX10_parts_31 (by decide) rfl ?_
      refine bw_eqi (y := nI 2) rfl ?_
      refine bw_cVm 35 dX10_parts_32 rfl vX10_118 (m_fail g hC) (hC.at 0 rfl) rfl rfl (Nat.le_of_ble_eq_true rfl) ⟨(Nat.le_of_ble_eq_true rfl), (Nat.le_of_ble_eq_true rfl)⟩ (Nat.le_of_ble_eq_true rfl) (Nat.le_of_ble_eq_true rfl) (fun x A hP => ?_)
      obtain ⟨h4, h5⟩ := hP
      subst h4
      have hC := hC.upd 0 rfl h5
      have hS := hS.upd h5 (by simp)
      refine bw_iret dX10_parts_35 rfl (Nat.le_of_ble_eq_true rfl) (Nat.le_of_ble_eq_true rfl) ?_
      exact ⟨_, rfl, rfl, hS, hC.at 0 rfl⟩
    · refine bw_iload_n 25 dX10_parts_24 rfl rfl ?_
      refine bw_bipush (64) 27 dX10_parts_25 (by decide) rfl ?_
      refine bw_eqi (y := nI 64) rfl ?_
      refine bw_icmp_le 36 30 dX10_parts_27 rfl rfl (fun c27 => ?_) (fun c27 => ?_)
      · exact absurd ⟨c21, c27⟩ h
      · refine bw_aload_n 31 dX10_parts_30 rfl rfl ?_
        refine bw_iconst (2) 32 dX10_parts_31 (by decide) rfl ?_
        refine bw_eqi (y := nI 2) rfl ?_
        refine bw_cVm 35 dX10_parts_32 rfl vX10_118 (m_fail g hC) (hC.at 0 rfl) rfl rfl (Nat.le_of_ble_eq_true rfl) ⟨(Nat.le_of_ble_eq_true rfl), (Nat.le_of_ble_eq_true rfl)⟩ (Nat.le_of_ble_eq_true rfl) (Nat.le_of_ble_eq_true rfl) (fun x A hP => ?_)
        obtain ⟨h4, h5⟩ := hP
        subst h4
        have hC := hC.upd 0 rfl h5
        have hS := hS.upd h5 (by simp)
        refine bw_iret dX10_parts_35 rfl (Nat.le_of_ble_eq_true rfl) (Nat.le_of_ble_eq_true rfl) ?_
        exact ⟨_, rfl, rfl, hS, hC.at 0 rfl⟩
  · exact absurd c10 (by decide)
theorem m_partsX (g : bw_G) {A : bw_H} {M n p gg th rn mn pn rd rs pt sn : Nat} {a d : Int32} (hC : bw_has A [(M, mdo M n p gg th rn mn pn rd rs pt sn)]) (h : ¬ kI pn a) : bw_C g (bw_rm 8 0 0) mX10_parts [.ref M, .int a, .int d] A (bw_pm (maR M [] (mdo M n p gg 1 rn mn pn rd rs pt sn) (nI 0) A)) := by
  have hS : bw_sm [M] A A := bw_sm.rf
  refine bw_C.of (by decide) (Nat.le_of_ble_eq_true rfl) rfl ?_
  refine bw_aload_n 1 dX10_parts_0 rfl rfl ?_
  refine bw_iconst (0) 2 dX10_parts_1 (by decide) rfl ?_
  refine bw_eqi (y := nI 0) rfl ?_
  refine bw_putU 5 dX10_parts_2 rfl pX10_1 (hC.at 0 rfl) rfl rfl (Nat.le_of_ble_eq_true rfl) (fun A hU => ?_)
  have hC := hC.upd 0 rfl hU
  have hS := hS.upd hU (by simp)
  clear hU
  refine bw_aload_n 6 dX10_parts_5 rfl rfl ?_
  refine bw_iload_n 7 dX10_parts_6 rfl rfl ?_
  refine bw_cVi 10 dX10_parts_7 rfl vX10_182 (m_isPolynomialX g hC h) (hC.at 0 rfl) rfl rfl (Nat.le_of_ble_eq_true rfl) ⟨(Nat.le_of_ble_eq_true rfl), (Nat.le_of_ble_eq_true rfl)⟩ (Nat.le_of_ble_eq_true rfl) (Nat.le_of_ble_eq_true rfl) ?_
  refine bw_if_ne 19 13 dX10_parts_10 rfl rfl (fun c10 => ?_) (fun c10 => ?_)
  · exact absurd rfl c10
  · refine bw_aload_n 14 dX10_parts_13 rfl rfl ?_
    refine bw_iconst (1) 15 dX10_parts_14 (by decide) rfl ?_
    refine bw_eqi (y := nI 1) rfl ?_
    refine bw_cVm 18 dX10_parts_15 rfl vX10_118 (m_fail g hC) (hC.at 0 rfl) rfl rfl (Nat.le_of_ble_eq_true rfl) ⟨(Nat.le_of_ble_eq_true rfl), (Nat.le_of_ble_eq_true rfl)⟩ (Nat.le_of_ble_eq_true rfl) (Nat.le_of_ble_eq_true rfl) (fun x A hP => ?_)
    obtain ⟨h4, h5⟩ := hP
    subst h4
    have hC := hC.upd 0 rfl h5
    have hS := hS.upd h5 (by simp)
    refine bw_iret dX10_parts_18 rfl (Nat.le_of_ble_eq_true rfl) (Nat.le_of_ble_eq_true rfl) ?_
    exact ⟨_, rfl, rfl, hS, hC.at 0 rfl⟩
set_option maxHeartbeats 4000000 in
theorem m_forth_loop (g : bw_G) {A0 : bw_H} {M n p gg rn mn pn rd rs pt sn : Nat} {C row S f : Nat → Nat} (hG : GFg n p gg) (hf : pok n 65 f) (hSl : ∀ i, S i < 2 ^ n) (hsn : sn ≤ 64) :
    ∀ (d k : Nat), k + d = sn → ∀ A : bw_H, bw_has A [(M, mdo M n p gg 0 rn mn pn rd rs pt sn), (M + 9, bw_an g 2600 C), (M + 1, bw_an g 130 (gfv n (2 ^ n ||| p) f row S k)), (M + 18, bw_an g 64 S), (M + 10, bw_an g 200 f)] → bw_sm [M, M + 1, M + 10] A0 A →
      bw_W g (bw_rm 8 0 0) mX10_forth (bw_pm (fun y A' => maR M [M + 1, M + 10] (mdo M n p gg 0 sn mn pn rd rs pt sn) (nI sn) A0 y A' ∧ A'.2 (M + 1) = some (bw_an g 130 (gfv n (2 ^ n ||| p) f row S sn)) ∧ mzz g A' (M + 10))) 0 0 43 [(0, .ref M), (2, .int (nI k))] [] A := by
  have h16 := hG.p16
  intro d
  induction d with
  | zero =>
    intro k hk A hC hS
    have hk : k = sn := by omega
    subst hk
    refine bw_iload_n 44 dX10_forth_43 rfl rfl ?_
    refine bw_aload_n 45 dX10_forth_44 rfl rfl ?_
    refine bw_get 48 dX10_forth_45 rfl lX10_208 (hC.at 0 rfl) rfl ?_
    refine bw_icmp_ge 77 51 dX10_forth_48 rfl rfl (fun c48 => ?_) (fun c48 => ?_)
    · refine bw_aload_n 78 dX10_forth_77 rfl rfl ?_
      refine bw_aload_n 79 dX10_forth_78 rfl rfl ?_
      refine bw_get 82 dX10_forth_79 rfl lX10_208 (hC.at 0 rfl) rfl ?_
      refine bw_putU 85 dX10_forth_82 rfl pX10_124 (hC.at 0 rfl) rfl rfl (Nat.le_of_ble_eq_true rfl) (fun A hU => ?_)
      have hC := hC.upd 0 rfl hU
      have hS := hS.upd hU (by simp)
      clear hU
      refine bw_aload_n 86 dX10_forth_85 rfl rfl ?_
      refine bw_get 89 dX10_forth_86 rfl lX10_124 (hC.at 0 rfl) rfl ?_
      refine bw_iret dX10_forth_89 rfl (Nat.le_of_ble_eq_true rfl) (Nat.le_of_ble_eq_true rfl) ?_
      exact ⟨_, rfl, ⟨rfl, hS, hC.at 0 rfl⟩, hC.at 2 rfl, ⟨_, hf.zz (by omega), hC.at 4 rfl⟩⟩
    · exact absurd (Int32.le_refl _) c48
  | succ d ih =>
    intro k hk A hC hS
    refine bw_iload_n 44 dX10_forth_43 rfl rfl ?_
    refine bw_aload_n 45 dX10_forth_44 rfl rfl ?_
    refine bw_get 48 dX10_forth_45 rfl lX10_208 (hC.at 0 rfl) rfl ?_
    refine bw_icmp_ge 77 51 dX10_forth_48 rfl rfl (fun c48 => ?_) (fun c48 => ?_)
    · exact absurd c48 (nI_ge (by omega) (by omega))
    · skip
      refine bw_aload_n 52 dX10_forth_51 rfl rfl ?_
      refine bw_get 55 dX10_forth_52 rfl lX10_13 (hC.at 0 rfl) rfl ?_
      refine bw_iload_n 56 dX10_forth_55 rfl rfl ?_
      refine bw_aload_n 57 dX10_forth_56 rfl rfl ?_
      refine bw_aload_n 58 dX10_forth_57 rfl rfl ?_
      refine bw_get 61 dX10_forth_58 rfl lX10_42 (hC.at 0 rfl) rfl ?_
      refine bw_aload_n 62 dX10_forth_61 rfl rfl ?_
      refine bw_get 65 dX10_forth_62 rfl lX10_72 (hC.at 0 rfl) rfl ?_
      refine bw_iload_n 66 dX10_forth_65 rfl rfl ?_
      refine bw_ialdN 67 dX10_forth_66 rfl (hC.at 3 rfl) (by omega) (by omega) ?_
      refine bw_cVi 70 dX10_forth_67 rfl vX10_172 (m_atX g hG (hC.sub [0, 4] (by decide) rfl) hf.2 (hSl k)) (hC.at 0 rfl) rfl rfl (Nat.le_of_ble_eq_true rfl) ⟨(Nat.le_of_ble_eq_true rfl), (Nat.le_of_ble_eq_true rfl)⟩ (Nat.le_of_ble_eq_true rfl) (Nat.le_of_ble_eq_true rfl) ?_
      refine bw_iastN 71 dX10_forth_70 rfl (hC.at 2 rfl) (by omega) (by omega) (G := gfv n (2 ^ n ||| p) f row S (k + 1)) (gfv_s) (fun A hU => ?_)
      have hC := hC.upd 2 rfl hU
      have hS := hS.upd hU (by simp)
      clear hU
      refine bw_iincN (1) 74 dX10_forth_71 rfl rfl (by decide) (by decide) ?_
      refine bw_goto 43 dX10_forth_74 rfl ?_
      refine bw_loc _ ?_ (ih (k + 1) (by omega) A hC hS)
      exact ⟨rfl, congrArg (fun x => some (Value.int x)) (nI_1 ( k )), trivial⟩
set_option maxHeartbeats 4000000 in
theorem m_forth (g : bw_G) {A : bw_H} {M n p gg th rn mn pn rd rs pt sn a : Nat} {C row S f1 : Nat → Nat} (hG : GFg n p gg) (hC : bw_has A [(M, mdo M n p gg th rn mn pn rd rs pt sn), (M + 9, bw_an g 2600 C), (M + 1, bw_an g 130 row), (M + 18, bw_an g 64 S), (M + 10, bw_an g 200 f1)]) (hCl : ∀ i, C i < 2 ^ n) (hz : ∀ i, 200 ≤ i → f1 i = 0) (hSl : ∀ i, S i < 2 ^ n) (hsn : sn ≤ 64) (h0 : sn ≠ 0) (hp : pn ≤ 40) (ha : a < pn) : bw_C g (bw_rm 8 0 0) mX10_forth [.ref M, .int (nI a)] A (bw_pm (fun y A' => maR M [M + 1, M + 10] (mdo M n p gg 0 sn mn pn rd rs pt sn) (nI sn) A y A' ∧ A'.2 (M + 1) = some (bw_an g 130 (gfv n (2 ^ n ||| p) (gcf C a) row S sn)) ∧ mzz g A' (M + 10))) := by
  have hS : bw_sm [M, M + 1, M + 10] A A := bw_sm.rf
  refine bw_C.of (by decide) (Nat.le_of_ble_eq_true rfl) rfl ?_
  refine bw_aload_n 1 dX10_forth_0 rfl rfl ?_
  refine bw_iconst (0) 2 dX10_forth_1 (by decide) rfl ?_
  refine bw_eqi (y := nI 0) rfl ?_
  refine bw_putU 5 dX10_forth_2 rfl pX10_1 (hC.at 0 rfl) rfl rfl (Nat.le_of_ble_eq_true rfl) (fun A hU => ?_)
  have hC := hC.upd 0 rfl hU
  have hS := hS.upd hU (by simp)
  clear hU
  refine bw_aload_n 6 dX10_forth_5 rfl rfl ?_
  refine bw_iload_n 7 dX10_forth_6 rfl rfl ?_
  refine bw_cVi 10 dX10_forth_7 rfl vX10_182 (m_isPolynomial g (hC.sub [0] (by decide) rfl) (kI_nI (by omega) ha)) (hC.at 0 rfl) rfl rfl (Nat.le_of_ble_eq_true rfl) ⟨(Nat.le_of_ble_eq_true rfl), (Nat.le_of_ble_eq_true rfl)⟩ (Nat.le_of_ble_eq_true rfl) (Nat.le_of_ble_eq_true rfl) ?_
  refine bw_if_ne 19 13 dX10_forth_10 rfl rfl (fun c10 => ?_) (fun c10 => ?_)
  · refine bw_aload_n 20 dX10_forth_19 rfl rfl ?_
    refine bw_get 23 dX10_forth_20 rfl lX10_208 (hC.at 0 rfl) rfl ?_
    refine bw_if_ne 32 26 dX10_forth_23 rfl rfl (fun c23 => ?_) (fun c23 => ?_)
    · refine bw_aload_n 33 dX10_forth_32 rfl rfl ?_
      refine bw_aload_n 34 dX10_forth_33 rfl rfl ?_
      refine bw_get 37 dX10_forth_34 rfl lX10_42 (hC.at 0 rfl) rfl ?_
      refine bw_iload_n 38 dX10_forth_37 rfl rfl ?_
      refine bw_cVv 41 dX10_forth_38 rfl vX10_185 (m_load g (hC.sub [4, 0, 1] (by decide) rfl) hz (by omega)) (hC.at 0 rfl) rfl rfl (Nat.le_of_ble_eq_true rfl) ⟨(Nat.le_of_ble_eq_true rfl), (Nat.le_of_ble_eq_true rfl)⟩ (Nat.le_of_ble_eq_true rfl) (Nat.le_of_ble_eq_true rfl) (fun A hP => ?_)
      obtain ⟨hs1, hs2⟩ := hP
      have hU := sm_up hs1 hs2
      have hC := hC.upd 4 rfl hU
      have hS := hS.upd hU (by simp)
      clear hU
      refine bw_iconst (0) 42 dX10_forth_41 (by decide) rfl ?_
      refine bw_eqi (y := nI 0) rfl ?_
      refine bw_istore_n 43 dX10_forth_42 rfl (by decide) ?_
      refine bw_loc _ ?_ (m_forth_loop g hG (gcf_ok hCl a) hSl hsn sn 0 (by omega) A (by rw [show gfv n (2 ^ n ||| p) (gcf C a) row S 0 = row from funext (fun i => if_neg (by omega))]; exact hC) hS)
      exact ⟨rfl, rfl, trivial⟩
    · exact absurd ((xn_eq0 (by omega)).mp c23) h0
  · exact absurd c10 (by decide)
theorem m_forthY (g : bw_G) {A : bw_H} {M n p gg th rn mn pn rd rs pt a : Nat} (hC : bw_has A [(M, mdo M n p gg th rn mn pn rd rs pt 0)]) (hp : pn ≤ 40) (ha : a < pn) : bw_C g (bw_rm 8 0 0) mX10_forth [.ref M, .int (nI a)] A (bw_pm (maR M [] (mdo M n p gg 2 rn mn pn rd rs pt 0) (nI 0) A)) := by
  have hS : bw_sm [M] A A := bw_sm.rf
  refine bw_C.of (by decide) (Nat.le_of_ble_eq_true rfl) rfl ?_
  refine bw_aload_n 1 dX10_forth_0 rfl rfl ?_
  refine bw_iconst (0) 2 dX10_forth_1 (by decide) rfl ?_
  refine bw_eqi (y := nI 0) rfl ?_
  refine bw_putU 5 dX10_forth_2 rfl pX10_1 (hC.at 0 rfl) rfl rfl (Nat.le_of_ble_eq_true rfl) (fun A hU => ?_)
  have hC := hC.upd 0 rfl hU
  have hS := hS.upd hU (by simp)
  clear hU
  refine bw_aload_n 6 dX10_forth_5 rfl rfl ?_
  refine bw_iload_n 7 dX10_forth_6 rfl rfl ?_
  refine bw_cVi 10 dX10_forth_7 rfl vX10_182 (m_isPolynomial g hC (kI_nI (by omega) ha)) (hC.at 0 rfl) rfl rfl (Nat.le_of_ble_eq_true rfl) ⟨(Nat.le_of_ble_eq_true rfl), (Nat.le_of_ble_eq_true rfl)⟩ (Nat.le_of_ble_eq_true rfl) (Nat.le_of_ble_eq_true rfl) ?_
  refine bw_if_ne 19 13 dX10_forth_10 rfl rfl (fun c10 => ?_) (fun c10 => ?_)
  · refine bw_aload_n 20 dX10_forth_19 rfl rfl ?_
    refine bw_get 23 dX10_forth_20 rfl lX10_208 (hC.at 0 rfl) rfl ?_
    refine bw_if_ne 32 26 dX10_forth_23 rfl rfl (fun c23 => ?_) (fun c23 => ?_)
    · exact absurd rfl c23
    · refine bw_aload_n 27 dX10_forth_26 rfl rfl ?_
      refine bw_iconst (2) 28 dX10_forth_27 (by decide) rfl ?_
      refine bw_eqi (y := nI 2) rfl ?_
      refine bw_cVm 31 dX10_forth_28 rfl vX10_118 (m_fail g hC) (hC.at 0 rfl) rfl rfl (Nat.le_of_ble_eq_true rfl) ⟨(Nat.le_of_ble_eq_true rfl), (Nat.le_of_ble_eq_true rfl)⟩ (Nat.le_of_ble_eq_true rfl) (Nat.le_of_ble_eq_true rfl) (fun x A hP => ?_)
      obtain ⟨h4, h5⟩ := hP
      subst h4
      have hC := hC.upd 0 rfl h5
      have hS := hS.upd h5 (by simp)
      refine bw_iret dX10_forth_31 rfl (Nat.le_of_ble_eq_true rfl) (Nat.le_of_ble_eq_true rfl) ?_
      exact ⟨_, rfl, rfl, hS, hC.at 0 rfl⟩
  · exact absurd c10 (by decide)
theorem m_forthX (g : bw_G) {A : bw_H} {M n p gg th rn mn pn rd rs pt sn : Nat} {a : Int32} (hC : bw_has A [(M, mdo M n p gg th rn mn pn rd rs pt sn)]) (h : ¬ kI pn a) : bw_C g (bw_rm 8 0 0) mX10_forth [.ref M, .int a] A (bw_pm (maR M [] (mdo M n p gg 1 rn mn pn rd rs pt sn) (nI 0) A)) := by
  have hS : bw_sm [M] A A := bw_sm.rf
  refine bw_C.of (by decide) (Nat.le_of_ble_eq_true rfl) rfl ?_
  refine bw_aload_n 1 dX10_forth_0 rfl rfl ?_
  refine bw_iconst (0) 2 dX10_forth_1 (by decide) rfl ?_
  refine bw_eqi (y := nI 0) rfl ?_
  refine bw_putU 5 dX10_forth_2 rfl pX10_1 (hC.at 0 rfl) rfl rfl (Nat.le_of_ble_eq_true rfl) (fun A hU => ?_)
  have hC := hC.upd 0 rfl hU
  have hS := hS.upd hU (by simp)
  clear hU
  refine bw_aload_n 6 dX10_forth_5 rfl rfl ?_
  refine bw_iload_n 7 dX10_forth_6 rfl rfl ?_
  refine bw_cVi 10 dX10_forth_7 rfl vX10_182 (m_isPolynomialX g hC h) (hC.at 0 rfl) rfl rfl (Nat.le_of_ble_eq_true rfl) ⟨(Nat.le_of_ble_eq_true rfl), (Nat.le_of_ble_eq_true rfl)⟩ (Nat.le_of_ble_eq_true rfl) (Nat.le_of_ble_eq_true rfl) ?_
  refine bw_if_ne 19 13 dX10_forth_10 rfl rfl (fun c10 => ?_) (fun c10 => ?_)
  · exact absurd rfl c10
  · refine bw_aload_n 14 dX10_forth_13 rfl rfl ?_
    refine bw_iconst (1) 15 dX10_forth_14 (by decide) rfl ?_
    refine bw_eqi (y := nI 1) rfl ?_
    refine bw_cVm 18 dX10_forth_15 rfl vX10_118 (m_fail g hC) (hC.at 0 rfl) rfl rfl (Nat.le_of_ble_eq_true rfl) ⟨(Nat.le_of_ble_eq_true rfl), (Nat.le_of_ble_eq_true rfl)⟩ (Nat.le_of_ble_eq_true rfl) (Nat.le_of_ble_eq_true rfl) (fun x A hP => ?_)
    obtain ⟨h4, h5⟩ := hP
    subst h4
    have hC := hC.upd 0 rfl h5
    have hS := hS.upd h5 (by simp)
    refine bw_iret dX10_forth_18 rfl (Nat.le_of_ble_eq_true rfl) (Nat.le_of_ble_eq_true rfl) ?_
    exact ⟨_, rfl, rfl, hS, hC.at 0 rfl⟩
