/-! the reference: divide -/
set_option maxHeartbeats 4000000 in
theorem m_divideR (g : bw_G) {A : bw_H} {M n p gg th rn mn pn rd rs pt sn a b : Nat} {dd C f1 f2 f3 : Nat → Nat} (hG : GFg n p gg) (hC : bw_has A ((M, mdo M n p gg th rn mn pn rd rs pt sn) :: (mpc g M dd C ++ [(M + 10, bw_an g 200 f1), (M + 11, bw_an g 200 f2), (M + 12, bw_an g 200 f3)]))) (hCl : ∀ i, C i < 2 ^ n) (hz1 : ∀ i, 200 ≤ i → f1 i = 0) (hz2 : ∀ i, 200 ≤ i → f2 i = 0) (hz3 : ∀ i, 200 ≤ i → f3 i = 0) (hp : pn < 40) (ha : a < pn) (hb : b < pn) (hdb : dd b = pd (gcf C b)) (h0 : pd (gcf C b) ≠ 0) : bw_C g (bw_rm 8 0 0) mX10_divide [.ref M, .int (nI a), .int (nI b), .int 1] A (bw_pm (mKP g M [M + 10, M + 11, M + 12] (mdo M n p gg 0 rn mn (pn + 1) rd rs pt sn) (nI pn) (fun i => if i = pn then pd (grs n (2 ^ n ||| p) (gcf C a) (gcf C b)) else dd i) (gck (grs n (2 ^ n ||| p) (gcf C a) (gcf C b)) C pn 65) A)) := by
  have h16 := hG.p16
  have hfa := (gcf_ok hCl a).mono (show 65 ≤ 200 by omega)
  have hfb := (gcf_ok hCl b).mono (show 65 ≤ 200 by omega)
  have hb65 := hfb.le (by omega)
  have hd0 : dd b ≠ 0 := by rw [hdb]; exact h0
  have hd31 : dd b < 2 ^ 31 := by omega
  have hr1 := (grs_ok (h := gcf C b) hG.2.2.1 hfa).mono (show pd (gcf C b) - 1 ≤ 200 by omega)
  have hq1 := (gqu_ok (h := gcf C b) hG.2.2.1 hfa (by omega)).mono (show 200 - (pd (gcf C b) - 1) ≤ 200 by omega)
  have hS : bw_sm (M :: ([M + 10, M + 11, M + 12] ++ mpl M)) A A := bw_sm.rf
  refine bw_C.of (by decide) (Nat.le_of_ble_eq_true rfl) rfl ?_
  refine bw_aload_n 1 dX10_divide_0 rfl rfl ?_
  refine bw_iconst (0) 2 dX10_divide_1 (by decide) rfl ?_
  refine bw_eqi (y := nI 0) rfl ?_
  refine bw_putU 5 dX10_divide_2 rfl pX10_1 (hC.at 0 rfl) rfl rfl (Nat.le_of_ble_eq_true rfl) (fun A hU => ?_)
  have hC := hC.upd 0 rfl hU
  have hS := hS.upd hU (by simp)
  clear hU
  refine bw_aload_n 6 dX10_divide_5 rfl rfl ?_
  refine bw_iload_n 7 dX10_divide_6 rfl rfl ?_
  refine bw_cVi 10 dX10_divide_7 rfl vX10_182 (m_isPolynomial g (hC.sub [0] (by decide) rfl) (kI_nI (by omega) ha)) (hC.at 0 rfl) rfl rfl (Nat.le_of_ble_eq_true rfl) ⟨(Nat.le_of_ble_eq_true rfl), (Nat.le_of_ble_eq_true rfl)⟩ (Nat.le_of_ble_eq_true rfl) (Nat.le_of_ble_eq_true rfl) ?_
  refine bw_if_eq 21 13 dX10_divide_10 rfl rfl (fun c10 => ?_) (fun c10 => ?_)
  · exact absurd c10 (by decide)
  · refine bw_aload_n 14 dX10_divide_13 rfl rfl ?_
    refine bw_iload_n 15 dX10_divide_14 rfl rfl ?_
    refine bw_cVi 18 dX10_divide_15 rfl vX10_182 (m_isPolynomial g (hC.sub [0] (by decide) rfl) (kI_nI (by omega) hb)) (hC.at 0 rfl) rfl rfl (Nat.le_of_ble_eq_true rfl) ⟨(Nat.le_of_ble_eq_true rfl), (Nat.le_of_ble_eq_true rfl)⟩ (Nat.le_of_ble_eq_true rfl) (Nat.le_of_ble_eq_true rfl) ?_
    refine bw_if_ne 27 21 dX10_divide_18 rfl rfl (fun c18 => ?_) (fun c18 => ?_)
    · refine bw_aload_n 28 dX10_divide_27 rfl rfl ?_
      refine bw_get 31 dX10_divide_28 rfl lX10_36 (hC.at 0 rfl) rfl ?_
      refine bw_iload_n 32 dX10_divide_31 rfl rfl ?_
      refine bw_ialdO 33 dX10_divide_32 rfl (hC.at 1 rfl) (by omega) (by omega) ?_
      refine bw_eqi ((tO_I (dd b)).symm) ?_
      refine bw_iconst (-1) 34 dX10_divide_33 (by decide) rfl ?_
      refine bw_icmp_ne 43 37 dX10_divide_34 rfl rfl (fun c34 => ?_) (fun c34 => ?_)
      · refine bw_aload_n 44 dX10_divide_43 rfl rfl ?_
        refine bw_get 47 dX10_divide_44 rfl lX10_158 (hC.at 0 rfl) rfl ?_
        refine bw_bipush (40) 49 dX10_divide_47 (by decide) rfl ?_
        refine bw_eqi (y := nI 40) rfl ?_
        refine bw_icmp_ne 58 52 dX10_divide_49 rfl rfl (fun c49 => ?_) (fun c49 => ?_)
        · refine bw_aload_n 59 dX10_divide_58 rfl rfl ?_
          refine bw_aload_n 60 dX10_divide_59 rfl rfl ?_
          refine bw_get 63 dX10_divide_60 rfl lX10_42 (hC.at 0 rfl) rfl ?_
          refine bw_iload_n 64 dX10_divide_63 rfl rfl ?_
          refine bw_cVv 67 dX10_divide_64 rfl vX10_185 (m_load g (hC.sub [3, 0, 2] (by decide) rfl) hz1 (by omega)) (hC.at 0 rfl) rfl rfl (Nat.le_of_ble_eq_true rfl) ⟨(Nat.le_of_ble_eq_true rfl), (Nat.le_of_ble_eq_true rfl)⟩ (Nat.le_of_ble_eq_true rfl) (Nat.le_of_ble_eq_true rfl) (fun A hP => ?_)
          obtain ⟨hs1, hs2⟩ := hP
          have hU := sm_up hs1 hs2
          have hC := hC.upd 3 rfl hU
          have hS := hS.upd hU (by simp)
          clear hU
          refine bw_aload_n 68 dX10_divide_67 rfl rfl ?_
          refine bw_aload_n 69 dX10_divide_68 rfl rfl ?_
          refine bw_get 72 dX10_divide_69 rfl lX10_45 (hC.at 0 rfl) rfl ?_
          refine bw_iload_n 73 dX10_divide_72 rfl rfl ?_
          refine bw_cVv 76 dX10_divide_73 rfl vX10_185 (m_load g (hC.sub [4, 0, 2] (by decide) rfl) hz2 (by omega)) (hC.at 0 rfl) rfl rfl (Nat.le_of_ble_eq_true rfl) ⟨(Nat.le_of_ble_eq_true rfl), (Nat.le_of_ble_eq_true rfl)⟩ (Nat.le_of_ble_eq_true rfl) (Nat.le_of_ble_eq_true rfl) (fun A hP => ?_)
          obtain ⟨hs1, hs2⟩ := hP
          have hU := sm_up hs1 hs2
          have hC := hC.upd 4 rfl hU
          have hS := hS.upd hU (by simp)
          clear hU
          refine bw_aload_n 77 dX10_divide_76 rfl rfl ?_
          refine bw_aload_n 78 dX10_divide_77 rfl rfl ?_
          refine bw_get 81 dX10_divide_78 rfl lX10_42 (hC.at 0 rfl) rfl ?_
          refine bw_aload_n 82 dX10_divide_81 rfl rfl ?_
          refine bw_get 85 dX10_divide_82 rfl lX10_45 (hC.at 0 rfl) rfl ?_
          refine bw_cVv 88 dX10_divide_85 rfl vX10_189 (m_split g hG (hC.sub [0, 3, 4, 5] (by decide) rfl) hfa hfb hz3 h0) (hC.at 0 rfl) rfl rfl (Nat.le_of_ble_eq_true rfl) ⟨(Nat.le_of_ble_eq_true rfl), (Nat.le_of_ble_eq_true rfl)⟩ (Nat.le_of_ble_eq_true rfl) (Nat.le_of_ble_eq_true rfl) (fun A hP => ?_)
          obtain ⟨hs1, hs2⟩ := hP
          have hC := (hC.up 3 rfl).upd 5 rfl (sm_up2 hs1 hs2)
          have hS := hS.trans hs1 (by simp <;> omega)
          refine bw_iload_n 89 dX10_divide_88 rfl rfl ?_
          refine bw_if_eq 103 92 dX10_divide_89 rfl rfl (fun c89 => ?_) (fun c89 => ?_)
          · exact absurd c89 (by decide)
          · refine bw_aload_n 93 dX10_divide_92 rfl rfl ?_
            refine bw_aload_n 94 dX10_divide_93 rfl rfl ?_
            refine bw_get 97 dX10_divide_94 rfl lX10_42 (hC.at 0 rfl) rfl ?_
            refine bw_cVm 100 dX10_divide_97 rfl vX10_169 (m_kept g (hC.sub [0, 1, 2, 3] (by decide) rfl) (fun i => by have := hr1.2 i; omega) hp) (hC.at 0 rfl) rfl rfl (Nat.le_of_ble_eq_true rfl) ⟨(Nat.le_of_ble_eq_true rfl), (Nat.le_of_ble_eq_true rfl)⟩ (Nat.le_of_ble_eq_true rfl) (Nat.le_of_ble_eq_true rfl) (fun x A hP => ?_)
            obtain ⟨⟨h4, h5, h6⟩, h7⟩ := hP
            subst h4
            have hW := (hC.sub [3, 4, 5] (by decide) rfl).frm h5 (by simp <;> omega)
            have hS := hS.trans h5 (by simp <;> omega)
            refine bw_goto 111 dX10_divide_100 rfl ?_
            refine bw_iret dX10_divide_111 rfl (Nat.le_of_ble_eq_true rfl) (Nat.le_of_ble_eq_true rfl) ?_
            exact ⟨_, rfl, rfl, hS, h6, h7, mz3 (hW.at 0 rfl) (hW.at 1 rfl) (hW.at 2 rfl) hr1.1 hfb.1 hq1.1⟩
        · exact absurd ((nI_eq (b := 40) (by omega) (by omega)).mp c49) (by omega)
      · exact absurd (tI_inj (b := 0) (by omega) (by omega) (c34.trans tI_0.symm)) hd0
    · exact absurd c18 (by decide)
set_option maxHeartbeats 4000000 in
theorem m_divideQ (g : bw_G) {A : bw_H} {M n p gg th rn mn pn rd rs pt sn a b : Nat} {dd C f1 f2 f3 : Nat → Nat} (hG : GFg n p gg) (hC : bw_has A ((M, mdo M n p gg th rn mn pn rd rs pt sn) :: (mpc g M dd C ++ [(M + 10, bw_an g 200 f1), (M + 11, bw_an g 200 f2), (M + 12, bw_an g 200 f3)]))) (hCl : ∀ i, C i < 2 ^ n) (hz1 : ∀ i, 200 ≤ i → f1 i = 0) (hz2 : ∀ i, 200 ≤ i → f2 i = 0) (hz3 : ∀ i, 200 ≤ i → f3 i = 0) (hp : pn < 40) (ha : a < pn) (hb : b < pn) (hdb : dd b = pd (gcf C b)) (h0 : pd (gcf C b) ≠ 0) : bw_C g (bw_rm 8 0 0) mX10_divide [.ref M, .int (nI a), .int (nI b), .int 0] A (bw_pm (mKP g M [M + 10, M + 11, M + 12] (mdo M n p gg 0 rn mn (pn + 1) rd rs pt sn) (nI pn) (fun i => if i = pn then pd (gqu n (2 ^ n ||| p) (gcf C a) (gcf C b)) else dd i) (gck (gqu n (2 ^ n ||| p) (gcf C a) (gcf C b)) C pn 65) A)) := by
  have h16 := hG.p16
  have hfa := (gcf_ok hCl a).mono (show 65 ≤ 200 by omega)
  have hfb := (gcf_ok hCl b).mono (show 65 ≤ 200 by omega)
  have hb65 := hfb.le (by omega)
  have hd0 : dd b ≠ 0 := by rw [hdb]; exact h0
  have hd31 : dd b < 2 ^ 31 := by omega
  have hr1 := (grs_ok (h := gcf C b) hG.2.2.1 hfa).mono (show pd (gcf C b) - 1 ≤ 200 by omega)
  have hq1 := (gqu_ok (h := gcf C b) hG.2.2.1 hfa (by omega)).mono (show 200 - (pd (gcf C b) - 1) ≤ 200 by omega)
  have hS : bw_sm (M :: ([M + 10, M + 11, M + 12] ++ mpl M)) A A := bw_sm.rf
  refine bw_C.of (by decide) (Nat.le_of_ble_eq_true rfl) rfl ?_
  refine bw_aload_n 1 dX10_divide_0 rfl rfl ?_
  refine bw_iconst (0) 2 dX10_divide_1 (by decide) rfl ?_
  refine bw_eqi (y := nI 0) rfl ?_
  refine bw_putU 5 dX10_divide_2 rfl pX10_1 (hC.at 0 rfl) rfl rfl (Nat.le_of_ble_eq_true rfl) (fun A hU => ?_)
  have hC := hC.upd 0 rfl hU
  have hS := hS.upd hU (by simp)
  clear hU
  refine bw_aload_n 6 dX10_divide_5 rfl rfl ?_
  refine bw_iload_n 7 dX10_divide_6 rfl rfl ?_
  refine bw_cVi 10 dX10_divide_7 rfl vX10_182 (m_isPolynomial g (hC.sub [0] (by decide) rfl) (kI_nI (by omega) ha)) (hC.at 0 rfl) rfl rfl (Nat.le_of_ble_eq_true rfl) ⟨(Nat.le_of_ble_eq_true rfl), (Nat.le_of_ble_eq_true rfl)⟩ (Nat.le_of_ble_eq_true rfl) (Nat.le_of_ble_eq_true rfl) ?_
  refine bw_if_eq 21 13 dX10_divide_10 rfl rfl (fun c10 => ?_) (fun c10 => ?_)
  · exact absurd c10 (by decide)
  · refine bw_aload_n 14 dX10_divide_13 rfl rfl ?_
    refine bw_iload_n 15 dX10_divide_14 rfl rfl ?_
    refine bw_cVi 18 dX10_divide_15 rfl vX10_182 (m_isPolynomial g (hC.sub [0] (by decide) rfl) (kI_nI (by omega) hb)) (hC.at 0 rfl) rfl rfl (Nat.le_of_ble_eq_true rfl) ⟨(Nat.le_of_ble_eq_true rfl), (Nat.le_of_ble_eq_true rfl)⟩ (Nat.le_of_ble_eq_true rfl) (Nat.le_of_ble_eq_true rfl) ?_
    refine bw_if_ne 27 21 dX10_divide_18 rfl rfl (fun c18 => ?_) (fun c18 => ?_)
    · refine bw_aload_n 28 dX10_divide_27 rfl rfl ?_
      refine bw_get 31 dX10_divide_28 rfl lX10_36 (hC.at 0 rfl) rfl ?_
      refine bw_iload_n 32 dX10_divide_31 rfl rfl ?_
      refine bw_ialdO 33 dX10_divide_32 rfl (hC.at 1 rfl) (by omega) (by omega) ?_
      refine bw_eqi ((tO_I (dd b)).symm) ?_
      refine bw_iconst (-1) 34 dX10_divide_33 (by decide) rfl ?_
      refine bw_icmp_ne 43 37 dX10_divide_34 rfl rfl (fun c34 => ?_) (fun c34 => ?_)
      · refine bw_aload_n 44 dX10_divide_43 rfl rfl ?_
        refine bw_get 47 dX10_divide_44 rfl lX10_158 (hC.at 0 rfl) rfl ?_
        refine bw_bipush (40) 49 dX10_divide_47 (by decide) rfl ?_
        refine bw_eqi (y := nI 40) rfl ?_
        refine bw_icmp_ne 58 52 dX10_divide_49 rfl rfl (fun c49 => ?_) (fun c49 => ?_)
        · refine bw_aload_n 59 dX10_divide_58 rfl rfl ?_
          refine bw_aload_n 60 dX10_divide_59 rfl rfl ?_
          refine bw_get 63 dX10_divide_60 rfl lX10_42 (hC.at 0 rfl) rfl ?_
          refine bw_iload_n 64 dX10_divide_63 rfl rfl ?_
          refine bw_cVv 67 dX10_divide_64 rfl vX10_185 (m_load g (hC.sub [3, 0, 2] (by decide) rfl) hz1 (by omega)) (hC.at 0 rfl) rfl rfl (Nat.le_of_ble_eq_true rfl) ⟨(Nat.le_of_ble_eq_true rfl), (Nat.le_of_ble_eq_true rfl)⟩ (Nat.le_of_ble_eq_true rfl) (Nat.le_of_ble_eq_true rfl) (fun A hP => ?_)
          obtain ⟨hs1, hs2⟩ := hP
          have hU := sm_up hs1 hs2
          have hC := hC.upd 3 rfl hU
          have hS := hS.upd hU (by simp)
          clear hU
          refine bw_aload_n 68 dX10_divide_67 rfl rfl ?_
          refine bw_aload_n 69 dX10_divide_68 rfl rfl ?_
          refine bw_get 72 dX10_divide_69 rfl lX10_45 (hC.at 0 rfl) rfl ?_
          refine bw_iload_n 73 dX10_divide_72 rfl rfl ?_
          refine bw_cVv 76 dX10_divide_73 rfl vX10_185 (m_load g (hC.sub [4, 0, 2] (by decide) rfl) hz2 (by omega)) (hC.at 0 rfl) rfl rfl (Nat.le_of_ble_eq_true rfl) ⟨(Nat.le_of_ble_eq_true rfl), (Nat.le_of_ble_eq_true rfl)⟩ (Nat.le_of_ble_eq_true rfl) (Nat.le_of_ble_eq_true rfl) (fun A hP => ?_)
          obtain ⟨hs1, hs2⟩ := hP
          have hU := sm_up hs1 hs2
          have hC := hC.upd 4 rfl hU
          have hS := hS.upd hU (by simp)
          clear hU
          refine bw_aload_n 77 dX10_divide_76 rfl rfl ?_
          refine bw_aload_n 78 dX10_divide_77 rfl rfl ?_
          refine bw_get 81 dX10_divide_78 rfl lX10_42 (hC.at 0 rfl) rfl ?_
          refine bw_aload_n 82 dX10_divide_81 rfl rfl ?_
          refine bw_get 85 dX10_divide_82 rfl lX10_45 (hC.at 0 rfl) rfl ?_
          refine bw_cVv 88 dX10_divide_85 rfl vX10_189 (m_split g hG (hC.sub [0, 3, 4, 5] (by decide) rfl) hfa hfb hz3 h0) (hC.at 0 rfl) rfl rfl (Nat.le_of_ble_eq_true rfl) ⟨(Nat.le_of_ble_eq_true rfl), (Nat.le_of_ble_eq_true rfl)⟩ (Nat.le_of_ble_eq_true rfl) (Nat.le_of_ble_eq_true rfl) (fun A hP => ?_)
          obtain ⟨hs1, hs2⟩ := hP
          have hC := (hC.up 3 rfl).upd 5 rfl (sm_up2 hs1 hs2)
          have hS := hS.trans hs1 (by simp <;> omega)
          refine bw_iload_n 89 dX10_divide_88 rfl rfl ?_
          refine bw_if_eq 103 92 dX10_divide_89 rfl rfl (fun c89 => ?_) (fun c89 => ?_)
          · skip
            refine bw_aload_n 104 dX10_divide_103 rfl rfl ?_
            refine bw_aload_n 105 dX10_divide_104 rfl rfl ?_
            refine bw_get 108 dX10_divide_105 rfl lX10_48 (hC.at 0 rfl) rfl ?_
            refine bw_cVm 111 dX10_divide_108 rfl vX10_169 (m_kept g (hC.sub [0, 1, 2, 5] (by decide) rfl) (fun i => by have := hq1.2 i; omega) hp) (hC.at 0 rfl) rfl rfl (Nat.le_of_ble_eq_true rfl) ⟨(Nat.le_of_ble_eq_true rfl), (Nat.le_of_ble_eq_true rfl)⟩ (Nat.le_of_ble_eq_true rfl) (Nat.le_of_ble_eq_true rfl) (fun x A hP => ?_)
            obtain ⟨⟨h4, h5, h6⟩, h7⟩ := hP
            subst h4
            have hW := (hC.sub [3, 4, 5] (by decide) rfl).frm h5 (by simp <;> omega)
            have hS := hS.trans h5 (by simp <;> omega)
            refine bw_iret dX10_divide_111 rfl (Nat.le_of_ble_eq_true rfl) (Nat.le_of_ble_eq_true rfl) ?_
            exact ⟨_, rfl, rfl, hS, h6, h7, mz3 (hW.at 0 rfl) (hW.at 1 rfl) (hW.at 2 rfl) hr1.1 hfb.1 hq1.1⟩
          · exact absurd rfl c89
        · exact absurd ((nI_eq (b := 40) (by omega) (by omega)).mp c49) (by omega)
      · exact absurd (tI_inj (b := 0) (by omega) (by omega) (c34.trans tI_0.symm)) hd0
    · exact absurd c18 (by decide)
theorem m_divideZ (g : bw_G) {A : bw_H} {M n p gg th rn mn rd rs pt sn a b : Nat} {z : Int32} {dd : Nat → Nat} (hC : bw_has A [(M, mdo M n p gg th rn mn 40 rd rs pt sn), (M + 8, bw_ao g 40 (fun i => tO (dd i)))]) (ha : a < 40) (hb : b < 40) (hd31 : dd b < 2 ^ 31) (hd0 : dd b ≠ 0) : bw_C g (bw_rm 8 0 0) mX10_divide [.ref M, .int (nI a), .int (nI b), .int z] A (bw_pm (maR M [] (mdo M n p gg 3 rn mn 40 rd rs pt sn) (nI 0) A)) := by
  have hS : bw_sm [M] A A := bw_sm.rf
  refine bw_C.of (by decide) (Nat.le_of_ble_eq_true rfl) rfl ?_
  refine bw_aload_n 1 dX10_divide_0 rfl rfl ?_
  refine bw_iconst (0) 2 dX10_divide_1 (by decide) rfl ?_
  refine bw_eqi (y := nI 0) rfl ?_
  refine bw_putU 5 dX10_divide_2 rfl pX10_1 (hC.at 0 rfl) rfl rfl (Nat.le_of_ble_eq_true rfl) (fun A hU => ?_)
  have hC := hC.upd 0 rfl hU
  have hS := hS.upd hU (by simp)
  clear hU
  refine bw_aload_n 6 dX10_divide_5 rfl rfl ?_
  refine bw_iload_n 7 dX10_divide_6 rfl rfl ?_
  refine bw_cVi 10 dX10_divide_7 rfl vX10_182 (m_isPolynomial g (hC.sub [0] (by decide) rfl) (kI_nI (by omega) ha)) (hC.at 0 rfl) rfl rfl (Nat.le_of_ble_eq_true rfl) ⟨(Nat.le_of_ble_eq_true rfl), (Nat.le_of_ble_eq_true rfl)⟩ (Nat.le_of_ble_eq_true rfl) (Nat.le_of_ble_eq_true rfl) ?_
  refine bw_if_eq 21 13 dX10_divide_10 rfl rfl (fun c10 => ?_) (fun c10 => ?_)
  · exact absurd c10 (by decide)
  · refine bw_aload_n 14 dX10_divide_13 rfl rfl ?_
    refine bw_iload_n 15 dX10_divide_14 rfl rfl ?_
    refine bw_cVi 18 dX10_divide_15 rfl vX10_182 (m_isPolynomial g (hC.sub [0] (by decide) rfl) (kI_nI (by omega) hb)) (hC.at 0 rfl) rfl rfl (Nat.le_of_ble_eq_true rfl) ⟨(Nat.le_of_ble_eq_true rfl), (Nat.le_of_ble_eq_true rfl)⟩ (Nat.le_of_ble_eq_true rfl) (Nat.le_of_ble_eq_true rfl) ?_
    refine bw_if_ne 27 21 dX10_divide_18 rfl rfl (fun c18 => ?_) (fun c18 => ?_)
    · refine bw_aload_n 28 dX10_divide_27 rfl rfl ?_
      refine bw_get 31 dX10_divide_28 rfl lX10_36 (hC.at 0 rfl) rfl ?_
      refine bw_iload_n 32 dX10_divide_31 rfl rfl ?_
      refine bw_ialdO 33 dX10_divide_32 rfl (hC.at 1 rfl) (by omega) (by omega) ?_
      refine bw_eqi ((tO_I (dd b)).symm) ?_
      refine bw_iconst (-1) 34 dX10_divide_33 (by decide) rfl ?_
      refine bw_icmp_ne 43 37 dX10_divide_34 rfl rfl (fun c34 => ?_) (fun c34 => ?_)
      · refine bw_aload_n 44 dX10_divide_43 rfl rfl ?_
        refine bw_get 47 dX10_divide_44 rfl lX10_158 (hC.at 0 rfl) rfl ?_
        refine bw_bipush (40) 49 dX10_divide_47 (by decide) rfl ?_
        refine bw_eqi (y := nI 40) rfl ?_
        refine bw_icmp_ne 58 52 dX10_divide_49 rfl rfl (fun c49 => ?_) (fun c49 => ?_)
        · exact absurd rfl c49
        · refine bw_aload_n 53 dX10_divide_52 rfl rfl ?_
          refine bw_iconst (3) 54 dX10_divide_53 (by decide) rfl ?_
          refine bw_eqi (y := nI 3) rfl ?_
          refine bw_cVm 57 dX10_divide_54 rfl vX10_118 (m_fail g (hC.sub [0] (by decide) rfl)) (hC.at 0 rfl) rfl rfl (Nat.le_of_ble_eq_true rfl) ⟨(Nat.le_of_ble_eq_true rfl), (Nat.le_of_ble_eq_true rfl)⟩ (Nat.le_of_ble_eq_true rfl) (Nat.le_of_ble_eq_true rfl) (fun x A hP => ?_)
          obtain ⟨h4, h5⟩ := hP
          subst h4
          have hC := hC.upd 0 rfl h5
          have hS := hS.upd h5 (by simp)
          refine bw_iret dX10_divide_57 rfl (Nat.le_of_ble_eq_true rfl) (Nat.le_of_ble_eq_true rfl) ?_
          exact ⟨_, rfl, rfl, hS, hC.at 0 rfl⟩
      · exact absurd (tI_inj (b := 0) hd31 (by omega) (c34.trans tI_0.symm)) hd0
    · exact absurd c18 (by decide)
theorem m_divideY (g : bw_G) {A : bw_H} {M n p gg th rn mn pn rd rs pt sn a b : Nat} {z : Int32} {dd : Nat → Nat} (hC : bw_has A [(M, mdo M n p gg th rn mn pn rd rs pt sn), (M + 8, bw_ao g 40 (fun i => tO (dd i)))]) (hp : pn ≤ 40) (ha : a < pn) (hb : b < pn) (hd0 : dd b = 0) : bw_C g (bw_rm 8 0 0) mX10_divide [.ref M, .int (nI a), .int (nI b), .int z] A (bw_pm (maR M [] (mdo M n p gg 2 rn mn pn rd rs pt sn) (nI 0) A)) := by
  have hS : bw_sm [M] A A := bw_sm.rf
  refine bw_C.of (by decide) (Nat.le_of_ble_eq_true rfl) rfl ?_
  refine bw_aload_n 1 dX10_divide_0 rfl rfl ?_
  refine bw_iconst (0) 2 dX10_divide_1 (by decide) rfl ?_
  refine bw_eqi (y := nI 0) rfl ?_
  refine bw_putU 5 dX10_divide_2 rfl pX10_1 (hC.at 0 rfl) rfl rfl (Nat.le_of_ble_eq_true rfl) (fun A hU => ?_)
  have hC := hC.upd 0 rfl hU
  have hS := hS.upd hU (by simp)
  clear hU
  refine bw_aload_n 6 dX10_divide_5 rfl rfl ?_
  refine bw_iload_n 7 dX10_divide_6 rfl rfl ?_
  refine bw_cVi 10 dX10_divide_7 rfl vX10_182 (m_isPolynomial g (hC.sub [0] (by decide) rfl) (kI_nI (by omega) ha)) (hC.at 0 rfl) rfl rfl (Nat.le_of_ble_eq_true rfl) ⟨(Nat.le_of_ble_eq_true rfl), (Nat.le_of_ble_eq_true rfl)⟩ (Nat.le_of_ble_eq_true rfl) (Nat.le_of_ble_eq_true rfl) ?_
  refine bw_if_eq 21 13 dX10_divide_10 rfl rfl (fun c10 => ?_) (fun c10 => ?_)
  · exact absurd c10 (by decide)
  · refine bw_aload_n 14 dX10_divide_13 rfl rfl ?_
    refine bw_iload_n 15 dX10_divide_14 rfl rfl ?_
    refine bw_cVi 18 dX10_divide_15 rfl vX10_182 (m_isPolynomial g (hC.sub [0] (by decide) rfl) (kI_nI (by omega) hb)) (hC.at 0 rfl) rfl rfl (Nat.le_of_ble_eq_true rfl) ⟨(Nat.le_of_ble_eq_true rfl), (Nat.le_of_ble_eq_true rfl)⟩ (Nat.le_of_ble_eq_true rfl) (Nat.le_of_ble_eq_true rfl) ?_
    refine bw_if_ne 27 21 dX10_divide_18 rfl rfl (fun c18 => ?_) (fun c18 => ?_)
    · refine bw_aload_n 28 dX10_divide_27 rfl rfl ?_
      refine bw_get 31 dX10_divide_28 rfl lX10_36 (hC.at 0 rfl) rfl ?_
      refine bw_iload_n 32 dX10_divide_31 rfl rfl ?_
      refine bw_ialdO 33 dX10_divide_32 rfl (hC.at 1 rfl) (by omega) (by omega) ?_
      refine bw_eqi ((tO_I (dd b)).symm) ?_
      refine bw_iconst (-1) 34 dX10_divide_33 (by decide) rfl ?_
      refine bw_icmp_ne 43 37 dX10_divide_34 rfl rfl (fun c34 => ?_) (fun c34 => ?_)
      · exact absurd (by rw [hd0]; rfl) c34
      · skip
        refine bw_aload_n 38 dX10_divide_37 rfl rfl ?_
        refine bw_iconst (2) 39 dX10_divide_38 (by decide) rfl ?_
        refine bw_eqi (y := nI 2) rfl ?_
        refine bw_cVm 42 dX10_divide_39 rfl vX10_118 (m_fail g (hC.sub [0] (by decide) rfl)) (hC.at 0 rfl) rfl rfl (Nat.le_of_ble_eq_true rfl) ⟨(Nat.le_of_ble_eq_true rfl), (Nat.le_of_ble_eq_true rfl)⟩ (Nat.le_of_ble_eq_true rfl) (Nat.le_of_ble_eq_true rfl) (fun x A hP => ?_)
        obtain ⟨h4, h5⟩ := hP
        subst h4
        have hC := hC.upd 0 rfl h5
        have hS := hS.upd h5 (by simp)
        refine bw_iret dX10_divide_42 rfl (Nat.le_of_ble_eq_true rfl) (Nat.le_of_ble_eq_true rfl) ?_
        exact ⟨_, rfl, rfl, hS, hC.at 0 rfl⟩
    · exact absurd c18 (by decide)
theorem m_divideX (g : bw_G) {A : bw_H} {M n p gg th rn mn pn rd rs pt sn : Nat} {a b z : Int32} (hC : bw_has A [(M, mdo M n p gg th rn mn pn rd rs pt sn)]) (h : ¬ (kI pn a ∧ kI pn b)) : bw_C g (bw_rm 8 0 0) mX10_divide [.ref M, .int a, .int b, .int z] A (bw_pm (maR M [] (mdo M n p gg 1 rn mn pn rd rs pt sn) (nI 0) A)) := by
  have hS : bw_sm [M] A A := bw_sm.rf
  refine bw_C.of (by decide) (Nat.le_of_ble_eq_true rfl) rfl ?_
  by_cases ha : kI pn a
  · skip
    refine bw_aload_n 1 dX10_divide_0 rfl rfl ?_
    refine bw_iconst (0) 2 dX10_divide_1 (by decide) rfl ?_
    refine bw_eqi (y := nI 0) rfl ?_
    refine bw_putU 5 dX10_divide_2 rfl pX10_1 (hC.at 0 rfl) rfl rfl (Nat.le_of_ble_eq_true rfl) (fun A hU => ?_)
    have hC := hC.upd 0 rfl hU
    have hS := hS.upd hU (by simp)
    clear hU
    refine bw_aload_n 6 dX10_divide_5 rfl rfl ?_
    refine bw_iload_n 7 dX10_divide_6 rfl rfl ?_
    refine bw_cVi 10 dX10_divide_7 rfl vX10_182 (m_isPolynomial g hC ha) (hC.at 0 rfl) rfl rfl (Nat.le_of_ble_eq_true rfl) ⟨(Nat.le_of_ble_eq_true rfl), (Nat.le_of_ble_eq_true rfl)⟩ (Nat.le_of_ble_eq_true rfl) (Nat.le_of_ble_eq_true rfl) ?_
    refine bw_if_eq 21 13 dX10_divide_10 rfl rfl (fun c10 => ?_) (fun c10 => ?_)
    · exact absurd c10 (by decide)
    · refine bw_aload_n 14 dX10_divide_13 rfl rfl ?_
      refine bw_iload_n 15 dX10_divide_14 rfl rfl ?_
      refine bw_cVi 18 dX10_divide_15 rfl vX10_182 (m_isPolynomialX g hC (fun hb => h ⟨ha, hb⟩)) (hC.at 0 rfl) rfl rfl (Nat.le_of_ble_eq_true rfl) ⟨(Nat.le_of_ble_eq_true rfl), (Nat.le_of_ble_eq_true rfl)⟩ (Nat.le_of_ble_eq_true rfl) (Nat.le_of_ble_eq_true rfl) ?_
      refine bw_if_ne 27 21 dX10_divide_18 rfl rfl (fun c18 => ?_) (fun c18 => ?_)
      · exact absurd rfl c18
      · refine bw_aload_n 22 dX10_divide_21 rfl rfl ?_
        refine bw_iconst (1) 23 dX10_divide_22 (by decide) rfl ?_
        refine bw_eqi (y := nI 1) rfl ?_
        refine bw_cVm 26 dX10_divide_23 rfl vX10_118 (m_fail g hC) (hC.at 0 rfl) rfl rfl (Nat.le_of_ble_eq_true rfl) ⟨(Nat.le_of_ble_eq_true rfl), (Nat.le_of_ble_eq_true rfl)⟩ (Nat.le_of_ble_eq_true rfl) (Nat.le_of_ble_eq_true rfl) (fun x A hP => ?_)
        obtain ⟨h4, h5⟩ := hP
        subst h4
        have hC := hC.upd 0 rfl h5
        have hS := hS.upd h5 (by simp)
        refine bw_iret dX10_divide_26 rfl (Nat.le_of_ble_eq_true rfl) (Nat.le_of_ble_eq_true rfl) ?_
        exact ⟨_, rfl, rfl, hS, hC.at 0 rfl⟩
  · skip
    refine bw_aload_n 1 dX10_divide_0 rfl rfl ?_
    refine bw_iconst (0) 2 dX10_divide_1 (by decide) rfl ?_
    refine bw_eqi (y := nI 0) rfl ?_
    refine bw_putU 5 dX10_divide_2 rfl pX10_1 (hC.at 0 rfl) rfl rfl (Nat.le_of_ble_eq_true rfl) (fun A hU => ?_)
    have hC := hC.upd 0 rfl hU
    have hS := hS.upd hU (by simp)
    clear hU
    refine bw_aload_n 6 dX10_divide_5 rfl rfl ?_
    refine bw_iload_n 7 dX10_divide_6 rfl rfl ?_
    refine bw_cVi 10 dX10_divide_7 rfl vX10_182 (m_isPolynomialX g hC ha) (hC.at 0 rfl) rfl rfl (Nat.le_of_ble_eq_true rfl) ⟨(Nat.le_of_ble_eq_true rfl), (Nat.le_of_ble_eq_true rfl)⟩ (Nat.le_of_ble_eq_true rfl) (Nat.le_of_ble_eq_true rfl) ?_
    refine bw_if_eq 21 13 dX10_divide_10 rfl rfl (fun c10 => ?_) (fun c10 => ?_)
    · skip
      refine bw_aload_n 22 dX10_divide_21 rfl rfl ?_
      refine bw_iconst (1) 23 dX10_divide_22 (by decide) rfl ?_
      refine bw_eqi (y := nI 1) rfl ?_
      refine bw_cVm 26 dX10_divide_23 rfl vX10_118 (m_fail g hC) (hC.at 0 rfl) rfl rfl (Nat.le_of_ble_eq_true rfl) ⟨(Nat.le_of_ble_eq_true rfl), (Nat.le_of_ble_eq_true rfl)⟩ (Nat.le_of_ble_eq_true rfl) (Nat.le_of_ble_eq_true rfl) (fun x A hP => ?_)
      obtain ⟨h4, h5⟩ := hP
      subst h4
      have hC := hC.upd 0 rfl h5
      have hS := hS.upd h5 (by simp)
      refine bw_iret dX10_divide_26 rfl (Nat.le_of_ble_eq_true rfl) (Nat.le_of_ble_eq_true rfl) ?_
      exact ⟨_, rfl, rfl, hS, hC.at 0 rfl⟩
    · exact absurd rfl c10
