/-! the reference: matrix, size, cell, set, powers, sums -/
theorem m_matrix (g : bw_G) {A : bw_H} {M n p gg th rn mn pn rd rs pt sn r c : Nat} {rr cc C : Nat → Nat} (hC : bw_has A ((M, mdo M n p gg th rn mn pn rd rs pt sn) :: mmc g M rr cc C)) (hm : mn < 40) (hr1 : 1 ≤ r) (hr : r ≤ 8) (hc1 : 1 ≤ c) (hc : c ≤ 8) : bw_C g (bw_rm 8 0 0) mX10_matrix [.ref M, .int (nI r), .int (nI c)] A (bw_pm (mdP g M (mdo M n p gg 0 rn (mn + 1) pn rd rs pt sn) (nI mn) (fun i => if i = mn then r else rr i) (fun i => if i = mn then c else cc i) (gzm C mn 64) A)) := by
  have hS : bw_sm (M :: mml M) A A := bw_sm.rf
  refine bw_C.of (by decide) (Nat.le_of_ble_eq_true rfl) rfl ?_
  refine bw_aload_n 1 dX10_matrix_0 rfl rfl ?_
  refine bw_iconst (0) 2 dX10_matrix_1 (by decide) rfl ?_
  refine bw_eqi (y := nI 0) rfl ?_
  refine bw_putU 5 dX10_matrix_2 rfl pX10_1 (hC.at 0 rfl) rfl rfl (Nat.le_of_ble_eq_true rfl) (fun A hU => ?_)
  have hC := hC.upd 0 rfl hU
  have hS := hS.upd hU (by simp)
  clear hU
  refine bw_iload_n 6 dX10_matrix_5 rfl rfl ?_
  refine bw_cSi 9 dX10_matrix_6 rfl sX10_130 (m_isSize g (sI_nI hr1 hr)) rfl rfl (Nat.le_of_ble_eq_true rfl) ⟨(Nat.le_of_ble_eq_true rfl), (Nat.le_of_ble_eq_true rfl)⟩ (Nat.le_of_ble_eq_true rfl) (Nat.le_of_ble_eq_true rfl) ?_
  refine bw_if_eq 19 12 dX10_matrix_9 rfl rfl (fun c9 => ?_) (fun c9 => ?_)
  · exact absurd c9 (by decide)
  · refine bw_iload_n 13 dX10_matrix_12 rfl rfl ?_
    refine bw_cSi 16 dX10_matrix_13 rfl sX10_130 (m_isSize g (sI_nI hc1 hc)) rfl rfl (Nat.le_of_ble_eq_true rfl) ⟨(Nat.le_of_ble_eq_true rfl), (Nat.le_of_ble_eq_true rfl)⟩ (Nat.le_of_ble_eq_true rfl) (Nat.le_of_ble_eq_true rfl) ?_
    refine bw_if_ne 25 19 dX10_matrix_16 rfl rfl (fun c16 => ?_) (fun c16 => ?_)
    · refine bw_aload_n 26 dX10_matrix_25 rfl rfl ?_
      refine bw_get 29 dX10_matrix_26 rfl lX10_127 (hC.at 0 rfl) rfl ?_
      refine bw_bipush (40) 31 dX10_matrix_29 (by decide) rfl ?_
      refine bw_eqi (y := nI 40) rfl ?_
      refine bw_icmp_ne 42 34 dX10_matrix_31 rfl rfl (fun c31 => ?_) (fun c31 => ?_)
      · refine bw_aload_n 43 dX10_matrix_42 rfl rfl ?_
        refine bw_iload_n 44 dX10_matrix_43 rfl rfl ?_
        refine bw_iload_n 45 dX10_matrix_44 rfl rfl ?_
        refine bw_cVm 48 dX10_matrix_45 rfl vX10_133 (m_made g hC hm) (hC.at 0 rfl) rfl rfl (Nat.le_of_ble_eq_true rfl) ⟨(Nat.le_of_ble_eq_true rfl), (Nat.le_of_ble_eq_true rfl)⟩ (Nat.le_of_ble_eq_true rfl) (Nat.le_of_ble_eq_true rfl) (fun x A hP => ?_)
        obtain ⟨⟨h4, h5, h6⟩, h7⟩ := hP
        subst h4
        refine bw_iret dX10_matrix_48 rfl (Nat.le_of_ble_eq_true rfl) (Nat.le_of_ble_eq_true rfl) ?_
        exact ⟨_, rfl, ⟨rfl, hS.trans h5 (fun _ h => h), h6⟩, h7⟩
      · exact absurd ((nI_eq (b := 40) (by omega) (by omega)).mp c31) (by omega)
    · exact absurd c16 (by decide)
theorem m_matrixY (g : bw_G) {A : bw_H} {M n p gg th rn pn rd rs pt sn : Nat} {a b : Int32} (hC : bw_has A [(M, mdo M n p gg th rn 40 pn rd rs pt sn)]) (h1 : sI a) (h2 : sI b) : bw_C g (bw_rm 8 0 0) mX10_matrix [.ref M, .int a, .int b] A (bw_pm (maR M [] (mdo M n p gg 2 rn 40 pn rd rs pt sn) (nI 0) A)) := by
  have hS : bw_sm [M] A A := bw_sm.rf
  refine bw_C.of (by decide) (Nat.le_of_ble_eq_true rfl) rfl ?_
  refine bw_aload_n 1 dX10_matrix_0 rfl rfl ?_
  refine bw_iconst (0) 2 dX10_matrix_1 (by decide) rfl ?_
  refine bw_eqi (y := nI 0) rfl ?_
  refine bw_putU 5 dX10_matrix_2 rfl pX10_1 (hC.at 0 rfl) rfl rfl (Nat.le_of_ble_eq_true rfl) (fun A hU => ?_)
  have hC := hC.upd 0 rfl hU
  have hS := hS.upd hU (by simp)
  clear hU
  refine bw_iload_n 6 dX10_matrix_5 rfl rfl ?_
  refine bw_cSi 9 dX10_matrix_6 rfl sX10_130 (m_isSize g h1) rfl rfl (Nat.le_of_ble_eq_true rfl) ⟨(Nat.le_of_ble_eq_true rfl), (Nat.le_of_ble_eq_true rfl)⟩ (Nat.le_of_ble_eq_true rfl) (Nat.le_of_ble_eq_true rfl) ?_
  refine bw_if_eq 19 12 dX10_matrix_9 rfl rfl (fun c9 => ?_) (fun c9 => ?_)
  · exact absurd c9 (by decide)
  · refine bw_iload_n 13 dX10_matrix_12 rfl rfl ?_
    refine bw_cSi 16 dX10_matrix_13 rfl sX10_130 (m_isSize g h2) rfl rfl (Nat.le_of_ble_eq_true rfl) ⟨(Nat.le_of_ble_eq_true rfl), (Nat.le_of_ble_eq_true rfl)⟩ (Nat.le_of_ble_eq_true rfl) (Nat.le_of_ble_eq_true rfl) ?_
    refine bw_if_ne 25 19 dX10_matrix_16 rfl rfl (fun c16 => ?_) (fun c16 => ?_)
    · refine bw_aload_n 26 dX10_matrix_25 rfl rfl ?_
      refine bw_get 29 dX10_matrix_26 rfl lX10_127 (hC.at 0 rfl) rfl ?_
      refine bw_bipush (40) 31 dX10_matrix_29 (by decide) rfl ?_
      refine bw_eqi (y := nI 40) rfl ?_
      refine bw_icmp_ne 42 34 dX10_matrix_31 rfl rfl (fun c31 => ?_) (fun c31 => ?_)
      · exact absurd rfl c31
      · refine bw_aload_n 35 dX10_matrix_34 rfl rfl ?_
        refine bw_iconst (2) 36 dX10_matrix_35 (by decide) rfl ?_
        refine bw_eqi (y := nI 2) rfl ?_
        refine bw_cVm 39 dX10_matrix_36 rfl vX10_118 (m_fail g hC) (hC.at 0 rfl) rfl rfl (Nat.le_of_ble_eq_true rfl) ⟨(Nat.le_of_ble_eq_true rfl), (Nat.le_of_ble_eq_true rfl)⟩ (Nat.le_of_ble_eq_true rfl) (Nat.le_of_ble_eq_true rfl) (fun x A hP => ?_)
        obtain ⟨h4, h5⟩ := hP
        subst h4
        have hC := hC.upd 0 rfl h5
        have hS := hS.upd h5 (by simp)
        refine bw_goto 48 dX10_matrix_39 rfl ?_
        refine bw_iret dX10_matrix_48 rfl (Nat.le_of_ble_eq_true rfl) (Nat.le_of_ble_eq_true rfl) ?_
        exact ⟨_, rfl, rfl, hS, hC.at 0 rfl⟩
    · exact absurd c16 (by decide)
theorem m_matrixX (g : bw_G) {A : bw_H} {M n p gg th rn mn pn rd rs pt sn : Nat} {a b : Int32} (hC : bw_has A [(M, mdo M n p gg th rn mn pn rd rs pt sn)]) (h : ¬ (sI a ∧ sI b)) : bw_C g (bw_rm 8 0 0) mX10_matrix [.ref M, .int a, .int b] A (bw_pm (maR M [] (mdo M n p gg 1 rn mn pn rd rs pt sn) (nI 0) A)) := by
  have hS : bw_sm [M] A A := bw_sm.rf
  refine bw_C.of (by decide) (Nat.le_of_ble_eq_true rfl) rfl ?_
  by_cases ha : sI a
  · skip
    refine bw_aload_n 1 dX10_matrix_0 rfl rfl ?_
    refine bw_iconst (0) 2 dX10_matrix_1 (by decide) rfl ?_
    refine bw_eqi (y := nI 0) rfl ?_
    refine bw_putU 5 dX10_matrix_2 rfl pX10_1 (hC.at 0 rfl) rfl rfl (Nat.le_of_ble_eq_true rfl) (fun A hU => ?_)
    have hC := hC.upd 0 rfl hU
    have hS := hS.upd hU (by simp)
    clear hU
    refine bw_iload_n 6 dX10_matrix_5 rfl rfl ?_
    refine bw_cSi 9 dX10_matrix_6 rfl sX10_130 (m_isSize g ha) rfl rfl (Nat.le_of_ble_eq_true rfl) ⟨(Nat.le_of_ble_eq_true rfl), (Nat.le_of_ble_eq_true rfl)⟩ (Nat.le_of_ble_eq_true rfl) (Nat.le_of_ble_eq_true rfl) ?_
    refine bw_if_eq 19 12 dX10_matrix_9 rfl rfl (fun c9 => ?_) (fun c9 => ?_)
    · exact absurd c9 (by decide)
    · refine bw_iload_n 13 dX10_matrix_12 rfl rfl ?_
      refine bw_cSi 16 dX10_matrix_13 rfl sX10_130 (m_isSizeX g (fun hb => h ⟨ha, hb⟩)) rfl rfl (Nat.le_of_ble_eq_true rfl) ⟨(Nat.le_of_ble_eq_true rfl), (Nat.le_of_ble_eq_true rfl)⟩ (Nat.le_of_ble_eq_true rfl) (Nat.le_of_ble_eq_true rfl) ?_
      refine bw_if_ne 25 19 dX10_matrix_16 rfl rfl (fun c16 => ?_) (fun c16 => ?_)
      · exact absurd rfl c16
      · refine bw_aload_n 20 dX10_matrix_19 rfl rfl ?_
        refine bw_iconst (1) 21 dX10_matrix_20 (by decide) rfl ?_
        refine bw_eqi (y := nI 1) rfl ?_
        refine bw_cVm 24 dX10_matrix_21 rfl vX10_118 (m_fail g hC) (hC.at 0 rfl) rfl rfl (Nat.le_of_ble_eq_true rfl) ⟨(Nat.le_of_ble_eq_true rfl), (Nat.le_of_ble_eq_true rfl)⟩ (Nat.le_of_ble_eq_true rfl) (Nat.le_of_ble_eq_true rfl) (fun x A hP => ?_)
        obtain ⟨h4, h5⟩ := hP
        subst h4
        have hC := hC.upd 0 rfl h5
        have hS := hS.upd h5 (by simp)
        refine bw_iret dX10_matrix_24 rfl (Nat.le_of_ble_eq_true rfl) (Nat.le_of_ble_eq_true rfl) ?_
        exact ⟨_, rfl, rfl, hS, hC.at 0 rfl⟩
  · skip
    refine bw_aload_n 1 dX10_matrix_0 rfl rfl ?_
    refine bw_iconst (0) 2 dX10_matrix_1 (by decide) rfl ?_
    refine bw_eqi (y := nI 0) rfl ?_
    refine bw_putU 5 dX10_matrix_2 rfl pX10_1 (hC.at 0 rfl) rfl rfl (Nat.le_of_ble_eq_true rfl) (fun A hU => ?_)
    have hC := hC.upd 0 rfl hU
    have hS := hS.upd hU (by simp)
    clear hU
    refine bw_iload_n 6 dX10_matrix_5 rfl rfl ?_
    refine bw_cSi 9 dX10_matrix_6 rfl sX10_130 (m_isSizeX g ha) rfl rfl (Nat.le_of_ble_eq_true rfl) ⟨(Nat.le_of_ble_eq_true rfl), (Nat.le_of_ble_eq_true rfl)⟩ (Nat.le_of_ble_eq_true rfl) (Nat.le_of_ble_eq_true rfl) ?_
    refine bw_if_eq 19 12 dX10_matrix_9 rfl rfl (fun c9 => ?_) (fun c9 => ?_)
    · skip
      refine bw_aload_n 20 dX10_matrix_19 rfl rfl ?_
      refine bw_iconst (1) 21 dX10_matrix_20 (by decide) rfl ?_
      refine bw_eqi (y := nI 1) rfl ?_
      refine bw_cVm 24 dX10_matrix_21 rfl vX10_118 (m_fail g hC) (hC.at 0 rfl) rfl rfl (Nat.le_of_ble_eq_true rfl) ⟨(Nat.le_of_ble_eq_true rfl), (Nat.le_of_ble_eq_true rfl)⟩ (Nat.le_of_ble_eq_true rfl) (Nat.le_of_ble_eq_true rfl) (fun x A hP => ?_)
      obtain ⟨h4, h5⟩ := hP
      subst h4
      have hC := hC.upd 0 rfl h5
      have hS := hS.upd h5 (by simp)
      refine bw_iret dX10_matrix_24 rfl (Nat.le_of_ble_eq_true rfl) (Nat.le_of_ble_eq_true rfl) ?_
      exact ⟨_, rfl, rfl, hS, hC.at 0 rfl⟩
    · exact absurd rfl c9
theorem m_size0 (g : bw_G) {A : bw_H} {M n p gg th rn mn pn rd rs pt sn k : Nat} {rr cc : Nat → Nat} (hC : bw_has A [(M, mdo M n p gg th rn mn pn rd rs pt sn), (M + 2, bw_an g 40 rr), (M + 3, bw_an g 40 cc)]) (hm : mn ≤ 40) (hk : k < mn) : bw_C g (bw_rm 8 0 0) mX10_size [.ref M, .int (nI k), .int (nI 0)] A (bw_pm (maR M [] (mdo M n p gg 0 rn mn pn rd rs pt sn) (nI (rr k)) A)) := by
  have hS : bw_sm [M] A A := bw_sm.rf
  refine bw_C.of (by decide) (Nat.le_of_ble_eq_true rfl) rfl ?_
  refine bw_aload_n 1 dX10_size_0 rfl rfl ?_
  refine bw_iconst (0) 2 dX10_size_1 (by decide) rfl ?_
  refine bw_eqi (y := nI 0) rfl ?_
  refine bw_putU 5 dX10_size_2 rfl pX10_1 (hC.at 0 rfl) rfl rfl (Nat.le_of_ble_eq_true rfl) (fun A hU => ?_)
  have hC := hC.upd 0 rfl hU
  have hS := hS.upd hU (by simp)
  clear hU
  refine bw_aload_n 6 dX10_size_5 rfl rfl ?_
  refine bw_iload_n 7 dX10_size_6 rfl rfl ?_
  refine bw_cVi 10 dX10_size_7 rfl vX10_144 (m_isMatrix g (hC.sub [0] (by decide) rfl) (kI_nI (by omega) hk)) (hC.at 0 rfl) rfl rfl (Nat.le_of_ble_eq_true rfl) ⟨(Nat.le_of_ble_eq_true rfl), (Nat.le_of_ble_eq_true rfl)⟩ (Nat.le_of_ble_eq_true rfl) (Nat.le_of_ble_eq_true rfl) ?_
  refine bw_if_ne 19 13 dX10_size_10 rfl rfl (fun c10 => ?_) (fun c10 => ?_)
  · refine bw_iload_n 20 dX10_size_19 rfl rfl ?_
    refine bw_if_ne 32 23 dX10_size_20 rfl rfl (fun c20 => ?_) (fun c20 => ?_)
    · exact absurd rfl c20
    · refine bw_aload_n 24 dX10_size_23 rfl rfl ?_
      refine bw_get 27 dX10_size_24 rfl lX10_17 (hC.at 0 rfl) rfl ?_
      refine bw_iload_n 28 dX10_size_27 rfl rfl ?_
      refine bw_ialdN 29 dX10_size_28 rfl (hC.at 1 rfl) (by omega) (by omega) ?_
      refine bw_goto 51 dX10_size_29 rfl ?_
      refine bw_iret dX10_size_51 rfl (Nat.le_of_ble_eq_true rfl) (Nat.le_of_ble_eq_true rfl) ?_
      exact ⟨_, rfl, rfl, hS, hC.at 0 rfl⟩
  · exact absurd c10 (by decide)
theorem m_size1 (g : bw_G) {A : bw_H} {M n p gg th rn mn pn rd rs pt sn k : Nat} {rr cc : Nat → Nat} (hC : bw_has A [(M, mdo M n p gg th rn mn pn rd rs pt sn), (M + 2, bw_an g 40 rr), (M + 3, bw_an g 40 cc)]) (hm : mn ≤ 40) (hk : k < mn) : bw_C g (bw_rm 8 0 0) mX10_size [.ref M, .int (nI k), .int (nI 1)] A (bw_pm (maR M [] (mdo M n p gg 0 rn mn pn rd rs pt sn) (nI (cc k)) A)) := by
  have hS : bw_sm [M] A A := bw_sm.rf
  refine bw_C.of (by decide) (Nat.le_of_ble_eq_true rfl) rfl ?_
  refine bw_aload_n 1 dX10_size_0 rfl rfl ?_
  refine bw_iconst (0) 2 dX10_size_1 (by decide) rfl ?_
  refine bw_eqi (y := nI 0) rfl ?_
  refine bw_putU 5 dX10_size_2 rfl pX10_1 (hC.at 0 rfl) rfl rfl (Nat.le_of_ble_eq_true rfl) (fun A hU => ?_)
  have hC := hC.upd 0 rfl hU
  have hS := hS.upd hU (by simp)
  clear hU
  refine bw_aload_n 6 dX10_size_5 rfl rfl ?_
  refine bw_iload_n 7 dX10_size_6 rfl rfl ?_
  refine bw_cVi 10 dX10_size_7 rfl vX10_144 (m_isMatrix g (hC.sub [0] (by decide) rfl) (kI_nI (by omega) hk)) (hC.at 0 rfl) rfl rfl (Nat.le_of_ble_eq_true rfl) ⟨(Nat.le_of_ble_eq_true rfl), (Nat.le_of_ble_eq_true rfl)⟩ (Nat.le_of_ble_eq_true rfl) (Nat.le_of_ble_eq_true rfl) ?_
  refine bw_if_ne 19 13 dX10_size_10 rfl rfl (fun c10 => ?_) (fun c10 => ?_)
  · refine bw_iload_n 20 dX10_size_19 rfl rfl ?_
    refine bw_if_ne 32 23 dX10_size_20 rfl rfl (fun c20 => ?_) (fun c20 => ?_)
    · skip
      refine bw_iload_n 33 dX10_size_32 rfl rfl ?_
      refine bw_iconst (1) 34 dX10_size_33 (by decide) rfl ?_
      refine bw_eqi (y := nI 1) rfl ?_
      refine bw_icmp_ne 46 37 dX10_size_34 rfl rfl (fun c34 => ?_) (fun c34 => ?_)
      · exact absurd rfl c34
      · refine bw_aload_n 38 dX10_size_37 rfl rfl ?_
        refine bw_get 41 dX10_size_38 rfl lX10_20 (hC.at 0 rfl) rfl ?_
        refine bw_iload_n 42 dX10_size_41 rfl rfl ?_
        refine bw_ialdN 43 dX10_size_42 rfl (hC.at 2 rfl) (by omega) (by omega) ?_
        refine bw_goto 51 dX10_size_43 rfl ?_
        refine bw_iret dX10_size_51 rfl (Nat.le_of_ble_eq_true rfl) (Nat.le_of_ble_eq_true rfl) ?_
        exact ⟨_, rfl, rfl, hS, hC.at 0 rfl⟩
    · exact absurd c20 (by decide)
  · exact absurd c10 (by decide)
theorem m_sizeY (g : bw_G) {A : bw_H} {M n p gg th rn mn pn rd rs pt sn k : Nat} {w : Int32} (hC : bw_has A [(M, mdo M n p gg th rn mn pn rd rs pt sn)]) (hm : mn ≤ 40) (hk : k < mn) (h0 : ¬ w = 0) (h1 : ¬ w = nI 1) : bw_C g (bw_rm 8 0 0) mX10_size [.ref M, .int (nI k), .int w] A (bw_pm (maR M [] (mdo M n p gg 2 rn mn pn rd rs pt sn) (nI 0) A)) := by
  have hS : bw_sm [M] A A := bw_sm.rf
  refine bw_C.of (by decide) (Nat.le_of_ble_eq_true rfl) rfl ?_
  refine bw_aload_n 1 dX10_size_0 rfl rfl ?_
  refine bw_iconst (0) 2 dX10_size_1 (by decide) rfl ?_
  refine bw_eqi (y := nI 0) rfl ?_
  refine bw_putU 5 dX10_size_2 rfl pX10_1 (hC.at 0 rfl) rfl rfl (Nat.le_of_ble_eq_true rfl) (fun A hU => ?_)
  have hC := hC.upd 0 rfl hU
  have hS := hS.upd hU (by simp)
  clear hU
  refine bw_aload_n 6 dX10_size_5 rfl rfl ?_
  refine bw_iload_n 7 dX10_size_6 rfl rfl ?_
  refine bw_cVi 10 dX10_size_7 rfl vX10_144 (m_isMatrix g hC (kI_nI (by omega) hk)) (hC.at 0 rfl) rfl rfl (Nat.le_of_ble_eq_true rfl) ⟨(Nat.le_of_ble_eq_true rfl), (Nat.le_of_ble_eq_true rfl)⟩ (Nat.le_of_ble_eq_true rfl) (Nat.le_of_ble_eq_true rfl) ?_
  refine bw_if_ne 19 13 dX10_size_10 rfl rfl (fun c10 => ?_) (fun c10 => ?_)
  · refine bw_iload_n 20 dX10_size_19 rfl rfl ?_
    refine bw_if_ne 32 23 dX10_size_20 rfl rfl (fun c20 => ?_) (fun c20 => ?_)
    · refine bw_iload_n 33 dX10_size_32 rfl rfl ?_
      refine bw_iconst (1) 34 dX10_size_33 (by decide) rfl ?_
      refine bw_eqi (y := nI 1) rfl ?_
      refine bw_icmp_ne 46 37 dX10_size_34 rfl rfl (fun c34 => ?_) (fun c34 => ?_)
      · refine bw_aload_n 47 dX10_size_46 rfl rfl ?_
        refine bw_iconst (2) 48 dX10_size_47 (by decide) rfl ?_
        refine bw_eqi (y := nI 2) rfl ?_
        refine bw_cVm 51 dX10_size_48 rfl vX10_118 (m_fail g hC) (hC.at 0 rfl) rfl rfl (Nat.le_of_ble_eq_true rfl) ⟨(Nat.le_of_ble_eq_true rfl), (Nat.le_of_ble_eq_true rfl)⟩ (Nat.le_of_ble_eq_true rfl) (Nat.le_of_ble_eq_true rfl) (fun x A hP => ?_)
        obtain ⟨h4, h5⟩ := hP
        subst h4
        have hC := hC.upd 0 rfl h5
        have hS := hS.upd h5 (by simp)
        refine bw_iret dX10_size_51 rfl (Nat.le_of_ble_eq_true rfl) (Nat.le_of_ble_eq_true rfl) ?_
        exact ⟨_, rfl, rfl, hS, hC.at 0 rfl⟩
      · exact absurd c34 h1
    · exact absurd c20 h0
  · exact absurd c10 (by decide)
theorem m_sizeX (g : bw_G) {A : bw_H} {M n p gg th rn mn pn rd rs pt sn : Nat} {a w : Int32} (hC : bw_has A [(M, mdo M n p gg th rn mn pn rd rs pt sn)]) (h : ¬ kI mn a) : bw_C g (bw_rm 8 0 0) mX10_size [.ref M, .int a, .int w] A (bw_pm (maR M [] (mdo M n p gg 1 rn mn pn rd rs pt sn) (nI 0) A)) := by
  have hS : bw_sm [M] A A := bw_sm.rf
  refine bw_C.of (by decide) (Nat.le_of_ble_eq_true rfl) rfl ?_
  refine bw_aload_n 1 dX10_size_0 rfl rfl ?_
  refine bw_iconst (0) 2 dX10_size_1 (by decide) rfl ?_
  refine bw_eqi (y := nI 0) rfl ?_
  refine bw_putU 5 dX10_size_2 rfl pX10_1 (hC.at 0 rfl) rfl rfl (Nat.le_of_ble_eq_true rfl) (fun A hU => ?_)
  have hC := hC.upd 0 rfl hU
  have hS := hS.upd hU (by simp)
  clear hU
  refine bw_aload_n 6 dX10_size_5 rfl rfl ?_
  refine bw_iload_n 7 dX10_size_6 rfl rfl ?_
  refine bw_cVi 10 dX10_size_7 rfl vX10_144 (m_isMatrixX g hC h) (hC.at 0 rfl) rfl rfl (Nat.le_of_ble_eq_true rfl) ⟨(Nat.le_of_ble_eq_true rfl), (Nat.le_of_ble_eq_true rfl)⟩ (Nat.le_of_ble_eq_true rfl) (Nat.le_of_ble_eq_true rfl) ?_
  refine bw_if_ne 19 13 dX10_size_10 rfl rfl (fun c10 => ?_) (fun c10 => ?_)
  · exact absurd rfl c10
  · refine bw_aload_n 14 dX10_size_13 rfl rfl ?_
    refine bw_iconst (1) 15 dX10_size_14 (by decide) rfl ?_
    refine bw_eqi (y := nI 1) rfl ?_
    refine bw_cVm 18 dX10_size_15 rfl vX10_118 (m_fail g hC) (hC.at 0 rfl) rfl rfl (Nat.le_of_ble_eq_true rfl) ⟨(Nat.le_of_ble_eq_true rfl), (Nat.le_of_ble_eq_true rfl)⟩ (Nat.le_of_ble_eq_true rfl) (Nat.le_of_ble_eq_true rfl) (fun x A hP => ?_)
    obtain ⟨h4, h5⟩ := hP
    subst h4
    have hC := hC.upd 0 rfl h5
    have hS := hS.upd h5 (by simp)
    refine bw_iret dX10_size_18 rfl (Nat.le_of_ble_eq_true rfl) (Nat.le_of_ble_eq_true rfl) ?_
    exact ⟨_, rfl, rfl, hS, hC.at 0 rfl⟩
theorem m_isCell (g : bw_G) {A : bw_H} {M n p gg th rn mn pn rd rs pt sn k : Nat} {a b : Int32} {rr cc : Nat → Nat} (hC : bw_has A [(M, mdo M n p gg th rn mn pn rd rs pt sn), (M + 2, bw_an g 40 rr), (M + 3, bw_an g 40 cc)]) (hm : mn ≤ 40) (hk : k < mn) (ha : kI (rr k) a) (hb : kI (cc k) b) : bw_C g (bw_rm 1 0 0) mX10_isCell [.ref M, .int (nI k), .int a, .int b] A (bw_pi (nI 1) A) := by
  refine bw_C.of (by decide) (Nat.le_of_ble_eq_true rfl) rfl ?_
  refine bw_aload_n 1 dX10_isCell_0 rfl rfl ?_
  refine bw_iload_n 2 dX10_isCell_1 rfl rfl ?_
  refine bw_cVi 5 dX10_isCell_2 rfl vX10_144 (m_isMatrix g (hC.sub [0] (by decide) rfl) (kI_nI (by omega) hk)) (hC.at 0 rfl) rfl rfl (Nat.le_of_ble_eq_true rfl) ⟨(Nat.le_of_ble_eq_true rfl), (Nat.le_of_ble_eq_true rfl)⟩ (Nat.le_of_ble_eq_true rfl) (Nat.le_of_ble_eq_true rfl) ?_
  refine bw_if_eq 40 8 dX10_isCell_5 rfl rfl (fun c5 => ?_) (fun c5 => ?_)
  · exact absurd c5 (by decide)
  · refine bw_iload_n 9 dX10_isCell_8 rfl rfl ?_
    refine bw_if_lt 40 12 dX10_isCell_9 rfl rfl (fun c9 => ?_) (fun c9 => ?_)
    · exact absurd c9 ha.1
    · refine bw_iload_n 13 dX10_isCell_12 rfl rfl ?_
      refine bw_if_lt 40 16 dX10_isCell_13 rfl rfl (fun c13 => ?_) (fun c13 => ?_)
      · exact absurd c13 hb.1
      · refine bw_iload_n 17 dX10_isCell_16 rfl rfl ?_
        refine bw_aload_n 18 dX10_isCell_17 rfl rfl ?_
        refine bw_get 21 dX10_isCell_18 rfl lX10_17 (hC.at 0 rfl) rfl ?_
        refine bw_iload_n 22 dX10_isCell_21 rfl rfl ?_
        refine bw_ialdN 23 dX10_isCell_22 rfl (hC.at 1 rfl) (by omega) (by omega) ?_
        refine bw_icmp_ge 40 26 dX10_isCell_23 rfl rfl (fun c23 => ?_) (fun c23 => ?_)
        · exact absurd ha.2 (Int32.not_lt.mpr c23)
        · refine bw_iload_n 27 dX10_isCell_26 rfl rfl ?_
          refine bw_aload_n 28 dX10_isCell_27 rfl rfl ?_
          refine bw_get 31 dX10_isCell_28 rfl lX10_20 (hC.at 0 rfl) rfl ?_
          refine bw_iload_n 32 dX10_isCell_31 rfl rfl ?_
          refine bw_ialdN 33 dX10_isCell_32 rfl (hC.at 2 rfl) (by omega) (by omega) ?_
          refine bw_icmp_ge 40 36 dX10_isCell_33 rfl rfl (fun c33 => ?_) (fun c33 => ?_)
          · exact absurd hb.2 (Int32.not_lt.mpr c33)
          · refine bw_iconst (1) 37 dX10_isCell_36 (by decide) rfl ?_
            refine bw_eqi (y := nI 1) rfl ?_
            refine bw_goto 41 dX10_isCell_37 rfl ?_
            refine bw_zret dX10_isCell_41 rfl (by first | decide | assumption) (Nat.le_of_ble_eq_true rfl) (Nat.le_of_ble_eq_true rfl) ?_
            exact ⟨rfl, rfl⟩
theorem m_isCellY (g : bw_G) {A : bw_H} {M n p gg th rn mn pn rd rs pt sn k : Nat} {a b : Int32} {rr cc : Nat → Nat} (hC : bw_has A [(M, mdo M n p gg th rn mn pn rd rs pt sn), (M + 2, bw_an g 40 rr), (M + 3, bw_an g 40 cc)]) (hm : mn ≤ 40) (hk : k < mn) (h : ¬ (kI (rr k) a ∧ kI (cc k) b)) : bw_C g (bw_rm 1 0 0) mX10_isCell [.ref M, .int (nI k), .int a, .int b] A (bw_pi (nI 0) A) := by
  refine bw_C.of (by decide) (Nat.le_of_ble_eq_true rfl) rfl ?_
  refine bw_aload_n 1 dX10_isCell_0 rfl rfl ?_
  refine bw_iload_n 2 dX10_isCell_1 rfl rfl ?_
  refine bw_cVi 5 dX10_isCell_2 rfl vX10_144 (m_isMatrix g (hC.sub [0] (by decide) rfl) (kI_nI (by omega) hk)) (hC.at 0 rfl) rfl rfl (Nat.le_of_ble_eq_true rfl) ⟨(Nat.le_of_ble_eq_true rfl), (Nat.le_of_ble_eq_true rfl)⟩ (Nat.le_of_ble_eq_true rfl) (Nat.le_of_ble_eq_true rfl) ?_
  refine bw_if_eq 40 8 dX10_isCell_5 rfl rfl (fun c5 => ?_) (fun c5 => ?_)
  · exact absurd c5 (by decide)
  · refine bw_iload_n 9 dX10_isCell_8 rfl rfl ?_
    refine bw_if_lt 40 12 dX10_isCell_9 rfl rfl (fun c9 => ?_) (fun c9 => ?_)
    · refine bw_iconst (0) 41 dX10_isCell_40 (by decide) rfl ?_
      refine bw_eqi (y := nI 0) rfl ?_
      refine bw_zret dX10_isCell_41 rfl (by first | decide | assumption) (Nat.le_of_ble_eq_true rfl) (Nat.le_of_ble_eq_true rfl) ?_
      exact ⟨rfl, rfl⟩
    · refine bw_iload_n 13 dX10_isCell_12 rfl rfl ?_
      refine bw_if_lt 40 16 dX10_isCell_13 rfl rfl (fun c13 => ?_) (fun c13 => ?_)
      · refine bw_iconst (0) 41 dX10_isCell_40 (by decide) rfl ?_
        refine bw_eqi (y := nI 0) rfl ?_
        refine bw_zret dX10_isCell_41 rfl (by first | decide | assumption) (Nat.le_of_ble_eq_true rfl) (Nat.le_of_ble_eq_true rfl) ?_
        exact ⟨rfl, rfl⟩
      · refine bw_iload_n 17 dX10_isCell_16 rfl rfl ?_
        refine bw_aload_n 18 dX10_isCell_17 rfl rfl ?_
        refine bw_get 21 dX10_isCell_18 rfl lX10_17 (hC.at 0 rfl) rfl ?_
        refine bw_iload_n 22 dX10_isCell_21 rfl rfl ?_
        refine bw_ialdN 23 dX10_isCell_22 rfl (hC.at 1 rfl) (by omega) (by omega) ?_
        refine bw_icmp_ge 40 26 dX10_isCell_23 rfl rfl (fun c23 => ?_) (fun c23 => ?_)
        · refine bw_iconst (0) 41 dX10_isCell_40 (by decide) rfl ?_
          refine bw_eqi (y := nI 0) rfl ?_
          refine bw_zret dX10_isCell_41 rfl (by first | decide | assumption) (Nat.le_of_ble_eq_true rfl) (Nat.le_of_ble_eq_true rfl) ?_
          exact ⟨rfl, rfl⟩
        · refine bw_iload_n 27 dX10_isCell_26 rfl rfl ?_
          refine bw_aload_n 28 dX10_isCell_27 rfl rfl ?_
          refine bw_get 31 dX10_isCell_28 rfl lX10_20 (hC.at 0 rfl) rfl ?_
          refine bw_iload_n 32 dX10_isCell_31 rfl rfl ?_
          refine bw_ialdN 33 dX10_isCell_32 rfl (hC.at 2 rfl) (by omega) (by omega) ?_
          refine bw_icmp_ge 40 36 dX10_isCell_33 rfl rfl (fun c33 => ?_) (fun c33 => ?_)
          · refine bw_iconst (0) 41 dX10_isCell_40 (by decide) rfl ?_
            refine bw_eqi (y := nI 0) rfl ?_
            refine bw_zret dX10_isCell_41 rfl (by first | decide | assumption) (Nat.le_of_ble_eq_true rfl) (Nat.le_of_ble_eq_true rfl) ?_
            exact ⟨rfl, rfl⟩
          · exact absurd ⟨⟨c9, Int32.not_le.mp c23⟩, ⟨c13, Int32.not_le.mp c33⟩⟩ h
theorem m_isCellX (g : bw_G) {A : bw_H} {M n p gg th rn mn pn rd rs pt sn : Nat} {k a b : Int32} (hC : bw_has A [(M, mdo M n p gg th rn mn pn rd rs pt sn)]) (h : ¬ kI mn k) : bw_C g (bw_rm 1 0 0) mX10_isCell [.ref M, .int k, .int a, .int b] A (bw_pi (nI 0) A) := by
  refine bw_C.of (by decide) (Nat.le_of_ble_eq_true rfl) rfl ?_
  refine bw_aload_n 1 dX10_isCell_0 rfl rfl ?_
  refine bw_iload_n 2 dX10_isCell_1 rfl rfl ?_
  refine bw_cVi 5 dX10_isCell_2 rfl vX10_144 (m_isMatrixX g hC h) (hC.at 0 rfl) rfl rfl (Nat.le_of_ble_eq_true rfl) ⟨(Nat.le_of_ble_eq_true rfl), (Nat.le_of_ble_eq_true rfl)⟩ (Nat.le_of_ble_eq_true rfl) (Nat.le_of_ble_eq_true rfl) ?_
  refine bw_if_eq 40 8 dX10_isCell_5 rfl rfl (fun c5 => ?_) (fun c5 => ?_)
  · refine bw_iconst (0) 41 dX10_isCell_40 (by decide) rfl ?_
    refine bw_eqi (y := nI 0) rfl ?_
    refine bw_zret dX10_isCell_41 rfl (by first | decide | assumption) (Nat.le_of_ble_eq_true rfl) (Nat.le_of_ble_eq_true rfl) ?_
    exact ⟨rfl, rfl⟩
  · exact absurd rfl c5
theorem m_cell (g : bw_G) {A : bw_H} {M n p gg th rn mn pn rd rs pt sn k i j : Nat} {rr cc C : Nat → Nat} (hC : bw_has A ((M, mdo M n p gg th rn mn pn rd rs pt sn) :: mmc g M rr cc C)) (hm : mn ≤ 40) (hk : k < mn) (hr : rr k ≤ 8) (hc : cc k ≤ 8) (hi : i < rr k) (hj : j < cc k) : bw_C g (bw_rm 8 0 0) mX10_cell [.ref M, .int (nI k), .int (nI i), .int (nI j)] A (bw_pm (maR M [] (mdo M n p gg 0 rn mn pn rd rs pt sn) (nI (C (64 * k + 8 * i + j))) A)) := by
  have hS : bw_sm [M] A A := bw_sm.rf
  refine bw_C.of (by decide) (Nat.le_of_ble_eq_true rfl) rfl ?_
  refine bw_aload_n 1 dX10_cell_0 rfl rfl ?_
  refine bw_iconst (0) 2 dX10_cell_1 (by decide) rfl ?_
  refine bw_eqi (y := nI 0) rfl ?_
  refine bw_putU 5 dX10_cell_2 rfl pX10_1 (hC.at 0 rfl) rfl rfl (Nat.le_of_ble_eq_true rfl) (fun A hU => ?_)
  have hC := hC.upd 0 rfl hU
  have hS := hS.upd hU (by simp)
  clear hU
  refine bw_aload_n 6 dX10_cell_5 rfl rfl ?_
  refine bw_iload_n 7 dX10_cell_6 rfl rfl ?_
  refine bw_iload_n 8 dX10_cell_7 rfl rfl ?_
  refine bw_iload_n 9 dX10_cell_8 rfl rfl ?_
  refine bw_cVi 12 dX10_cell_9 rfl vX10_147 (m_isCell g (hC.sub [0, 1, 2] (by decide) rfl) hm hk (kI_nI (by omega) hi) (kI_nI (by omega) hj)) (hC.at 0 rfl) rfl rfl (Nat.le_of_ble_eq_true rfl) ⟨(Nat.le_of_ble_eq_true rfl), (Nat.le_of_ble_eq_true rfl)⟩ (Nat.le_of_ble_eq_true rfl) (Nat.le_of_ble_eq_true rfl) ?_
  refine bw_if_eq 30 15 dX10_cell_12 rfl rfl (fun c12 => ?_) (fun c12 => ?_)
  · exact absurd c12 (by decide)
  · refine bw_aload_n 16 dX10_cell_15 rfl rfl ?_
    refine bw_get 19 dX10_cell_16 rfl lX10_23 (hC.at 0 rfl) rfl ?_
    refine bw_aload_n 20 dX10_cell_19 rfl rfl ?_
    refine bw_iload_n 21 dX10_cell_20 rfl rfl ?_
    refine bw_iload_n 22 dX10_cell_21 rfl rfl ?_
    refine bw_iload_n 23 dX10_cell_22 rfl rfl ?_
    refine bw_cVi 26 dX10_cell_23 rfl vX10_140 (m_at g) (hC.at 0 rfl) rfl rfl (Nat.le_of_ble_eq_true rfl) ⟨(Nat.le_of_ble_eq_true rfl), (Nat.le_of_ble_eq_true rfl)⟩ (Nat.le_of_ble_eq_true rfl) (Nat.le_of_ble_eq_true rfl) ?_
    refine bw_ialdN 27 dX10_cell_26 rfl (hC.at 3 rfl) (by omega) (by omega) ?_
    refine bw_goto 35 dX10_cell_27 rfl ?_
    refine bw_iret dX10_cell_35 rfl (Nat.le_of_ble_eq_true rfl) (Nat.le_of_ble_eq_true rfl) ?_
    exact ⟨_, rfl, rfl, hS, hC.at 0 rfl⟩
theorem m_cellX (g : bw_G) {A : bw_H} {M n p gg th rn mn pn rd rs pt sn : Nat} {k a b : Int32} {rr cc C : Nat → Nat} (hC : bw_has A ((M, mdo M n p gg th rn mn pn rd rs pt sn) :: mmc g M rr cc C)) (hF : ∀ A : bw_H, bw_has A ((M, mdo M n p gg 0 rn mn pn rd rs pt sn) :: mmc g M rr cc C) → bw_C g (bw_rm 1 0 0) mX10_isCell [.ref M, .int k, .int a, .int b] A (bw_pi (nI 0) A)) : bw_C g (bw_rm 8 0 0) mX10_cell [.ref M, .int k, .int a, .int b] A (bw_pm (maR M [] (mdo M n p gg 1 rn mn pn rd rs pt sn) (nI 0) A)) := by
  have hS : bw_sm [M] A A := bw_sm.rf
  refine bw_C.of (by decide) (Nat.le_of_ble_eq_true rfl) rfl ?_
  refine bw_aload_n 1 dX10_cell_0 rfl rfl ?_
  refine bw_iconst (0) 2 dX10_cell_1 (by decide) rfl ?_
  refine bw_eqi (y := nI 0) rfl ?_
  refine bw_putU 5 dX10_cell_2 rfl pX10_1 (hC.at 0 rfl) rfl rfl (Nat.le_of_ble_eq_true rfl) (fun A hU => ?_)
  have hC := hC.upd 0 rfl hU
  have hS := hS.upd hU (by simp)
  clear hU
  refine bw_aload_n 6 dX10_cell_5 rfl rfl ?_
  refine bw_iload_n 7 dX10_cell_6 rfl rfl ?_
  refine bw_iload_n 8 dX10_cell_7 rfl rfl ?_
  refine bw_iload_n 9 dX10_cell_8 rfl rfl ?_
  refine bw_cVi 12 dX10_cell_9 rfl vX10_147 (hF _ hC) (hC.at 0 rfl) rfl rfl (Nat.le_of_ble_eq_true rfl) ⟨(Nat.le_of_ble_eq_true rfl), (Nat.le_of_ble_eq_true rfl)⟩ (Nat.le_of_ble_eq_true rfl) (Nat.le_of_ble_eq_true rfl) ?_
  refine bw_if_eq 30 15 dX10_cell_12 rfl rfl (fun c12 => ?_) (fun c12 => ?_)
  · refine bw_aload_n 31 dX10_cell_30 rfl rfl ?_
    refine bw_iconst (1) 32 dX10_cell_31 (by decide) rfl ?_
    refine bw_eqi (y := nI 1) rfl ?_
    refine bw_cVm 35 dX10_cell_32 rfl vX10_118 (m_fail g (hC.sub [0] (by decide) rfl)) (hC.at 0 rfl) rfl rfl (Nat.le_of_ble_eq_true rfl) ⟨(Nat.le_of_ble_eq_true rfl), (Nat.le_of_ble_eq_true rfl)⟩ (Nat.le_of_ble_eq_true rfl) (Nat.le_of_ble_eq_true rfl) (fun x A hP => ?_)
    obtain ⟨h4, h5⟩ := hP
    subst h4
    have hC := hC.upd 0 rfl h5
    have hS := hS.upd h5 (by simp)
    refine bw_iret dX10_cell_35 rfl (Nat.le_of_ble_eq_true rfl) (Nat.le_of_ble_eq_true rfl) ?_
    exact ⟨_, rfl, rfl, hS, hC.at 0 rfl⟩
  · exact absurd rfl c12
theorem m_isCellN (g : bw_G) {A : bw_H} {M n p gg th rn mn pn rd rs pt sn : Nat} {k a b : Int32} {rr cc C : Nat → Nat} (hC : bw_has A ((M, mdo M n p gg th rn mn pn rd rs pt sn) :: mmc g M rr cc C)) (hm : mn ≤ 40) (h : ¬ (kI mn k ∧ ∀ j, k = nI j → j < 40 → kI (rr j) a ∧ kI (cc j) b)) : bw_C g (bw_rm 1 0 0) mX10_isCell [.ref M, .int k, .int a, .int b] A (bw_pi (nI 0) A) := by
  by_cases hk : kI mn k
  · obtain ⟨j, hj, rfl⟩ := kI_of (by omega) hk
    refine m_isCellY g (hC.sub [0, 1, 2] (by decide) rfl) hm hj (fun hx => h ⟨hk, fun j' e h40 => ?_⟩)
    have := (nI_eq (by omega) (by omega)).mp e
    rw [← this]
    exact hx
  · exact m_isCellX g (hC.sub [0] (by decide) rfl) hk
theorem m_set (g : bw_G) {A : bw_H} {M n p gg th rn mn pn rd rs pt sn k i j v : Nat} {rr cc C : Nat → Nat} (hn : 2 ^ n ≤ 65536) (hC : bw_has A ((M, mdo M n p gg th rn mn pn rd rs pt sn) :: mmc g M rr cc C)) (hm : mn ≤ 40) (hk : k < mn) (hr : rr k ≤ 8) (hc : cc k ≤ 8) (hi : i < rr k) (hj : j < cc k) (hv : v < 2 ^ n) : bw_C g (bw_rm 8 0 0) mX10_set [.ref M, .int (nI k), .int (nI i), .int (nI j), .int (nI v)] A (bw_pm (fun y A' => maR M [M + 4] (mdo M n p gg 0 rn mn pn rd rs pt sn) (nI (C (64 * k + 8 * i + j))) A y A' ∧ A'.2 (M + 4) = some (bw_an g 2560 (fun t => if t = 64 * k + 8 * i + j then v else C t)))) := by
  have hS : bw_sm [M, M + 4] A A := bw_sm.rf
  refine bw_C.of (by decide) (Nat.le_of_ble_eq_true rfl) rfl ?_
  refine bw_aload_n 1 dX10_set_0 rfl rfl ?_
  refine bw_iconst (0) 2 dX10_set_1 (by decide) rfl ?_
  refine bw_eqi (y := nI 0) rfl ?_
  refine bw_putU 5 dX10_set_2 rfl pX10_1 (hC.at 0 rfl) rfl rfl (Nat.le_of_ble_eq_true rfl) (fun A hU => ?_)
  have hC := hC.upd 0 rfl hU
  have hS := hS.upd hU (by simp)
  clear hU
  refine bw_aload_n 6 dX10_set_5 rfl rfl ?_
  refine bw_iload_n 7 dX10_set_6 rfl rfl ?_
  refine bw_iload_n 8 dX10_set_7 rfl rfl ?_
  refine bw_iload_n 9 dX10_set_8 rfl rfl ?_
  refine bw_cVi 12 dX10_set_9 rfl vX10_147 (m_isCell g (hC.sub [0, 1, 2] (by decide) rfl) hm hk (kI_nI (by omega) hi) (kI_nI (by omega) hj)) (hC.at 0 rfl) rfl rfl (Nat.le_of_ble_eq_true rfl) ⟨(Nat.le_of_ble_eq_true rfl), (Nat.le_of_ble_eq_true rfl)⟩ (Nat.le_of_ble_eq_true rfl) (Nat.le_of_ble_eq_true rfl) ?_
  refine bw_if_ne 21 15 dX10_set_12 rfl rfl (fun c12 => ?_) (fun c12 => ?_)
  · refine bw_aload_n 22 dX10_set_21 rfl rfl ?_
    refine bw_iload 24 dX10_set_22 rfl rfl ?_
    refine bw_cVi 27 dX10_set_24 rfl vX10_115 (m_isMember g (hC.sub [0] (by decide) rfl) (mI_nI hn hv)) (hC.at 0 rfl) rfl rfl (Nat.le_of_ble_eq_true rfl) ⟨(Nat.le_of_ble_eq_true rfl), (Nat.le_of_ble_eq_true rfl)⟩ (Nat.le_of_ble_eq_true rfl) (Nat.le_of_ble_eq_true rfl) ?_
    refine bw_if_ne 36 30 dX10_set_27 rfl rfl (fun c27 => ?_) (fun c27 => ?_)
    · refine bw_aload_n 37 dX10_set_36 rfl rfl ?_
      refine bw_get 40 dX10_set_37 rfl lX10_23 (hC.at 0 rfl) rfl ?_
      refine bw_aload_n 41 dX10_set_40 rfl rfl ?_
      refine bw_iload_n 42 dX10_set_41 rfl rfl ?_
      refine bw_iload_n 43 dX10_set_42 rfl rfl ?_
      refine bw_iload_n 44 dX10_set_43 rfl rfl ?_
      refine bw_cVi 47 dX10_set_44 rfl vX10_140 (m_at g) (hC.at 0 rfl) rfl rfl (Nat.le_of_ble_eq_true rfl) ⟨(Nat.le_of_ble_eq_true rfl), (Nat.le_of_ble_eq_true rfl)⟩ (Nat.le_of_ble_eq_true rfl) (Nat.le_of_ble_eq_true rfl) ?_
      refine bw_ialdN 48 dX10_set_47 rfl (hC.at 3 rfl) (by omega) (by omega) ?_
      refine bw_istore 50 dX10_set_48 rfl (by decide) ?_
      refine bw_aload_n 51 dX10_set_50 rfl rfl ?_
      refine bw_get 54 dX10_set_51 rfl lX10_23 (hC.at 0 rfl) rfl ?_
      refine bw_aload_n 55 dX10_set_54 rfl rfl ?_
      refine bw_iload_n 56 dX10_set_55 rfl rfl ?_
      refine bw_iload_n 57 dX10_set_56 rfl rfl ?_
      refine bw_iload_n 58 dX10_set_57 rfl rfl ?_
      refine bw_cVi 61 dX10_set_58 rfl vX10_140 (m_at g) (hC.at 0 rfl) rfl rfl (Nat.le_of_ble_eq_true rfl) ⟨(Nat.le_of_ble_eq_true rfl), (Nat.le_of_ble_eq_true rfl)⟩ (Nat.le_of_ble_eq_true rfl) (Nat.le_of_ble_eq_true rfl) ?_
      refine bw_iload 63 dX10_set_61 rfl rfl ?_
      refine bw_iastN 64 dX10_set_63 rfl (hC.at 3 rfl) (by omega) (by omega) (G := _) (rfl) (fun A hU => ?_)
      have hC := hC.upd 3 rfl hU
      have hS := hS.upd hU (by simp)
      clear hU
      refine bw_iload 66 dX10_set_64 rfl rfl ?_
      refine bw_iret dX10_set_66 rfl (Nat.le_of_ble_eq_true rfl) (Nat.le_of_ble_eq_true rfl) ?_
      exact ⟨_, rfl, ⟨rfl, hS, hC.at 0 rfl⟩, hC.at 3 rfl⟩
    · exact absurd c27 (by decide)
  · exact absurd c12 (by decide)
theorem m_setZ (g : bw_G) {A : bw_H} {M n p gg th rn mn pn rd rs pt sn k i j : Nat} {v : Int32} {rr cc C : Nat → Nat} (hC : bw_has A ((M, mdo M n p gg th rn mn pn rd rs pt sn) :: mmc g M rr cc C)) (hm : mn ≤ 40) (hk : k < mn) (hr : rr k ≤ 8) (hc : cc k ≤ 8) (hi : i < rr k) (hj : j < cc k) (h : ¬ mI n v) : bw_C g (bw_rm 8 0 0) mX10_set [.ref M, .int (nI k), .int (nI i), .int (nI j), .int v] A (bw_pm (maR M [] (mdo M n p gg 2 rn mn pn rd rs pt sn) (nI 0) A)) := by
  have hS : bw_sm [M] A A := bw_sm.rf
  refine bw_C.of (by decide) (Nat.le_of_ble_eq_true rfl) rfl ?_
  refine bw_aload_n 1 dX10_set_0 rfl rfl ?_
  refine bw_iconst (0) 2 dX10_set_1 (by decide) rfl ?_
  refine bw_eqi (y := nI 0) rfl ?_
  refine bw_putU 5 dX10_set_2 rfl pX10_1 (hC.at 0 rfl) rfl rfl (Nat.le_of_ble_eq_true rfl) (fun A hU => ?_)
  have hC := hC.upd 0 rfl hU
  have hS := hS.upd hU (by simp)
  clear hU
  refine bw_aload_n 6 dX10_set_5 rfl rfl ?_
  refine bw_iload_n 7 dX10_set_6 rfl rfl ?_
  refine bw_iload_n 8 dX10_set_7 rfl rfl ?_
  refine bw_iload_n 9 dX10_set_8 rfl rfl ?_
  refine bw_cVi 12 dX10_set_9 rfl vX10_147 (m_isCell g (hC.sub [0, 1, 2] (by decide) rfl) hm hk (kI_nI (by omega) hi) (kI_nI (by omega) hj)) (hC.at 0 rfl) rfl rfl (Nat.le_of_ble_eq_true rfl) ⟨(Nat.le_of_ble_eq_true rfl), (Nat.le_of_ble_eq_true rfl)⟩ (Nat.le_of_ble_eq_true rfl) (Nat.le_of_ble_eq_true rfl) ?_
  refine bw_if_ne 21 15 dX10_set_12 rfl rfl (fun c12 => ?_) (fun c12 => ?_)
  · refine bw_aload_n 22 dX10_set_21 rfl rfl ?_
    refine bw_iload 24 dX10_set_22 rfl rfl ?_
    refine bw_cVi 27 dX10_set_24 rfl vX10_115 (m_isMemberX g (hC.sub [0] (by decide) rfl) h) (hC.at 0 rfl) rfl rfl (Nat.le_of_ble_eq_true rfl) ⟨(Nat.le_of_ble_eq_true rfl), (Nat.le_of_ble_eq_true rfl)⟩ (Nat.le_of_ble_eq_true rfl) (Nat.le_of_ble_eq_true rfl) ?_
    refine bw_if_ne 36 30 dX10_set_27 rfl rfl (fun c27 => ?_) (fun c27 => ?_)
    · exact absurd rfl c27
    · skip
      refine bw_aload_n 31 dX10_set_30 rfl rfl ?_
      refine bw_iconst (2) 32 dX10_set_31 (by decide) rfl ?_
      refine bw_eqi (y := nI 2) rfl ?_
      refine bw_cVm 35 dX10_set_32 rfl vX10_118 (m_fail g (hC.sub [0] (by decide) rfl)) (hC.at 0 rfl) rfl rfl (Nat.le_of_ble_eq_true rfl) ⟨(Nat.le_of_ble_eq_true rfl), (Nat.le_of_ble_eq_true rfl)⟩ (Nat.le_of_ble_eq_true rfl) (Nat.le_of_ble_eq_true rfl) (fun x A hP => ?_)
      obtain ⟨h4, h5⟩ := hP
      subst h4
      have hC := hC.upd 0 rfl h5
      have hS := hS.upd h5 (by simp)
      refine bw_iret dX10_set_35 rfl (Nat.le_of_ble_eq_true rfl) (Nat.le_of_ble_eq_true rfl) ?_
      exact ⟨_, rfl, rfl, hS, hC.at 0 rfl⟩
  · exact absurd c12 (by decide)
theorem m_setX (g : bw_G) {A : bw_H} {M n p gg th rn mn pn rd rs pt sn : Nat} {k a b v : Int32} {rr cc C : Nat → Nat} (hC : bw_has A ((M, mdo M n p gg th rn mn pn rd rs pt sn) :: mmc g M rr cc C)) (hF : ∀ A : bw_H, bw_has A ((M, mdo M n p gg 0 rn mn pn rd rs pt sn) :: mmc g M rr cc C) → bw_C g (bw_rm 1 0 0) mX10_isCell [.ref M, .int k, .int a, .int b] A (bw_pi (nI 0) A)) : bw_C g (bw_rm 8 0 0) mX10_set [.ref M, .int k, .int a, .int b, .int v] A (bw_pm (maR M [] (mdo M n p gg 1 rn mn pn rd rs pt sn) (nI 0) A)) := by
  have hS : bw_sm [M] A A := bw_sm.rf
  refine bw_C.of (by decide) (Nat.le_of_ble_eq_true rfl) rfl ?_
  refine bw_aload_n 1 dX10_set_0 rfl rfl ?_
  refine bw_iconst (0) 2 dX10_set_1 (by decide) rfl ?_
  refine bw_eqi (y := nI 0) rfl ?_
  refine bw_putU 5 dX10_set_2 rfl pX10_1 (hC.at 0 rfl) rfl rfl (Nat.le_of_ble_eq_true rfl) (fun A hU => ?_)
  have hC := hC.upd 0 rfl hU
  have hS := hS.upd hU (by simp)
  clear hU
  refine bw_aload_n 6 dX10_set_5 rfl rfl ?_
  refine bw_iload_n 7 dX10_set_6 rfl rfl ?_
  refine bw_iload_n 8 dX10_set_7 rfl rfl ?_
  refine bw_iload_n 9 dX10_set_8 rfl rfl ?_
  refine bw_cVi 12 dX10_set_9 rfl vX10_147 (hF _ hC) (hC.at 0 rfl) rfl rfl (Nat.le_of_ble_eq_true rfl) ⟨(Nat.le_of_ble_eq_true rfl), (Nat.le_of_ble_eq_true rfl)⟩ (Nat.le_of_ble_eq_true rfl) (Nat.le_of_ble_eq_true rfl) ?_
  refine bw_if_ne 21 15 dX10_set_12 rfl rfl (fun c12 => ?_) (fun c12 => ?_)
  · exact absurd rfl c12
  · refine bw_aload_n 16 dX10_set_15 rfl rfl ?_
    refine bw_iconst (1) 17 dX10_set_16 (by decide) rfl ?_
    refine bw_eqi (y := nI 1) rfl ?_
    refine bw_cVm 20 dX10_set_17 rfl vX10_118 (m_fail g (hC.sub [0] (by decide) rfl)) (hC.at 0 rfl) rfl rfl (Nat.le_of_ble_eq_true rfl) ⟨(Nat.le_of_ble_eq_true rfl), (Nat.le_of_ble_eq_true rfl)⟩ (Nat.le_of_ble_eq_true rfl) (Nat.le_of_ble_eq_true rfl) (fun x A hP => ?_)
    obtain ⟨h4, h5⟩ := hP
    subst h4
    have hC := hC.upd 0 rfl h5
    have hS := hS.upd h5 (by simp)
    refine bw_iret dX10_set_20 rfl (Nat.le_of_ble_eq_true rfl) (Nat.le_of_ble_eq_true rfl) ?_
    exact ⟨_, rfl, rfl, hS, hC.at 0 rfl⟩
