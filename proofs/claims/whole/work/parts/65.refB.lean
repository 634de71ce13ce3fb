/-! the reference: quotient, order, the row -/
theorem gp_ginv {n p gg b : Nat} (hG : GFg n p gg) (hb : b < 2 ^ n) : gp n (2 ^ n ||| p) b (2 ^ n - 2) = ginv n (2 ^ n ||| p) b := gp_eq hG.2.2.1 hb (by have := hG.p16; omega)
theorem m_inverse (g : bw_G) {A : bw_H} {M n p gg th rn mn pn rd rs pt sn b : Nat} (hG : GFg n p gg) (hC : bw_has A [(M, mdo M n p gg th rn mn pn rd rs pt sn)]) (hb : b < 2 ^ n) : bw_C g (bw_rm 2 0 0) mX10_inverse [.ref M, .int (nI b)] A (bw_pi (nI (ginv n (2 ^ n ||| p) b)) A) := by
  have := c10_inverse g hG.n16 hC rfl rfl hG.2.1 hb hG.2.2.1.one
  rwa [gp_ginv hG hb] at this
theorem m_mul (g : bw_G) {A : bw_H} {M n p gg th rn mn pn rd rs pt sn a b : Nat} (hG : GFg n p gg) (hC : bw_has A [(M, mdo M n p gg th rn mn pn rd rs pt sn)]) (ha : a < 2 ^ n) (hb : b < 2 ^ n) : bw_C g (bw_rm 0 0 0) mX10_mul [.ref M, .int (nI a), .int (nI b)] A (bw_pi (nI (gm n (2 ^ n ||| p) a b)) A) := c10_mul g hG.n16 hC rfl rfl hG.2.1 ha hb
theorem m_quotient (g : bw_G) {A : bw_H} {M n p gg th rn mn pn rd rs pt sn a b : Nat} (hG : GFg n p gg) (hC : bw_has A [(M, mdo M n p gg th rn mn pn rd rs pt sn)]) (ha : a < 2 ^ n) (hb : b < 2 ^ n) (hb0 : b ≠ 0) : bw_C g (bw_rm 8 0 0) mX10_quotient [.ref M, .int (nI a), .int (nI b)] A (bw_pm (maR M [] (mdo M n p gg 0 rn mn pn rd rs pt sn) (nI (gm n (2 ^ n ||| p) a (ginv n (2 ^ n ||| p) b))) A)) := by
  have hS : bw_sm [M] A A := bw_sm.rf
  refine bw_C.of (by decide) (Nat.le_of_ble_eq_true rfl) rfl ?_
  refine bw_aload_n 1 dX10_quotient_0 rfl rfl ?_
  refine bw_iconst (0) 2 dX10_quotient_1 (by decide) rfl ?_
  refine bw_eqi (y := nI 0) rfl ?_
  refine bw_putU 5 dX10_quotient_2 rfl pX10_1 (hC.at 0 rfl) rfl rfl (Nat.le_of_ble_eq_true rfl) (fun A hU => ?_)
  have hC := hC.upd 0 rfl hU
  have hS := hS.upd hU (by simp)
  clear hU
  refine bw_aload_n 6 dX10_quotient_5 rfl rfl ?_
  refine bw_iload_n 7 dX10_quotient_6 rfl rfl ?_
  refine bw_cVi 10 dX10_quotient_7 rfl vX10_115 (m_isMember g hC (mI_nI hG.p16 ha)) (hC.at 0 rfl) rfl rfl (Nat.le_of_ble_eq_true rfl) ⟨(Nat.le_of_ble_eq_true rfl), (Nat.le_of_ble_eq_true rfl)⟩ (Nat.le_of_ble_eq_true rfl) (Nat.le_of_ble_eq_true rfl) ?_
  refine bw_if_eq 21 13 dX10_quotient_10 rfl rfl (fun c10 => ?_) (fun c10 => ?_)
  · exact absurd c10 (by decide)
  · refine bw_aload_n 14 dX10_quotient_13 rfl rfl ?_
    refine bw_iload_n 15 dX10_quotient_14 rfl rfl ?_
    refine bw_cVi 18 dX10_quotient_15 rfl vX10_115 (m_isMember g hC (mI_nI hG.p16 hb)) (hC.at 0 rfl) rfl rfl (Nat.le_of_ble_eq_true rfl) ⟨(Nat.le_of_ble_eq_true rfl), (Nat.le_of_ble_eq_true rfl)⟩ (Nat.le_of_ble_eq_true rfl) (Nat.le_of_ble_eq_true rfl) ?_
    refine bw_if_ne 27 21 dX10_quotient_18 rfl rfl (fun c18 => ?_) (fun c18 => ?_)
    · refine bw_iload_n 28 dX10_quotient_27 rfl rfl ?_
      refine bw_if_ne 39 31 dX10_quotient_28 rfl rfl (fun c28 => ?_) (fun c28 => ?_)
      · refine bw_aload_n 40 dX10_quotient_39 rfl rfl ?_
        refine bw_iload_n 41 dX10_quotient_40 rfl rfl ?_
        refine bw_aload_n 42 dX10_quotient_41 rfl rfl ?_
        refine bw_iload_n 43 dX10_quotient_42 rfl rfl ?_
        refine bw_cVi 46 dX10_quotient_43 rfl vX10_121 (m_inverse g hG hC hb) (hC.at 0 rfl) rfl rfl (Nat.le_of_ble_eq_true rfl) ⟨(Nat.le_of_ble_eq_true rfl), (Nat.le_of_ble_eq_true rfl)⟩ (Nat.le_of_ble_eq_true rfl) (Nat.le_of_ble_eq_true rfl) ?_
        refine bw_cVi 49 dX10_quotient_46 rfl vX10_102 (m_mul g hG hC ha (ginv_lt hG b)) (hC.at 0 rfl) rfl rfl (Nat.le_of_ble_eq_true rfl) ⟨(Nat.le_of_ble_eq_true rfl), (Nat.le_of_ble_eq_true rfl)⟩ (Nat.le_of_ble_eq_true rfl) (Nat.le_of_ble_eq_true rfl) ?_
        refine bw_iret dX10_quotient_49 rfl (Nat.le_of_ble_eq_true rfl) (Nat.le_of_ble_eq_true rfl) ?_
        exact ⟨_, rfl, rfl, hS, hC.at 0 rfl⟩
      · exact absurd ((xn_eq0 (by have := hG.p16; omega)).mp c28) hb0
    · exact absurd c18 (by decide)
theorem m_quotient0 (g : bw_G) {A : bw_H} {M n p gg th rn mn pn rd rs pt sn a : Nat} (hG : GFg n p gg) (hC : bw_has A [(M, mdo M n p gg th rn mn pn rd rs pt sn)]) (ha : a < 2 ^ n) : bw_C g (bw_rm 8 0 0) mX10_quotient [.ref M, .int (nI a), .int (nI 0)] A (bw_pm (maR M [] (mdo M n p gg 2 rn mn pn rd rs pt sn) (nI 0) A)) := by
  have hS : bw_sm [M] A A := bw_sm.rf
  refine bw_C.of (by decide) (Nat.le_of_ble_eq_true rfl) rfl ?_
  refine bw_aload_n 1 dX10_quotient_0 rfl rfl ?_
  refine bw_iconst (0) 2 dX10_quotient_1 (by decide) rfl ?_
  refine bw_eqi (y := nI 0) rfl ?_
  refine bw_putU 5 dX10_quotient_2 rfl pX10_1 (hC.at 0 rfl) rfl rfl (Nat.le_of_ble_eq_true rfl) (fun A hU => ?_)
  have hC := hC.upd 0 rfl hU
  have hS := hS.upd hU (by simp)
  clear hU
  refine bw_aload_n 6 dX10_quotient_5 rfl rfl ?_
  refine bw_iload_n 7 dX10_quotient_6 rfl rfl ?_
  refine bw_cVi 10 dX10_quotient_7 rfl vX10_115 (m_isMember g hC (mI_nI hG.p16 ha)) (hC.at 0 rfl) rfl rfl (Nat.le_of_ble_eq_true rfl) ⟨(Nat.le_of_ble_eq_true rfl), (Nat.le_of_ble_eq_true rfl)⟩ (Nat.le_of_ble_eq_true rfl) (Nat.le_of_ble_eq_true rfl) ?_
  refine bw_if_eq 21 13 dX10_quotient_10 rfl rfl (fun c10 => ?_) (fun c10 => ?_)
  · exact absurd c10 (by decide)
  · refine bw_aload_n 14 dX10_quotient_13 rfl rfl ?_
    refine bw_iload_n 15 dX10_quotient_14 rfl rfl ?_
    refine bw_cVi 18 dX10_quotient_15 rfl vX10_115 (m_isMember g hC (mI_nI hG.p16 (Nat.two_pow_pos n))) (hC.at 0 rfl) rfl rfl (Nat.le_of_ble_eq_true rfl) ⟨(Nat.le_of_ble_eq_true rfl), (Nat.le_of_ble_eq_true rfl)⟩ (Nat.le_of_ble_eq_true rfl) (Nat.le_of_ble_eq_true rfl) ?_
    refine bw_if_ne 27 21 dX10_quotient_18 rfl rfl (fun c18 => ?_) (fun c18 => ?_)
    · refine bw_iload_n 28 dX10_quotient_27 rfl rfl ?_
      refine bw_if_ne 39 31 dX10_quotient_28 rfl rfl (fun c28 => ?_) (fun c28 => ?_)
      · exact absurd rfl c28
      · skip
        refine bw_aload_n 32 dX10_quotient_31 rfl rfl ?_
        refine bw_iconst (2) 33 dX10_quotient_32 (by decide) rfl ?_
        refine bw_eqi (y := nI 2) rfl ?_
        refine bw_cVm 36 dX10_quotient_33 rfl vX10_118 (m_fail g hC) (hC.at 0 rfl) rfl rfl (Nat.le_of_ble_eq_true rfl) ⟨(Nat.le_of_ble_eq_true rfl), (Nat.le_of_ble_eq_true rfl)⟩ (Nat.le_of_ble_eq_true rfl) (Nat.le_of_ble_eq_true rfl) (fun x A hP => ?_)
        obtain ⟨h4, h5⟩ := hP
        subst h4
        have hC := hC.upd 0 rfl h5
        have hS := hS.upd h5 (by simp)
        refine bw_goto 49 dX10_quotient_36 rfl ?_
        refine bw_iret dX10_quotient_49 rfl (Nat.le_of_ble_eq_true rfl) (Nat.le_of_ble_eq_true rfl) ?_
        exact ⟨_, rfl, rfl, hS, hC.at 0 rfl⟩
    · exact absurd c18 (by decide)
theorem m_quotientX (g : bw_G) {A : bw_H} {M n p gg th rn mn pn rd rs pt sn : Nat} {a b : Int32} (hC : bw_has A [(M, mdo M n p gg th rn mn pn rd rs pt sn)]) (h : ¬ (mI n a ∧ mI n b)) : bw_C g (bw_rm 8 0 0) mX10_quotient [.ref M, .int a, .int b] A (bw_pm (maR M [] (mdo M n p gg 1 rn mn pn rd rs pt sn) (nI 0) A)) := by
  have hS : bw_sm [M] A A := bw_sm.rf
  refine bw_C.of (by decide) (Nat.le_of_ble_eq_true rfl) rfl ?_
  by_cases ha : mI n a
  · skip
    refine bw_aload_n 1 dX10_quotient_0 rfl rfl ?_
    refine bw_iconst (0) 2 dX10_quotient_1 (by decide) rfl ?_
    refine bw_eqi (y := nI 0) rfl ?_
    refine bw_putU 5 dX10_quotient_2 rfl pX10_1 (hC.at 0 rfl) rfl rfl (Nat.le_of_ble_eq_true rfl) (fun A hU => ?_)
    have hC := hC.upd 0 rfl hU
    have hS := hS.upd hU (by simp)
    clear hU
    refine bw_aload_n 6 dX10_quotient_5 rfl rfl ?_
    refine bw_iload_n 7 dX10_quotient_6 rfl rfl ?_
    refine bw_cVi 10 dX10_quotient_7 rfl vX10_115 (m_isMember g hC ha) (hC.at 0 rfl) rfl rfl (Nat.le_of_ble_eq_true rfl) ⟨(Nat.le_of_ble_eq_true rfl), (Nat.le_of_ble_eq_true rfl)⟩ (Nat.le_of_ble_eq_true rfl) (Nat.le_of_ble_eq_true rfl) ?_
    refine bw_if_eq 21 13 dX10_quotient_10 rfl rfl (fun c10 => ?_) (fun c10 => ?_)
    · exact absurd c10 (by decide)
    · refine bw_aload_n 14 dX10_quotient_13 rfl rfl ?_
      refine bw_iload_n 15 dX10_quotient_14 rfl rfl ?_
      refine bw_cVi 18 dX10_quotient_15 rfl vX10_115 (m_isMemberX g hC (fun hb => h ⟨ha, hb⟩)) (hC.at 0 rfl) rfl rfl (Nat.le_of_ble_eq_true rfl) ⟨(Nat.le_of_ble_eq_true rfl), (Nat.le_of_ble_eq_true rfl)⟩ (Nat.le_of_ble_eq_true rfl) (Nat.le_of_ble_eq_true rfl) ?_
      refine bw_if_ne 27 21 dX10_quotient_18 rfl rfl (fun c18 => ?_) (fun c18 => ?_)
      · exact absurd rfl c18
      · skip
        refine bw_aload_n 22 dX10_quotient_21 rfl rfl ?_
        refine bw_iconst (1) 23 dX10_quotient_22 (by decide) rfl ?_
        refine bw_eqi (y := nI 1) rfl ?_
        refine bw_cVm 26 dX10_quotient_23 rfl vX10_118 (m_fail g hC) (hC.at 0 rfl) rfl rfl (Nat.le_of_ble_eq_true rfl) ⟨(Nat.le_of_ble_eq_true rfl), (Nat.le_of_ble_eq_true rfl)⟩ (Nat.le_of_ble_eq_true rfl) (Nat.le_of_ble_eq_true rfl) (fun x A hP => ?_)
        obtain ⟨h4, h5⟩ := hP
        subst h4
        have hC := hC.upd 0 rfl h5
        have hS := hS.upd h5 (by simp)
        refine bw_iret dX10_quotient_26 rfl (Nat.le_of_ble_eq_true rfl) (Nat.le_of_ble_eq_true rfl) ?_
        exact ⟨_, rfl, rfl, hS, hC.at 0 rfl⟩
  · skip
    refine bw_aload_n 1 dX10_quotient_0 rfl rfl ?_
    refine bw_iconst (0) 2 dX10_quotient_1 (by decide) rfl ?_
    refine bw_eqi (y := nI 0) rfl ?_
    refine bw_putU 5 dX10_quotient_2 rfl pX10_1 (hC.at 0 rfl) rfl rfl (Nat.le_of_ble_eq_true rfl) (fun A hU => ?_)
    have hC := hC.upd 0 rfl hU
    have hS := hS.upd hU (by simp)
    clear hU
    refine bw_aload_n 6 dX10_quotient_5 rfl rfl ?_
    refine bw_iload_n 7 dX10_quotient_6 rfl rfl ?_
    refine bw_cVi 10 dX10_quotient_7 rfl vX10_115 (m_isMemberX g hC ha) (hC.at 0 rfl) rfl rfl (Nat.le_of_ble_eq_true rfl) ⟨(Nat.le_of_ble_eq_true rfl), (Nat.le_of_ble_eq_true rfl)⟩ (Nat.le_of_ble_eq_true rfl) (Nat.le_of_ble_eq_true rfl) ?_
    refine bw_if_eq 21 13 dX10_quotient_10 rfl rfl (fun c10 => ?_) (fun c10 => ?_)
    · skip
      refine bw_aload_n 22 dX10_quotient_21 rfl rfl ?_
      refine bw_iconst (1) 23 dX10_quotient_22 (by decide) rfl ?_
      refine bw_eqi (y := nI 1) rfl ?_
      refine bw_cVm 26 dX10_quotient_23 rfl vX10_118 (m_fail g hC) (hC.at 0 rfl) rfl rfl (Nat.le_of_ble_eq_true rfl) ⟨(Nat.le_of_ble_eq_true rfl), (Nat.le_of_ble_eq_true rfl)⟩ (Nat.le_of_ble_eq_true rfl) (Nat.le_of_ble_eq_true rfl) (fun x A hP => ?_)
      obtain ⟨h4, h5⟩ := hP
      subst h4
      have hC := hC.upd 0 rfl h5
      have hS := hS.upd h5 (by simp)
      refine bw_iret dX10_quotient_26 rfl (Nat.le_of_ble_eq_true rfl) (Nat.le_of_ble_eq_true rfl) ?_
      exact ⟨_, rfl, rfl, hS, hC.at 0 rfl⟩
    · exact absurd rfl c10
theorem m_order (g : bw_G) {A : bw_H} {M n p gg th rn mn pn rd rs pt sn a : Nat} (hG : GFg n p gg) (hC : bw_has A [(M, mdo M n p gg th rn mn pn rd rs pt sn)]) (ha : a < 2 ^ n) : bw_C g (bw_rm 8 0 0) mX10_order [.ref M, .int (nI a)] A (bw_pm (maR M [] (mdo M n p gg 0 rn mn pn rd rs pt sn) (nI (if a = 0 then 0 else gco (2 ^ n - 1) (glog n (2 ^ n ||| p) gg a) 4)) A)) := by
  have hS : bw_sm [M] A A := bw_sm.rf
  refine bw_C.of (by decide) (Nat.le_of_ble_eq_true rfl) rfl ?_
  refine bw_aload_n 1 dX10_order_0 rfl rfl ?_
  refine bw_iconst (0) 2 dX10_order_1 (by decide) rfl ?_
  refine bw_eqi (y := nI 0) rfl ?_
  refine bw_putU 5 dX10_order_2 rfl pX10_1 (hC.at 0 rfl) rfl rfl (Nat.le_of_ble_eq_true rfl) (fun A hU => ?_)
  have hC := hC.upd 0 rfl hU
  have hS := hS.upd hU (by simp)
  clear hU
  refine bw_aload_n 6 dX10_order_5 rfl rfl ?_
  refine bw_iload_n 7 dX10_order_6 rfl rfl ?_
  refine bw_cVi 10 dX10_order_7 rfl vX10_115 (m_isMember g hC (mI_nI hG.p16 ha)) (hC.at 0 rfl) rfl rfl (Nat.le_of_ble_eq_true rfl) ⟨(Nat.le_of_ble_eq_true rfl), (Nat.le_of_ble_eq_true rfl)⟩ (Nat.le_of_ble_eq_true rfl) (Nat.le_of_ble_eq_true rfl) ?_
  refine bw_if_ne 19 13 dX10_order_10 rfl rfl (fun c10 => ?_) (fun c10 => ?_)
  · refine bw_iload_n 20 dX10_order_19 rfl rfl ?_
    refine bw_if_ne 27 23 dX10_order_20 rfl rfl (fun c20 => ?_) (fun c20 => ?_)
    · have h0 : a ≠ 0 := fun h => c20 (by rw [h]; rfl)
      refine bw_aload_n 28 dX10_order_27 rfl rfl ?_
      refine bw_iload_n 29 dX10_order_28 rfl rfl ?_
      refine bw_cVi 32 dX10_order_29 rfl vX10_91 (c10_orderOf g hG.n16 hC rfl rfl rfl hG.2.1 ha hG.2.2.1.one) (hC.at 0 rfl) rfl rfl (Nat.le_of_ble_eq_true rfl) ⟨(Nat.le_of_ble_eq_true rfl), (Nat.le_of_ble_eq_true rfl)⟩ (Nat.le_of_ble_eq_true rfl) (Nat.le_of_ble_eq_true rfl) ?_
      refine bw_iret dX10_order_32 rfl (Nat.le_of_ble_eq_true rfl) (Nat.le_of_ble_eq_true rfl) ?_
      exact ⟨_, rfl, by first | rw [if_pos h0] | rw [if_neg h0, gol_gco hG ha h0], hS, hC.at 0 rfl⟩
    · have h0 : a = 0 := (xn_eq0 (by have := hG.p16; omega)).mp c20
      refine bw_iconst (0) 24 dX10_order_23 (by decide) rfl ?_
      refine bw_eqi (y := nI 0) rfl ?_
      refine bw_goto 32 dX10_order_24 rfl ?_
      refine bw_iret dX10_order_32 rfl (Nat.le_of_ble_eq_true rfl) (Nat.le_of_ble_eq_true rfl) ?_
      exact ⟨_, rfl, by first | rw [if_pos h0] | rw [if_neg h0, gol_gco hG ha h0], hS, hC.at 0 rfl⟩
  · exact absurd c10 (by decide)
theorem m_orderX (g : bw_G) {A : bw_H} {M n p gg th rn mn pn rd rs pt sn : Nat} {a : Int32} (hC : bw_has A [(M, mdo M n p gg th rn mn pn rd rs pt sn)]) (h : ¬ mI n a) : bw_C g (bw_rm 8 0 0) mX10_order [.ref M, .int a] A (bw_pm (maR M [] (mdo M n p gg 1 rn mn pn rd rs pt sn) (nI 0) A)) := by
  have hS : bw_sm [M] A A := bw_sm.rf
  refine bw_C.of (by decide) (Nat.le_of_ble_eq_true rfl) rfl ?_
  refine bw_aload_n 1 dX10_order_0 rfl rfl ?_
  refine bw_iconst (0) 2 dX10_order_1 (by decide) rfl ?_
  refine bw_eqi (y := nI 0) rfl ?_
  refine bw_putU 5 dX10_order_2 rfl pX10_1 (hC.at 0 rfl) rfl rfl (Nat.le_of_ble_eq_true rfl) (fun A hU => ?_)
  have hC := hC.upd 0 rfl hU
  have hS := hS.upd hU (by simp)
  clear hU
  refine bw_aload_n 6 dX10_order_5 rfl rfl ?_
  refine bw_iload_n 7 dX10_order_6 rfl rfl ?_
  refine bw_cVi 10 dX10_order_7 rfl vX10_115 (m_isMemberX g hC h) (hC.at 0 rfl) rfl rfl (Nat.le_of_ble_eq_true rfl) ⟨(Nat.le_of_ble_eq_true rfl), (Nat.le_of_ble_eq_true rfl)⟩ (Nat.le_of_ble_eq_true rfl) (Nat.le_of_ble_eq_true rfl) ?_
  refine bw_if_ne 19 13 dX10_order_10 rfl rfl (fun c10 => ?_) (fun c10 => ?_)
  · exact absurd rfl c10
  · refine bw_aload_n 14 dX10_order_13 rfl rfl ?_
    refine bw_iconst (1) 15 dX10_order_14 (by decide) rfl ?_
    refine bw_eqi (y := nI 1) rfl ?_
    refine bw_cVm 18 dX10_order_15 rfl vX10_118 (m_fail g hC) (hC.at 0 rfl) rfl rfl (Nat.le_of_ble_eq_true rfl) ⟨(Nat.le_of_ble_eq_true rfl), (Nat.le_of_ble_eq_true rfl)⟩ (Nat.le_of_ble_eq_true rfl) (Nat.le_of_ble_eq_true rfl) (fun x A hP => ?_)
    obtain ⟨h4, h5⟩ := hP
    subst h4
    have hC := hC.upd 0 rfl h5
    have hS := hS.upd h5 (by simp)
    refine bw_iret dX10_order_18 rfl (Nat.le_of_ble_eq_true rfl) (Nat.le_of_ble_eq_true rfl) ?_
    exact ⟨_, rfl, rfl, hS, hC.at 0 rfl⟩
theorem m_put (g : bw_G) {A : bw_H} {M n p gg th rn mn pn rd rs pt sn v : Nat} {row : Nat → Nat} (hn : 2 ^ n ≤ 65536) (hC : bw_has A [(M, mdo M n p gg th rn mn pn rd rs pt sn), (M + 1, bw_an g 130 row)]) (hv : v < 2 ^ n) (hr : rn < 130) : bw_C g (bw_rm 8 0 0) mX10_put [.ref M, .int (nI v)] A (bw_pm (fun y A' => maR M [M + 1] (mdo M n p gg 0 (rn + 1) mn pn rd rs pt sn) (nI (rn + 1)) A y A' ∧ A'.2 (M + 1) = some (bw_an g 130 (fun i => if i = rn then v else row i)))) := by
  have hS : bw_sm [M, M + 1] A A := bw_sm.rf
  refine bw_C.of (by decide) (Nat.le_of_ble_eq_true rfl) rfl ?_
  refine bw_aload_n 1 dX10_put_0 rfl rfl ?_
  refine bw_iconst (0) 2 dX10_put_1 (by decide) rfl ?_
  refine bw_eqi (y := nI 0) rfl ?_
  refine bw_putU 5 dX10_put_2 rfl pX10_1 (hC.at 0 rfl) rfl rfl (Nat.le_of_ble_eq_true rfl) (fun A hU => ?_)
  have hC := hC.upd 0 rfl hU
  have hS := hS.upd hU (by simp)
  clear hU
  refine bw_aload_n 6 dX10_put_5 rfl rfl ?_
  refine bw_iload_n 7 dX10_put_6 rfl rfl ?_
  refine bw_cVi 10 dX10_put_7 rfl vX10_115 (m_isMember g (hC.sub [0] (by decide) rfl) (mI_nI hn hv)) (hC.at 0 rfl) rfl rfl (Nat.le_of_ble_eq_true rfl) ⟨(Nat.le_of_ble_eq_true rfl), (Nat.le_of_ble_eq_true rfl)⟩ (Nat.le_of_ble_eq_true rfl) (Nat.le_of_ble_eq_true rfl) ?_
  refine bw_if_ne 19 13 dX10_put_10 rfl rfl (fun c10 => ?_) (fun c10 => ?_)
  · refine bw_aload_n 20 dX10_put_19 rfl rfl ?_
    refine bw_get 23 dX10_put_20 rfl lX10_124 (hC.at 0 rfl) rfl ?_
    refine bw_sipush (130) 26 dX10_put_23 (by decide) rfl ?_
    refine bw_eqi (y := nI 130) rfl ?_
    refine bw_icmp_ne 35 29 dX10_put_26 rfl rfl (fun c26 => ?_) (fun c26 => ?_)
    · refine bw_aload_n 36 dX10_put_35 rfl rfl ?_
      refine bw_get 39 dX10_put_36 rfl lX10_13 (hC.at 0 rfl) rfl ?_
      refine bw_aload_n 40 dX10_put_39 rfl rfl ?_
      refine bw_get 43 dX10_put_40 rfl lX10_124 (hC.at 0 rfl) rfl ?_
      refine bw_iload_n 44 dX10_put_43 rfl rfl ?_
      refine bw_iastN 45 dX10_put_44 rfl (hC.at 1 rfl) (by omega) (by omega) (G := _) (rfl) (fun A hU => ?_)
      have hC := hC.upd 1 rfl hU
      have hS := hS.upd hU (by simp)
      clear hU
      refine bw_aload_n 46 dX10_put_45 rfl rfl ?_
      refine bw_dup 47 dX10_put_46 rfl rfl ?_
      refine bw_get 50 dX10_put_47 rfl lX10_124 (hC.at 0 rfl) rfl ?_
      refine bw_iconst (1) 51 dX10_put_50 (by decide) rfl ?_
      refine bw_eqi (y := nI 1) rfl ?_
      refine bw_iadd 52 dX10_put_51 rfl ?_
      refine bw_eqi (nI_add rn 1) ?_
      refine bw_putU 55 dX10_put_52 rfl pX10_124 (hC.at 0 rfl) rfl rfl (Nat.le_of_ble_eq_true rfl) (fun A hU => ?_)
      have hC := hC.upd 0 rfl hU
      have hS := hS.upd hU (by simp)
      clear hU
      refine bw_aload_n 56 dX10_put_55 rfl rfl ?_
      refine bw_get 59 dX10_put_56 rfl lX10_124 (hC.at 0 rfl) rfl ?_
      refine bw_iret dX10_put_59 rfl (Nat.le_of_ble_eq_true rfl) (Nat.le_of_ble_eq_true rfl) ?_
      exact ⟨_, rfl, ⟨rfl, hS, hC.at 0 rfl⟩, hC.at 1 rfl⟩
    · exact absurd ((nI_eq (b := 130) (by omega) (by omega)).mp c26) (by omega)
  · exact absurd c10 (by decide)
theorem m_putF (g : bw_G) {A : bw_H} {M n p gg th mn pn rd rs pt sn v : Nat} (hn : 2 ^ n ≤ 65536) (hC : bw_has A [(M, mdo M n p gg th 130 mn pn rd rs pt sn)]) (hv : v < 2 ^ n) : bw_C g (bw_rm 8 0 0) mX10_put [.ref M, .int (nI v)] A (bw_pm (maR M [] (mdo M n p gg 2 130 mn pn rd rs pt sn) (nI 0) A)) := by
  have hS : bw_sm [M] A A := bw_sm.rf
  refine bw_C.of (by decide) (Nat.le_of_ble_eq_true rfl) rfl ?_
  refine bw_aload_n 1 dX10_put_0 rfl rfl ?_
  refine bw_iconst (0) 2 dX10_put_1 (by decide) rfl ?_
  refine bw_eqi (y := nI 0) rfl ?_
  refine bw_putU 5 dX10_put_2 rfl pX10_1 (hC.at 0 rfl) rfl rfl (Nat.le_of_ble_eq_true rfl) (fun A hU => ?_)
  have hC := hC.upd 0 rfl hU
  have hS := hS.upd hU (by simp)
  clear hU
  refine bw_aload_n 6 dX10_put_5 rfl rfl ?_
  refine bw_iload_n 7 dX10_put_6 rfl rfl ?_
  refine bw_cVi 10 dX10_put_7 rfl vX10_115 (m_isMember g hC (mI_nI hn hv)) (hC.at 0 rfl) rfl rfl (Nat.le_of_ble_eq_true rfl) ⟨(Nat.le_of_ble_eq_true rfl), (Nat.le_of_ble_eq_true rfl)⟩ (Nat.le_of_ble_eq_true rfl) (Nat.le_of_ble_eq_true rfl) ?_
  refine bw_if_ne 19 13 dX10_put_10 rfl rfl (fun c10 => ?_) (fun c10 => ?_)
  · refine bw_aload_n 20 dX10_put_19 rfl rfl ?_
    refine bw_get 23 dX10_put_20 rfl lX10_124 (hC.at 0 rfl) rfl ?_
    refine bw_sipush (130) 26 dX10_put_23 (by decide) rfl ?_
    refine bw_eqi (y := nI 130) rfl ?_
    refine bw_icmp_ne 35 29 dX10_put_26 rfl rfl (fun c26 => ?_) (fun c26 => ?_)
    · exact absurd rfl c26
    · refine bw_aload_n 30 dX10_put_29 rfl rfl ?_
      refine bw_iconst (2) 31 dX10_put_30 (by decide) rfl ?_
      refine bw_eqi (y := nI 2) rfl ?_
      refine bw_cVm 34 dX10_put_31 rfl vX10_118 (m_fail g hC) (hC.at 0 rfl) rfl rfl (Nat.le_of_ble_eq_true rfl) ⟨(Nat.le_of_ble_eq_true rfl), (Nat.le_of_ble_eq_true rfl)⟩ (Nat.le_of_ble_eq_true rfl) (Nat.le_of_ble_eq_true rfl) (fun x A hP => ?_)
      obtain ⟨h4, h5⟩ := hP
      subst h4
      have hC := hC.upd 0 rfl h5
      have hS := hS.upd h5 (by simp)
      refine bw_iret dX10_put_34 rfl (Nat.le_of_ble_eq_true rfl) (Nat.le_of_ble_eq_true rfl) ?_
      exact ⟨_, rfl, rfl, hS, hC.at 0 rfl⟩
  · exact absurd c10 (by decide)
theorem m_putX (g : bw_G) {A : bw_H} {M n p gg th rn mn pn rd rs pt sn : Nat} {a : Int32} (hC : bw_has A [(M, mdo M n p gg th rn mn pn rd rs pt sn)]) (h : ¬ mI n a) : bw_C g (bw_rm 8 0 0) mX10_put [.ref M, .int a] A (bw_pm (maR M [] (mdo M n p gg 1 rn mn pn rd rs pt sn) (nI 0) A)) := by
  have hS : bw_sm [M] A A := bw_sm.rf
  refine bw_C.of (by decide) (Nat.le_of_ble_eq_true rfl) rfl ?_
  refine bw_aload_n 1 dX10_put_0 rfl rfl ?_
  refine bw_iconst (0) 2 dX10_put_1 (by decide) rfl ?_
  refine bw_eqi (y := nI 0) rfl ?_
  refine bw_putU 5 dX10_put_2 rfl pX10_1 (hC.at 0 rfl) rfl rfl (Nat.le_of_ble_eq_true rfl) (fun A hU => ?_)
  have hC := hC.upd 0 rfl hU
  have hS := hS.upd hU (by simp)
  clear hU
  refine bw_aload_n 6 dX10_put_5 rfl rfl ?_
  refine bw_iload_n 7 dX10_put_6 rfl rfl ?_
  refine bw_cVi 10 dX10_put_7 rfl vX10_115 (m_isMemberX g hC h) (hC.at 0 rfl) rfl rfl (Nat.le_of_ble_eq_true rfl) ⟨(Nat.le_of_ble_eq_true rfl), (Nat.le_of_ble_eq_true rfl)⟩ (Nat.le_of_ble_eq_true rfl) (Nat.le_of_ble_eq_true rfl) ?_
  refine bw_if_ne 19 13 dX10_put_10 rfl rfl (fun c10 => ?_) (fun c10 => ?_)
  · exact absurd rfl c10
  · refine bw_aload_n 14 dX10_put_13 rfl rfl ?_
    refine bw_iconst (1) 15 dX10_put_14 (by decide) rfl ?_
    refine bw_eqi (y := nI 1) rfl ?_
    refine bw_cVm 18 dX10_put_15 rfl vX10_118 (m_fail g hC) (hC.at 0 rfl) rfl rfl (Nat.le_of_ble_eq_true rfl) ⟨(Nat.le_of_ble_eq_true rfl), (Nat.le_of_ble_eq_true rfl)⟩ (Nat.le_of_ble_eq_true rfl) (Nat.le_of_ble_eq_true rfl) (fun x A hP => ?_)
    obtain ⟨h4, h5⟩ := hP
    subst h4
    have hC := hC.upd 0 rfl h5
    have hS := hS.upd h5 (by simp)
    refine bw_iret dX10_put_18 rfl (Nat.le_of_ble_eq_true rfl) (Nat.le_of_ble_eq_true rfl) ?_
    exact ⟨_, rfl, rfl, hS, hC.at 0 rfl⟩
theorem m_row (g : bw_G) {A : bw_H} {M n p gg th rn mn pn rd rs pt sn k : Nat} {row : Nat → Nat} (hC : bw_has A [(M, mdo M n p gg th rn mn pn rd rs pt sn), (M + 1, bw_an g 130 row)]) (hr : rn ≤ 130) (hk : k < 2 ^ 31) : bw_C g (bw_rm 8 0 0) mX10_row [.ref M, .int (nI k)] A (bw_pm (maR M [] (mdo M n p gg 0 rn mn pn rd rs pt sn) (if k < rn then nI (row k) else -1) A)) := by
  have hS : bw_sm [M] A A := bw_sm.rf
  refine bw_C.of (by decide) (Nat.le_of_ble_eq_true rfl) rfl ?_
  refine bw_aload_n 1 dX10_row_0 rfl rfl ?_
  refine bw_iconst (0) 2 dX10_row_1 (by decide) rfl ?_
  refine bw_eqi (y := nI 0) rfl ?_
  refine bw_putU 5 dX10_row_2 rfl pX10_1 (hC.at 0 rfl) rfl rfl (Nat.le_of_ble_eq_true rfl) (fun A hU => ?_)
  have hC := hC.upd 0 rfl hU
  have hS := hS.upd hU (by simp)
  clear hU
  refine bw_iload_n 6 dX10_row_5 rfl rfl ?_
  refine bw_if_ge 17 9 dX10_row_6 rfl rfl (fun c6 => ?_) (fun c6 => ?_)
  · refine bw_iload_n 18 dX10_row_17 rfl rfl ?_
    refine bw_aload_n 19 dX10_row_18 rfl rfl ?_
    refine bw_get 22 dX10_row_19 rfl lX10_124 (hC.at 0 rfl) rfl ?_
    refine bw_icmp_ge 34 25 dX10_row_22 rfl rfl (fun c22 => ?_) (fun c22 => ?_)
    · have hge : ¬ k < rn := Nat.not_lt.mpr ((nI_leI (by omega) hk).mp c22)
      refine bw_iconst (-1) 35 dX10_row_34 (by decide) rfl ?_
      refine bw_iret dX10_row_35 rfl (Nat.le_of_ble_eq_true rfl) (Nat.le_of_ble_eq_true rfl) ?_
      exact ⟨_, rfl, by first | rw [if_pos hlt] | rw [if_neg hge], hS, hC.at 0 rfl⟩
    · have hlt : k < rn := Nat.not_le.mp (fun h => c22 (nI_le h hk))
      refine bw_aload_n 26 dX10_row_25 rfl rfl ?_
      refine bw_get 29 dX10_row_26 rfl lX10_13 (hC.at 0 rfl) rfl ?_
      refine bw_iload_n 30 dX10_row_29 rfl rfl ?_
      refine bw_ialdN 31 dX10_row_30 rfl (hC.at 1 rfl) (by omega) (by omega) ?_
      refine bw_goto 35 dX10_row_31 rfl ?_
      refine bw_iret dX10_row_35 rfl (Nat.le_of_ble_eq_true rfl) (Nat.le_of_ble_eq_true rfl) ?_
      exact ⟨_, rfl, by first | rw [if_pos hlt] | rw [if_neg hge], hS, hC.at 0 rfl⟩
  · exact absurd (Int32.not_lt.mp (nI_pos hk)) c6
theorem m_rowX (g : bw_G) {A : bw_H} {M n p gg th rn mn pn rd rs pt sn : Nat} {k : Int32} (hC : bw_has A [(M, mdo M n p gg th rn mn pn rd rs pt sn)]) (h : k < 0) : bw_C g (bw_rm 8 0 0) mX10_row [.ref M, .int k] A (bw_pm (maR M [] (mdo M n p gg 1 rn mn pn rd rs pt sn) (nI 0) A)) := by
  have hS : bw_sm [M] A A := bw_sm.rf
  refine bw_C.of (by decide) (Nat.le_of_ble_eq_true rfl) rfl ?_
  refine bw_aload_n 1 dX10_row_0 rfl rfl ?_
  refine bw_iconst (0) 2 dX10_row_1 (by decide) rfl ?_
  refine bw_eqi (y := nI 0) rfl ?_
  refine bw_putU 5 dX10_row_2 rfl pX10_1 (hC.at 0 rfl) rfl rfl (Nat.le_of_ble_eq_true rfl) (fun A hU => ?_)
  have hC := hC.upd 0 rfl hU
  have hS := hS.upd hU (by simp)
  clear hU
  refine bw_iload_n 6 dX10_row_5 rfl rfl ?_
  refine bw_if_ge 17 9 dX10_row_6 rfl rfl (fun c6 => ?_) (fun c6 => ?_)
  · exact absurd h (Int32.not_lt.mpr c6)
  · refine bw_aload_n 10 dX10_row_9 rfl rfl ?_
    refine bw_iconst (1) 11 dX10_row_10 (by decide) rfl ?_
    refine bw_eqi (y := nI 1) rfl ?_
    refine bw_cVm 14 dX10_row_11 rfl vX10_118 (m_fail g hC) (hC.at 0 rfl) rfl rfl (Nat.le_of_ble_eq_true rfl) ⟨(Nat.le_of_ble_eq_true rfl), (Nat.le_of_ble_eq_true rfl)⟩ (Nat.le_of_ble_eq_true rfl) (Nat.le_of_ble_eq_true rfl) (fun x A hP => ?_)
    obtain ⟨h4, h5⟩ := hP
    subst h4
    have hC := hC.upd 0 rfl h5
    have hS := hS.upd h5 (by simp)
    refine bw_goto 35 dX10_row_14 rfl ?_
    refine bw_iret dX10_row_35 rfl (Nat.le_of_ble_eq_true rfl) (Nat.le_of_ble_eq_true rfl) ?_
    exact ⟨_, rfl, rfl, hS, hC.at 0 rfl⟩
theorem m_drop (g : bw_G) {A : bw_H} {M n p gg th rn mn pn rd rs pt sn : Nat} (hC : bw_has A [(M, mdo M n p gg th rn mn pn rd rs pt sn)]) : bw_C g (bw_rm 8 0 0) mX10_drop [.ref M] A (bw_pm (maR M [] (mdo M n p gg 0 0 mn pn rd rs pt sn) (nI rn) A)) := by
  have hS : bw_sm [M] A A := bw_sm.rf
  refine bw_C.of (by decide) (Nat.le_of_ble_eq_true rfl) rfl ?_
  refine bw_aload_n 1 dX10_drop_0 rfl rfl ?_
  refine bw_iconst (0) 2 dX10_drop_1 (by decide) rfl ?_
  refine bw_eqi (y := nI 0) rfl ?_
  refine bw_putU 5 dX10_drop_2 rfl pX10_1 (hC.at 0 rfl) rfl rfl (Nat.le_of_ble_eq_true rfl) (fun A hU => ?_)
  have hC := hC.upd 0 rfl hU
  have hS := hS.upd hU (by simp)
  clear hU
  refine bw_aload_n 6 dX10_drop_5 rfl rfl ?_
  refine bw_get 9 dX10_drop_6 rfl lX10_124 (hC.at 0 rfl) rfl ?_
  refine bw_istore_n 10 dX10_drop_9 rfl (by decide) ?_
  refine bw_aload_n 11 dX10_drop_10 rfl rfl ?_
  refine bw_iconst (0) 12 dX10_drop_11 (by decide) rfl ?_
  refine bw_eqi (y := nI 0) rfl ?_
  refine bw_putU 15 dX10_drop_12 rfl pX10_124 (hC.at 0 rfl) rfl rfl (Nat.le_of_ble_eq_true rfl) (fun A hU => ?_)
  have hC := hC.upd 0 rfl hU
  have hS := hS.upd hU (by simp)
  clear hU
  refine bw_iload_n 16 dX10_drop_15 rfl rfl ?_
  refine bw_iret dX10_drop_16 rfl (Nat.le_of_ble_eq_true rfl) (Nat.le_of_ble_eq_true rfl) ?_
  exact ⟨_, rfl, rfl, hS, hC.at 0 rfl⟩
theorem m_told0 (g : bw_G) {A : bw_H} {M n p gg th rn mn pn rd rs pt sn : Nat} (hC : bw_has A [(M, mdo M n p gg th rn mn pn rd rs pt sn)]) : bw_C g (bw_rm 8 0 0) mX10_told [.ref M, .int (nI 0)] A (bw_pm (maR M [] (mdo M n p gg 0 rn mn pn rd rs pt sn) (nI rn) A)) := by
  have hS : bw_sm [M] A A := bw_sm.rf
  refine bw_C.of (by decide) (Nat.le_of_ble_eq_true rfl) rfl ?_
  refine bw_aload_n 1 dX10_told_0 rfl rfl ?_
  refine bw_iconst (0) 2 dX10_told_1 (by decide) rfl ?_
  refine bw_eqi (y := nI 0) rfl ?_
  refine bw_putU 5 dX10_told_2 rfl pX10_1 (hC.at 0 rfl) rfl rfl (Nat.le_of_ble_eq_true rfl) (fun A hU => ?_)
  have hC := hC.upd 0 rfl hU
  have hS := hS.upd hU (by simp)
  clear hU
  refine bw_iload_n 6 dX10_told_5 rfl rfl ?_
  refine bw_if_ne 16 9 dX10_told_6 rfl rfl (fun c6 => ?_) (fun c6 => ?_)
  · exact absurd rfl c6
  · refine bw_aload_n 10 dX10_told_9 rfl rfl ?_
    refine bw_get 13 dX10_told_10 rfl lX10_124 (hC.at 0 rfl) rfl ?_
    refine bw_goto 57 dX10_told_13 rfl ?_
    refine bw_iret dX10_told_57 rfl (Nat.le_of_ble_eq_true rfl) (Nat.le_of_ble_eq_true rfl) ?_
    exact ⟨_, rfl, rfl, hS, hC.at 0 rfl⟩
theorem m_told1 (g : bw_G) {A : bw_H} {M n p gg th rn mn pn rd rs pt sn : Nat} (hC : bw_has A [(M, mdo M n p gg th rn mn pn rd rs pt sn)]) : bw_C g (bw_rm 8 0 0) mX10_told [.ref M, .int (nI 1)] A (bw_pm (maR M [] (mdo M n p gg 0 rn mn pn rd rs pt sn) (nI mn) A)) := by
  have hS : bw_sm [M] A A := bw_sm.rf
  refine bw_C.of (by decide) (Nat.le_of_ble_eq_true rfl) rfl ?_
  refine bw_aload_n 1 dX10_told_0 rfl rfl ?_
  refine bw_iconst (0) 2 dX10_told_1 (by decide) rfl ?_
  refine bw_eqi (y := nI 0) rfl ?_
  refine bw_putU 5 dX10_told_2 rfl pX10_1 (hC.at 0 rfl) rfl rfl (Nat.le_of_ble_eq_true rfl) (fun A hU => ?_)
  have hC := hC.upd 0 rfl hU
  have hS := hS.upd hU (by simp)
  clear hU
  refine bw_iload_n 6 dX10_told_5 rfl rfl ?_
  refine bw_if_ne 16 9 dX10_told_6 rfl rfl (fun c6 => ?_) (fun c6 => ?_)
  · skip
    refine bw_iload_n 17 dX10_told_16 rfl rfl ?_
    refine bw_iconst (1) 18 dX10_told_17 (by decide) rfl ?_
    refine bw_eqi (y := nI 1) rfl ?_
    refine bw_icmp_ne 28 21 dX10_told_18 rfl rfl (fun c18 => ?_) (fun c18 => ?_)
    · exact absurd rfl c18
    · refine bw_aload_n 22 dX10_told_21 rfl rfl ?_
      refine bw_get 25 dX10_told_22 rfl lX10_127 (hC.at 0 rfl) rfl ?_
      refine bw_goto 57 dX10_told_25 rfl ?_
      refine bw_iret dX10_told_57 rfl (Nat.le_of_ble_eq_true rfl) (Nat.le_of_ble_eq_true rfl) ?_
      exact ⟨_, rfl, rfl, hS, hC.at 0 rfl⟩
  · exact absurd c6 (by decide)
theorem m_told2 (g : bw_G) {A : bw_H} {M n p gg th rn mn pn rd rs pt sn : Nat} (hC : bw_has A [(M, mdo M n p gg th rn mn pn rd rs pt sn)]) : bw_C g (bw_rm 8 0 0) mX10_told [.ref M, .int (nI 2)] A (bw_pm (maR M [] (mdo M n p gg 0 rn mn pn rd rs pt sn) (nI pn) A)) := by
  have hS : bw_sm [M] A A := bw_sm.rf
  refine bw_C.of (by decide) (Nat.le_of_ble_eq_true rfl) rfl ?_
  refine bw_aload_n 1 dX10_told_0 rfl rfl ?_
  refine bw_iconst (0) 2 dX10_told_1 (by decide) rfl ?_
  refine bw_eqi (y := nI 0) rfl ?_
  refine bw_putU 5 dX10_told_2 rfl pX10_1 (hC.at 0 rfl) rfl rfl (Nat.le_of_ble_eq_true rfl) (fun A hU => ?_)
  have hC := hC.upd 0 rfl hU
  have hS := hS.upd hU (by simp)
  clear hU
  refine bw_iload_n 6 dX10_told_5 rfl rfl ?_
  refine bw_if_ne 16 9 dX10_told_6 rfl rfl (fun c6 => ?_) (fun c6 => ?_)
  · skip
    refine bw_iload_n 17 dX10_told_16 rfl rfl ?_
    refine bw_iconst (1) 18 dX10_told_17 (by decide) rfl ?_
    refine bw_eqi (y := nI 1) rfl ?_
    refine bw_icmp_ne 28 21 dX10_told_18 rfl rfl (fun c18 => ?_) (fun c18 => ?_)
    · skip
      refine bw_iload_n 29 dX10_told_28 rfl rfl ?_
      refine bw_iconst (2) 30 dX10_told_29 (by decide) rfl ?_
      refine bw_eqi (y := nI 2) rfl ?_
      refine bw_icmp_ne 40 33 dX10_told_30 rfl rfl (fun c30 => ?_) (fun c30 => ?_)
      · exact absurd rfl c30
      · refine bw_aload_n 34 dX10_told_33 rfl rfl ?_
        refine bw_get 37 dX10_told_34 rfl lX10_158 (hC.at 0 rfl) rfl ?_
        refine bw_goto 57 dX10_told_37 rfl ?_
        refine bw_iret dX10_told_57 rfl (Nat.le_of_ble_eq_true rfl) (Nat.le_of_ble_eq_true rfl) ?_
        exact ⟨_, rfl, rfl, hS, hC.at 0 rfl⟩
    · exact absurd c18 (by decide)
  · exact absurd c6 (by decide)
theorem m_told3 (g : bw_G) {A : bw_H} {M n p gg th rn mn pn rd rs pt sn : Nat} (hC : bw_has A [(M, mdo M n p gg th rn mn pn rd rs pt sn)]) : bw_C g (bw_rm 8 0 0) mX10_told [.ref M, .int (nI 3)] A (bw_pm (maR M [] (mdo M n p gg 0 rn mn pn rd rs pt sn) (nI sn) A)) := by
  have hS : bw_sm [M] A A := bw_sm.rf
  refine bw_C.of (by decide) (Nat.le_of_ble_eq_true rfl) rfl ?_
  refine bw_aload_n 1 dX10_told_0 rfl rfl ?_
  refine bw_iconst (0) 2 dX10_told_1 (by decide) rfl ?_
  refine bw_eqi (y := nI 0) rfl ?_
  refine bw_putU 5 dX10_told_2 rfl pX10_1 (hC.at 0 rfl) rfl rfl (Nat.le_of_ble_eq_true rfl) (fun A hU => ?_)
  have hC := hC.upd 0 rfl hU
  have hS := hS.upd hU (by simp)
  clear hU
  refine bw_iload_n 6 dX10_told_5 rfl rfl ?_
  refine bw_if_ne 16 9 dX10_told_6 rfl rfl (fun c6 => ?_) (fun c6 => ?_)
  · skip
    refine bw_iload_n 17 dX10_told_16 rfl rfl ?_
    refine bw_iconst (1) 18 dX10_told_17 (by decide) rfl ?_
    refine bw_eqi (y := nI 1) rfl ?_
    refine bw_icmp_ne 28 21 dX10_told_18 rfl rfl (fun c18 => ?_) (fun c18 => ?_)
    · skip
      refine bw_iload_n 29 dX10_told_28 rfl rfl ?_
      refine bw_iconst (2) 30 dX10_told_29 (by decide) rfl ?_
      refine bw_eqi (y := nI 2) rfl ?_
      refine bw_icmp_ne 40 33 dX10_told_30 rfl rfl (fun c30 => ?_) (fun c30 => ?_)
      · skip
        refine bw_iload_n 41 dX10_told_40 rfl rfl ?_
        refine bw_iconst (3) 42 dX10_told_41 (by decide) rfl ?_
        refine bw_eqi (y := nI 3) rfl ?_
        refine bw_icmp_ne 52 45 dX10_told_42 rfl rfl (fun c42 => ?_) (fun c42 => ?_)
        · exact absurd rfl c42
        · refine bw_aload_n 46 dX10_told_45 rfl rfl ?_
          refine bw_get 49 dX10_told_46 rfl lX10_208 (hC.at 0 rfl) rfl ?_
          refine bw_goto 57 dX10_told_49 rfl ?_
          refine bw_iret dX10_told_57 rfl (Nat.le_of_ble_eq_true rfl) (Nat.le_of_ble_eq_true rfl) ?_
          exact ⟨_, rfl, rfl, hS, hC.at 0 rfl⟩
      · exact absurd c30 (by decide)
    · exact absurd c18 (by decide)
  · exact absurd c6 (by decide)
theorem m_toldX (g : bw_G) {A : bw_H} {M n p gg th rn mn pn rd rs pt sn : Nat} {w : Int32} (hC : bw_has A [(M, mdo M n p gg th rn mn pn rd rs pt sn)]) (h0 : ¬ w = 0) (h1 : ¬ w = nI 1) (h2 : ¬ w = nI 2) (h3 : ¬ w = nI 3) : bw_C g (bw_rm 8 0 0) mX10_told [.ref M, .int w] A (bw_pm (maR M [] (mdo M n p gg 1 rn mn pn rd rs pt sn) (nI 0) A)) := by
  have hS : bw_sm [M] A A := bw_sm.rf
  refine bw_C.of (by decide) (Nat.le_of_ble_eq_true rfl) rfl ?_
  refine bw_aload_n 1 dX10_told_0 rfl rfl ?_
  refine bw_iconst (0) 2 dX10_told_1 (by decide) rfl ?_
  refine bw_eqi (y := nI 0) rfl ?_
  refine bw_putU 5 dX10_told_2 rfl pX10_1 (hC.at 0 rfl) rfl rfl (Nat.le_of_ble_eq_true rfl) (fun A hU => ?_)
  have hC := hC.upd 0 rfl hU
  have hS := hS.upd hU (by simp)
  clear hU
  refine bw_iload_n 6 dX10_told_5 rfl rfl ?_
  refine bw_if_ne 16 9 dX10_told_6 rfl rfl (fun c6 => ?_) (fun c6 => ?_)
  · skip
    refine bw_iload_n 17 dX10_told_16 rfl rfl ?_
    refine bw_iconst (1) 18 dX10_told_17 (by decide) rfl ?_
    refine bw_eqi (y := nI 1) rfl ?_
    refine bw_icmp_ne 28 21 dX10_told_18 rfl rfl (fun c18 => ?_) (fun c18 => ?_)
    · skip
      refine bw_iload_n 29 dX10_told_28 rfl rfl ?_
      refine bw_iconst (2) 30 dX10_told_29 (by decide) rfl ?_
      refine bw_eqi (y := nI 2) rfl ?_
      refine bw_icmp_ne 40 33 dX10_told_30 rfl rfl (fun c30 => ?_) (fun c30 => ?_)
      · skip
        refine bw_iload_n 41 dX10_told_40 rfl rfl ?_
        refine bw_iconst (3) 42 dX10_told_41 (by decide) rfl ?_
        refine bw_eqi (y := nI 3) rfl ?_
        refine bw_icmp_ne 52 45 dX10_told_42 rfl rfl (fun c42 => ?_) (fun c42 => ?_)
        · skip
          refine bw_aload_n 53 dX10_told_52 rfl rfl ?_
          refine bw_iconst (1) 54 dX10_told_53 (by decide) rfl ?_
          refine bw_eqi (y := nI 1) rfl ?_
          refine bw_cVm 57 dX10_told_54 rfl vX10_118 (m_fail g hC) (hC.at 0 rfl) rfl rfl (Nat.le_of_ble_eq_true rfl) ⟨(Nat.le_of_ble_eq_true rfl), (Nat.le_of_ble_eq_true rfl)⟩ (Nat.le_of_ble_eq_true rfl) (Nat.le_of_ble_eq_true rfl) (fun x A hP => ?_)
          obtain ⟨h4, h5⟩ := hP
          subst h4
          have hC := hC.upd 0 rfl h5
          have hS := hS.upd h5 (by simp)
          refine bw_iret dX10_told_57 rfl (Nat.le_of_ble_eq_true rfl) (Nat.le_of_ble_eq_true rfl) ?_
          exact ⟨_, rfl, rfl, hS, hC.at 0 rfl⟩
        · exact absurd c42 h3
      · exact absurd c30 h2
    · exact absurd c18 h1
  · exact absurd c6 h0
