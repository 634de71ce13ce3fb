/-! the reference: members, the row -/
abbrev mdo (M n p gg th rn mn pn rd rs pt sn : Nat) : va_E := .inr (12, [.int (nI n), .int (nI p), .int (nI (2 ^ n)), .int (nI gg), .int (nI th), .int (nI rn), .ref (M + 1), .int (nI mn), .ref (M + 2), .ref (M + 3), .ref (M + 4), .ref (M + 5), .ref (M + 6), .ref (M + 7), .int (nI pn), .ref (M + 8), .ref (M + 9), .ref (M + 10), .ref (M + 11), .ref (M + 12), .ref (M + 13), .int (tI rd), .int (nI rs), .ref (M + 14), .int (tI pt), .ref (M + 15), .ref (M + 16), .ref (M + 17), .int (nI sn), .ref (M + 18)])
theorem m_fail (g : bw_G) {A : bw_H} {M n p gg th rn mn pn rd rs pt sn w : Nat} (hC : bw_has A [(M, mdo M n p gg th rn mn pn rd rs pt sn)]) : bw_C g (bw_rm 0 0 0) mX10_fail [.ref M, .int (nI w)] A (bw_pm (fun y A' => y = nI 0 ∧ A' = bw_up A M (mdo M n p gg w rn mn pn rd rs pt sn))) := by
  refine bw_C.of (by decide) (Nat.le_of_ble_eq_true rfl) rfl ?_
  refine bw_aload_n 1 dX10_fail_0 rfl rfl ?_
  refine bw_iload_n 2 dX10_fail_1 rfl rfl ?_
  refine bw_putU 5 dX10_fail_2 rfl pX10_1 (hC.at 0 rfl) rfl rfl (Nat.le_of_ble_eq_true rfl) (fun A hU => ?_)
  skip
  refine bw_iconst (0) 6 dX10_fail_5 (by decide) rfl ?_
  refine bw_eqi (y := nI 0) rfl ?_
  refine bw_iret dX10_fail_6 rfl (Nat.le_of_ble_eq_true rfl) (Nat.le_of_ble_eq_true rfl) ?_
  exact ⟨_, rfl, rfl, hU⟩
theorem m_thrown (g : bw_G) {A : bw_H} {M n p gg th rn mn pn rd rs pt sn : Nat} (hC : bw_has A [(M, mdo M n p gg th rn mn pn rd rs pt sn)]) : bw_C g (bw_rm 8 0 0) mX10_thrown [.ref M] A (bw_pi (nI th) A) := by
  refine bw_C.of (by decide) (Nat.le_of_ble_eq_true rfl) rfl ?_
  refine bw_aload_n 1 dX10_thrown_0 rfl rfl ?_
  refine bw_get 4 dX10_thrown_1 rfl lX10_1 (hC.at 0 rfl) rfl ?_
  refine bw_iret dX10_thrown_4 rfl (Nat.le_of_ble_eq_true rfl) (Nat.le_of_ble_eq_true rfl) ?_
  exact ⟨rfl, rfl⟩
theorem m_isMember (g : bw_G) {A : bw_H} {M n p gg th rn mn pn rd rs pt sn : Nat} {a : Int32} (hC : bw_has A [(M, mdo M n p gg th rn mn pn rd rs pt sn)]) (h : mI n a) : bw_C g (bw_rm 0 0 0) mX10_isMember [.ref M, .int a] A (bw_pi (nI 1) A) := by
  refine bw_C.of (by decide) (Nat.le_of_ble_eq_true rfl) rfl ?_
  refine bw_iload_n 1 dX10_isMember_0 rfl rfl ?_
  refine bw_if_lt 16 4 dX10_isMember_1 rfl rfl (fun c1 => ?_) (fun c1 => ?_)
  · exact absurd c1 h.1
  · refine bw_iload_n 5 dX10_isMember_4 rfl rfl ?_
    refine bw_aload_n 6 dX10_isMember_5 rfl rfl ?_
    refine bw_get 9 dX10_isMember_6 rfl lX10_78 (hC.at 0 rfl) rfl ?_
    refine bw_icmp_ge 16 12 dX10_isMember_9 rfl rfl (fun c9 => ?_) (fun c9 => ?_)
    · exact absurd h.2 (Int32.not_lt.mpr c9)
    · refine bw_iconst (1) 13 dX10_isMember_12 (by decide) rfl ?_
      refine bw_eqi (y := nI 1) rfl ?_
      refine bw_goto 17 dX10_isMember_13 rfl ?_
      refine bw_zret dX10_isMember_17 rfl (by first | decide | assumption) (Nat.le_of_ble_eq_true rfl) (Nat.le_of_ble_eq_true rfl) ?_
      exact ⟨rfl, rfl⟩
theorem m_isMemberX (g : bw_G) {A : bw_H} {M n p gg th rn mn pn rd rs pt sn : Nat} {a : Int32} (hC : bw_has A [(M, mdo M n p gg th rn mn pn rd rs pt sn)]) (h : ¬ mI n a) : bw_C g (bw_rm 0 0 0) mX10_isMember [.ref M, .int a] A (bw_pi (nI 0) A) := by
  refine bw_C.of (by decide) (Nat.le_of_ble_eq_true rfl) rfl ?_
  refine bw_iload_n 1 dX10_isMember_0 rfl rfl ?_
  refine bw_if_lt 16 4 dX10_isMember_1 rfl rfl (fun c1 => ?_) (fun c1 => ?_)
  · skip
    refine bw_iconst (0) 17 dX10_isMember_16 (by decide) rfl ?_
    refine bw_eqi (y := nI 0) rfl ?_
    refine bw_zret dX10_isMember_17 rfl (by first | decide | assumption) (Nat.le_of_ble_eq_true rfl) (Nat.le_of_ble_eq_true rfl) ?_
    exact ⟨rfl, rfl⟩
  · refine bw_iload_n 5 dX10_isMember_4 rfl rfl ?_
    refine bw_aload_n 6 dX10_isMember_5 rfl rfl ?_
    refine bw_get 9 dX10_isMember_6 rfl lX10_78 (hC.at 0 rfl) rfl ?_
    refine bw_icmp_ge 16 12 dX10_isMember_9 rfl rfl (fun c9 => ?_) (fun c9 => ?_)
    · skip
      refine bw_iconst (0) 17 dX10_isMember_16 (by decide) rfl ?_
      refine bw_eqi (y := nI 0) rfl ?_
      refine bw_zret dX10_isMember_17 rfl (by first | decide | assumption) (Nat.le_of_ble_eq_true rfl) (Nat.le_of_ble_eq_true rfl) ?_
      exact ⟨rfl, rfl⟩
    · exact absurd ⟨c1, Int32.not_le.mp c9⟩ h
theorem m_isSize (g : bw_G) {A : bw_H} {a : Int32} (h : sI a) : bw_C g (bw_rm 0 0 0) mX10_isSize [.int a] A (bw_pi (nI 1) A) := by
  refine bw_C.of (by decide) (Nat.le_of_ble_eq_true rfl) rfl ?_
  refine bw_iload_n 1 dX10_isSize_0 rfl rfl ?_
  refine bw_iconst (1) 2 dX10_isSize_1 (by decide) rfl ?_
  refine bw_eqi (y := nI 1) rfl ?_
  refine bw_icmp_lt 15 5 dX10_isSize_2 rfl rfl (fun c2 => ?_) (fun c2 => ?_)
  · exact absurd c2 h.1
  · refine bw_iload_n 6 dX10_isSize_5 rfl rfl ?_
    refine bw_bipush (8) 8 dX10_isSize_6 (by decide) rfl ?_
    refine bw_eqi (y := nI 8) rfl ?_
    refine bw_icmp_gt 15 11 dX10_isSize_8 rfl rfl (fun c8 => ?_) (fun c8 => ?_)
    · exact absurd h.2 (Int32.not_le.mpr c8)
    · refine bw_iconst (1) 12 dX10_isSize_11 (by decide) rfl ?_
      refine bw_eqi (y := nI 1) rfl ?_
      refine bw_goto 16 dX10_isSize_12 rfl ?_
      refine bw_zret dX10_isSize_16 rfl (by first | decide | assumption) (Nat.le_of_ble_eq_true rfl) (Nat.le_of_ble_eq_true rfl) ?_
      exact ⟨rfl, rfl⟩
theorem m_isSizeX (g : bw_G) {A : bw_H} {a : Int32} (h : ¬ sI a) : bw_C g (bw_rm 0 0 0) mX10_isSize [.int a] A (bw_pi (nI 0) A) := by
  refine bw_C.of (by decide) (Nat.le_of_ble_eq_true rfl) rfl ?_
  refine bw_iload_n 1 dX10_isSize_0 rfl rfl ?_
  refine bw_iconst (1) 2 dX10_isSize_1 (by decide) rfl ?_
  refine bw_eqi (y := nI 1) rfl ?_
  refine bw_icmp_lt 15 5 dX10_isSize_2 rfl rfl (fun c2 => ?_) (fun c2 => ?_)
  · skip
    refine bw_iconst (0) 16 dX10_isSize_15 (by decide) rfl ?_
    refine bw_eqi (y := nI 0) rfl ?_
    refine bw_zret dX10_isSize_16 rfl (by first | decide | assumption) (Nat.le_of_ble_eq_true rfl) (Nat.le_of_ble_eq_true rfl) ?_
    exact ⟨rfl, rfl⟩
  · refine bw_iload_n 6 dX10_isSize_5 rfl rfl ?_
    refine bw_bipush (8) 8 dX10_isSize_6 (by decide) rfl ?_
    refine bw_eqi (y := nI 8) rfl ?_
    refine bw_icmp_gt 15 11 dX10_isSize_8 rfl rfl (fun c8 => ?_) (fun c8 => ?_)
    · skip
      refine bw_iconst (0) 16 dX10_isSize_15 (by decide) rfl ?_
      refine bw_eqi (y := nI 0) rfl ?_
      refine bw_zret dX10_isSize_16 rfl (by first | decide | assumption) (Nat.le_of_ble_eq_true rfl) (Nat.le_of_ble_eq_true rfl) ?_
      exact ⟨rfl, rfl⟩
    · exact absurd ⟨c2, Int32.not_lt.mp c8⟩ h
theorem m_isMatrix (g : bw_G) {A : bw_H} {M n p gg th rn mn pn rd rs pt sn : Nat} {a : Int32} (hC : bw_has A [(M, mdo M n p gg th rn mn pn rd rs pt sn)]) (h : kI mn a) : bw_C g (bw_rm 0 0 0) mX10_isMatrix [.ref M, .int a] A (bw_pi (nI 1) A) := by
  refine bw_C.of (by decide) (Nat.le_of_ble_eq_true rfl) rfl ?_
  refine bw_iload_n 1 dX10_isMatrix_0 rfl rfl ?_
  refine bw_if_lt 16 4 dX10_isMatrix_1 rfl rfl (fun c1 => ?_) (fun c1 => ?_)
  · exact absurd c1 h.1
  · refine bw_iload_n 5 dX10_isMatrix_4 rfl rfl ?_
    refine bw_aload_n 6 dX10_isMatrix_5 rfl rfl ?_
    refine bw_get 9 dX10_isMatrix_6 rfl lX10_127 (hC.at 0 rfl) rfl ?_
    refine bw_icmp_ge 16 12 dX10_isMatrix_9 rfl rfl (fun c9 => ?_) (fun c9 => ?_)
    · exact absurd h.2 (Int32.not_lt.mpr c9)
    · refine bw_iconst (1) 13 dX10_isMatrix_12 (by decide) rfl ?_
      refine bw_eqi (y := nI 1) rfl ?_
      refine bw_goto 17 dX10_isMatrix_13 rfl ?_
      refine bw_zret dX10_isMatrix_17 rfl (by first | decide | assumption) (Nat.le_of_ble_eq_true rfl) (Nat.le_of_ble_eq_true rfl) ?_
      exact ⟨rfl, rfl⟩
theorem m_isMatrixX (g : bw_G) {A : bw_H} {M n p gg th rn mn pn rd rs pt sn : Nat} {a : Int32} (hC : bw_has A [(M, mdo M n p gg th rn mn pn rd rs pt sn)]) (h : ¬ kI mn a) : bw_C g (bw_rm 0 0 0) mX10_isMatrix [.ref M, .int a] A (bw_pi (nI 0) A) := by
  refine bw_C.of (by decide) (Nat.le_of_ble_eq_true rfl) rfl ?_
  refine bw_iload_n 1 dX10_isMatrix_0 rfl rfl ?_
  refine bw_if_lt 16 4 dX10_isMatrix_1 rfl rfl (fun c1 => ?_) (fun c1 => ?_)
  · skip
    refine bw_iconst (0) 17 dX10_isMatrix_16 (by decide) rfl ?_
    refine bw_eqi (y := nI 0) rfl ?_
    refine bw_zret dX10_isMatrix_17 rfl (by first | decide | assumption) (Nat.le_of_ble_eq_true rfl) (Nat.le_of_ble_eq_true rfl) ?_
    exact ⟨rfl, rfl⟩
  · refine bw_iload_n 5 dX10_isMatrix_4 rfl rfl ?_
    refine bw_aload_n 6 dX10_isMatrix_5 rfl rfl ?_
    refine bw_get 9 dX10_isMatrix_6 rfl lX10_127 (hC.at 0 rfl) rfl ?_
    refine bw_icmp_ge 16 12 dX10_isMatrix_9 rfl rfl (fun c9 => ?_) (fun c9 => ?_)
    · skip
      refine bw_iconst (0) 17 dX10_isMatrix_16 (by decide) rfl ?_
      refine bw_eqi (y := nI 0) rfl ?_
      refine bw_zret dX10_isMatrix_17 rfl (by first | decide | assumption) (Nat.le_of_ble_eq_true rfl) (Nat.le_of_ble_eq_true rfl) ?_
      exact ⟨rfl, rfl⟩
    · exact absurd ⟨c1, Int32.not_le.mp c9⟩ h
theorem m_isPolynomial (g : bw_G) {A : bw_H} {M n p gg th rn mn pn rd rs pt sn : Nat} {a : Int32} (hC : bw_has A [(M, mdo M n p gg th rn mn pn rd rs pt sn)]) (h : kI pn a) : bw_C g (bw_rm 0 0 0) mX10_isPolynomial [.ref M, .int a] A (bw_pi (nI 1) A) := by
  refine bw_C.of (by decide) (Nat.le_of_ble_eq_true rfl) rfl ?_
  refine bw_iload_n 1 dX10_isPolynomial_0 rfl rfl ?_
  refine bw_if_lt 16 4 dX10_isPolynomial_1 rfl rfl (fun c1 => ?_) (fun c1 => ?_)
  · exact absurd c1 h.1
  · refine bw_iload_n 5 dX10_isPolynomial_4 rfl rfl ?_
    refine bw_aload_n 6 dX10_isPolynomial_5 rfl rfl ?_
    refine bw_get 9 dX10_isPolynomial_6 rfl lX10_158 (hC.at 0 rfl) rfl ?_
    refine bw_icmp_ge 16 12 dX10_isPolynomial_9 rfl rfl (fun c9 => ?_) (fun c9 => ?_)
    · exact absurd h.2 (Int32.not_lt.mpr c9)
    · refine bw_iconst (1) 13 dX10_isPolynomial_12 (by decide) rfl ?_
      refine bw_eqi (y := nI 1) rfl ?_
      refine bw_goto 17 dX10_isPolynomial_13 rfl ?_
      refine bw_zret dX10_isPolynomial_17 rfl (by first | decide | assumption) (Nat.le_of_ble_eq_true rfl) (Nat.le_of_ble_eq_true rfl) ?_
      exact ⟨rfl, rfl⟩
theorem m_isPolynomialX (g : bw_G) {A : bw_H} {M n p gg th rn mn pn rd rs pt sn : Nat} {a : Int32} (hC : bw_has A [(M, mdo M n p gg th rn mn pn rd rs pt sn)]) (h : ¬ kI pn a) : bw_C g (bw_rm 0 0 0) mX10_isPolynomial [.ref M, .int a] A (bw_pi (nI 0) A) := by
  refine bw_C.of (by decide) (Nat.le_of_ble_eq_true rfl) rfl ?_
  refine bw_iload_n 1 dX10_isPolynomial_0 rfl rfl ?_
  refine bw_if_lt 16 4 dX10_isPolynomial_1 rfl rfl (fun c1 => ?_) (fun c1 => ?_)
  · skip
    refine bw_iconst (0) 17 dX10_isPolynomial_16 (by decide) rfl ?_
    refine bw_eqi (y := nI 0) rfl ?_
    refine bw_zret dX10_isPolynomial_17 rfl (by first | decide | assumption) (Nat.le_of_ble_eq_true rfl) (Nat.le_of_ble_eq_true rfl) ?_
    exact ⟨rfl, rfl⟩
  · refine bw_iload_n 5 dX10_isPolynomial_4 rfl rfl ?_
    refine bw_aload_n 6 dX10_isPolynomial_5 rfl rfl ?_
    refine bw_get 9 dX10_isPolynomial_6 rfl lX10_158 (hC.at 0 rfl) rfl ?_
    refine bw_icmp_ge 16 12 dX10_isPolynomial_9 rfl rfl (fun c9 => ?_) (fun c9 => ?_)
    · skip
      refine bw_iconst (0) 17 dX10_isPolynomial_16 (by decide) rfl ?_
      refine bw_eqi (y := nI 0) rfl ?_
      refine bw_zret dX10_isPolynomial_17 rfl (by first | decide | assumption) (Nat.le_of_ble_eq_true rfl) (Nat.le_of_ble_eq_true rfl) ?_
      exact ⟨rfl, rfl⟩
    · exact absurd ⟨c1, Int32.not_le.mp c9⟩ h
theorem m_at (g : bw_G) {A : bw_H} {M m i j : Nat} : bw_C g (bw_rm 0 0 0) mX10_at [.ref M, .int (nI m), .int (nI i), .int (nI j)] A (bw_pi (nI (64 * m + 8 * i + j)) A) := by
  refine bw_C.of (by decide) (Nat.le_of_ble_eq_true rfl) rfl ?_
  refine bw_bipush (64) 2 dX10_at_0 (by decide) rfl ?_
  refine bw_eqi (y := nI 64) rfl ?_
  refine bw_iload_n 3 dX10_at_2 rfl rfl ?_
  refine bw_imul 4 dX10_at_3 rfl ?_
  refine bw_eqi (pk_mul 64 m) ?_
  refine bw_bipush (8) 6 dX10_at_4 (by decide) rfl ?_
  refine bw_eqi (y := nI 8) rfl ?_
  refine bw_iload_n 7 dX10_at_6 rfl rfl ?_
  refine bw_imul 8 dX10_at_7 rfl ?_
  refine bw_eqi (pk_mul 8 i) ?_
  refine bw_iadd 9 dX10_at_8 rfl ?_
  refine bw_eqi (nI_add (64 * m) (8 * i)) ?_
  refine bw_iload_n 10 dX10_at_9 rfl rfl ?_
  refine bw_iadd 11 dX10_at_10 rfl ?_
  refine bw_eqi (nI_add (64 * m + 8 * i) j) ?_
  refine bw_iret dX10_at_11 rfl (Nat.le_of_ble_eq_true rfl) (Nat.le_of_ble_eq_true rfl) ?_
  exact ⟨rfl, rfl⟩
/-- the reference's answer: a number, what it says was thrown, its object -/
def maR (M : Nat) (L : List Nat) (e : va_E) (v : Int32) (A0 : bw_H) (y : Int32) (A' : bw_H) : Prop := y = v ∧ bw_sm (M :: L) A0 A' ∧ A'.2 M = some e
theorem m_poly (g : bw_G) {A : bw_H} {M n p gg th rn mn pn rd rs pt sn : Nat} (hC : bw_has A [(M, mdo M n p gg th rn mn pn rd rs pt sn)]) : bw_C g (bw_rm 8 0 0) mX10_poly [.ref M] A (bw_pm (maR M [] (mdo M n p gg 0 rn mn pn rd rs pt sn) (nI p) A)) := by
  have hS : bw_sm [M] A A := bw_sm.rf
  refine bw_C.of (by decide) (Nat.le_of_ble_eq_true rfl) rfl ?_
  refine bw_aload_n 1 dX10_poly_0 rfl rfl ?_
  refine bw_iconst (0) 2 dX10_poly_1 (by decide) rfl ?_
  refine bw_eqi (y := nI 0) rfl ?_
  refine bw_putU 5 dX10_poly_2 rfl pX10_1 (hC.at 0 rfl) rfl rfl (Nat.le_of_ble_eq_true rfl) (fun A hU => ?_)
  have hC := hC.upd 0 rfl hU
  have hS := hS.upd hU (by simp)
  clear hU
  refine bw_aload_n 6 dX10_poly_5 rfl rfl ?_
  refine bw_get 9 dX10_poly_6 rfl lX10_81 (hC.at 0 rfl) rfl ?_
  refine bw_iret dX10_poly_9 rfl (Nat.le_of_ble_eq_true rfl) (Nat.le_of_ble_eq_true rfl) ?_
  exact ⟨_, rfl, rfl, hS, hC.at 0 rfl⟩
theorem m_generator (g : bw_G) {A : bw_H} {M n p gg th rn mn pn rd rs pt sn : Nat} (hC : bw_has A [(M, mdo M n p gg th rn mn pn rd rs pt sn)]) : bw_C g (bw_rm 8 0 0) mX10_generator [.ref M] A (bw_pm (maR M [] (mdo M n p gg 0 rn mn pn rd rs pt sn) (nI gg) A)) := by
  have hS : bw_sm [M] A A := bw_sm.rf
  refine bw_C.of (by decide) (Nat.le_of_ble_eq_true rfl) rfl ?_
  refine bw_aload_n 1 dX10_generator_0 rfl rfl ?_
  refine bw_iconst (0) 2 dX10_generator_1 (by decide) rfl ?_
  refine bw_eqi (y := nI 0) rfl ?_
  refine bw_putU 5 dX10_generator_2 rfl pX10_1 (hC.at 0 rfl) rfl rfl (Nat.le_of_ble_eq_true rfl) (fun A hU => ?_)
  have hC := hC.upd 0 rfl hU
  have hS := hS.upd hU (by simp)
  clear hU
  refine bw_aload_n 6 dX10_generator_5 rfl rfl ?_
  refine bw_get 9 dX10_generator_6 rfl lX10_88 (hC.at 0 rfl) rfl ?_
  refine bw_iret dX10_generator_9 rfl (Nat.le_of_ble_eq_true rfl) (Nat.le_of_ble_eq_true rfl) ?_
  exact ⟨_, rfl, rfl, hS, hC.at 0 rfl⟩
theorem m_product (g : bw_G) {A : bw_H} {M n p gg th rn mn pn rd rs pt sn a b : Nat} (hG : GFg n p gg) (hC : bw_has A [(M, mdo M n p gg th rn mn pn rd rs pt sn)]) (ha : a < 2 ^ n) (hb : b < 2 ^ n) : bw_C g (bw_rm 8 0 0) mX10_product [.ref M, .int (nI a), .int (nI b)] A (bw_pm (maR M [] (mdo M n p gg 0 rn mn pn rd rs pt sn) (nI (gm n (2 ^ n ||| p) a b)) A)) := by
  have hS : bw_sm [M] A A := bw_sm.rf
  refine bw_C.of (by decide) (Nat.le_of_ble_eq_true rfl) rfl ?_
  refine bw_aload_n 1 dX10_product_0 rfl rfl ?_
  refine bw_iconst (0) 2 dX10_product_1 (by decide) rfl ?_
  refine bw_eqi (y := nI 0) rfl ?_
  refine bw_putU 5 dX10_product_2 rfl pX10_1 (hC.at 0 rfl) rfl rfl (Nat.le_of_ble_eq_true rfl) (fun A hU => ?_)
  have hC := hC.upd 0 rfl hU
  have hS := hS.upd hU (by simp)
  clear hU
  refine bw_aload_n 6 dX10_product_5 rfl rfl ?_
  refine bw_iload_n 7 dX10_product_6 rfl rfl ?_
  refine bw_cVi 10 dX10_product_7 rfl vX10_115 (m_isMember g hC (mI_nI hG.p16 ha)) (hC.at 0 rfl) rfl rfl (Nat.le_of_ble_eq_true rfl) ⟨(Nat.le_of_ble_eq_true rfl), (Nat.le_of_ble_eq_true rfl)⟩ (Nat.le_of_ble_eq_true rfl) (Nat.le_of_ble_eq_true rfl) ?_
  refine bw_if_eq 30 13 dX10_product_10 rfl rfl (fun c10 => ?_) (fun c10 => ?_)
  · exact absurd c10 (by decide)
  · refine bw_aload_n 14 dX10_product_13 rfl rfl ?_
    refine bw_iload_n 15 dX10_product_14 rfl rfl ?_
    refine bw_cVi 18 dX10_product_15 rfl vX10_115 (m_isMember g hC (mI_nI hG.p16 hb)) (hC.at 0 rfl) rfl rfl (Nat.le_of_ble_eq_true rfl) ⟨(Nat.le_of_ble_eq_true rfl), (Nat.le_of_ble_eq_true rfl)⟩ (Nat.le_of_ble_eq_true rfl) (Nat.le_of_ble_eq_true rfl) ?_
    refine bw_if_eq 30 21 dX10_product_18 rfl rfl (fun c18 => ?_) (fun c18 => ?_)
    · exact absurd c18 (by decide)
    · refine bw_aload_n 22 dX10_product_21 rfl rfl ?_
      refine bw_iload_n 23 dX10_product_22 rfl rfl ?_
      refine bw_iload_n 24 dX10_product_23 rfl rfl ?_
      refine bw_cVi 27 dX10_product_24 rfl vX10_102 (c10_mul g hG.n16 hC rfl rfl hG.2.1 ha hb) (hC.at 0 rfl) rfl rfl (Nat.le_of_ble_eq_true rfl) ⟨(Nat.le_of_ble_eq_true rfl), (Nat.le_of_ble_eq_true rfl)⟩ (Nat.le_of_ble_eq_true rfl) (Nat.le_of_ble_eq_true rfl) ?_
      refine bw_goto 35 dX10_product_27 rfl ?_
      refine bw_iret dX10_product_35 rfl (Nat.le_of_ble_eq_true rfl) (Nat.le_of_ble_eq_true rfl) ?_
      exact ⟨_, rfl, rfl, hS, hC.at 0 rfl⟩
theorem m_productX (g : bw_G) {A : bw_H} {M n p gg th rn mn pn rd rs pt sn : Nat} {a b : Int32} (hC : bw_has A [(M, mdo M n p gg th rn mn pn rd rs pt sn)]) (h : ¬ (mI n a ∧ mI n b)) : bw_C g (bw_rm 8 0 0) mX10_product [.ref M, .int a, .int b] A (bw_pm (maR M [] (mdo M n p gg 1 rn mn pn rd rs pt sn) (nI 0) A)) := by
  have hS : bw_sm [M] A A := bw_sm.rf
  refine bw_C.of (by decide) (Nat.le_of_ble_eq_true rfl) rfl ?_
  by_cases ha : mI n a
  · skip
    refine bw_aload_n 1 dX10_product_0 rfl rfl ?_
    refine bw_iconst (0) 2 dX10_product_1 (by decide) rfl ?_
    refine bw_eqi (y := nI 0) rfl ?_
    refine bw_putU 5 dX10_product_2 rfl pX10_1 (hC.at 0 rfl) rfl rfl (Nat.le_of_ble_eq_true rfl) (fun A hU => ?_)
    have hC := hC.upd 0 rfl hU
    have hS := hS.upd hU (by simp)
    clear hU
    refine bw_aload_n 6 dX10_product_5 rfl rfl ?_
    refine bw_iload_n 7 dX10_product_6 rfl rfl ?_
    refine bw_cVi 10 dX10_product_7 rfl vX10_115 (m_isMember g hC ha) (hC.at 0 rfl) rfl rfl (Nat.le_of_ble_eq_true rfl) ⟨(Nat.le_of_ble_eq_true rfl), (Nat.le_of_ble_eq_true rfl)⟩ (Nat.le_of_ble_eq_true rfl) (Nat.le_of_ble_eq_true rfl) ?_
    refine bw_if_eq 30 13 dX10_product_10 rfl rfl (fun c10 => ?_) (fun c10 => ?_)
    · exact absurd c10 (by decide)
    · refine bw_aload_n 14 dX10_product_13 rfl rfl ?_
      refine bw_iload_n 15 dX10_product_14 rfl rfl ?_
      refine bw_cVi 18 dX10_product_15 rfl vX10_115 (m_isMemberX g hC (fun hb => h ⟨ha, hb⟩)) (hC.at 0 rfl) rfl rfl (Nat.le_of_ble_eq_true rfl) ⟨(Nat.le_of_ble_eq_true rfl), (Nat.le_of_ble_eq_true rfl)⟩ (Nat.le_of_ble_eq_true rfl) (Nat.le_of_ble_eq_true rfl) ?_
      refine bw_if_eq 30 21 dX10_product_18 rfl rfl (fun c18 => ?_) (fun c18 => ?_)
      · skip
        refine bw_aload_n 31 dX10_product_30 rfl rfl ?_
        refine bw_iconst (1) 32 dX10_product_31 (by decide) rfl ?_
        refine bw_eqi (y := nI 1) rfl ?_
        refine bw_cVm 35 dX10_product_32 rfl vX10_118 (m_fail g hC) (hC.at 0 rfl) rfl rfl (Nat.le_of_ble_eq_true rfl) ⟨(Nat.le_of_ble_eq_true rfl), (Nat.le_of_ble_eq_true rfl)⟩ (Nat.le_of_ble_eq_true rfl) (Nat.le_of_ble_eq_true rfl) (fun x A hP => ?_)
        obtain ⟨h4, h5⟩ := hP
        subst h4
        have hC := hC.upd 0 rfl h5
        have hS := hS.upd h5 (by simp)
        refine bw_iret dX10_product_35 rfl (Nat.le_of_ble_eq_true rfl) (Nat.le_of_ble_eq_true rfl) ?_
        exact ⟨_, rfl, rfl, hS, hC.at 0 rfl⟩
      · exact absurd rfl c18
  · skip
    refine bw_aload_n 1 dX10_product_0 rfl rfl ?_
    refine bw_iconst (0) 2 dX10_product_1 (by decide) rfl ?_
    refine bw_eqi (y := nI 0) rfl ?_
    refine bw_putU 5 dX10_product_2 rfl pX10_1 (hC.at 0 rfl) rfl rfl (Nat.le_of_ble_eq_true rfl) (fun A hU => ?_)
    have hC := hC.upd 0 rfl hU
    have hS := hS.upd hU (by simp)
    clear hU
    refine bw_aload_n 6 dX10_product_5 rfl rfl ?_
    refine bw_iload_n 7 dX10_product_6 rfl rfl ?_
    refine bw_cVi 10 dX10_product_7 rfl vX10_115 (m_isMemberX g hC ha) (hC.at 0 rfl) rfl rfl (Nat.le_of_ble_eq_true rfl) ⟨(Nat.le_of_ble_eq_true rfl), (Nat.le_of_ble_eq_true rfl)⟩ (Nat.le_of_ble_eq_true rfl) (Nat.le_of_ble_eq_true rfl) ?_
    refine bw_if_eq 30 13 dX10_product_10 rfl rfl (fun c10 => ?_) (fun c10 => ?_)
    · skip
      refine bw_aload_n 31 dX10_product_30 rfl rfl ?_
      refine bw_iconst (1) 32 dX10_product_31 (by decide) rfl ?_
      refine bw_eqi (y := nI 1) rfl ?_
      refine bw_cVm 35 dX10_product_32 rfl vX10_118 (m_fail g hC) (hC.at 0 rfl) rfl rfl (Nat.le_of_ble_eq_true rfl) ⟨(Nat.le_of_ble_eq_true rfl), (Nat.le_of_ble_eq_true rfl)⟩ (Nat.le_of_ble_eq_true rfl) (Nat.le_of_ble_eq_true rfl) (fun x A hP => ?_)
      obtain ⟨h4, h5⟩ := hP
      subst h4
      have hC := hC.upd 0 rfl h5
      have hS := hS.upd h5 (by simp)
      refine bw_iret dX10_product_35 rfl (Nat.le_of_ble_eq_true rfl) (Nat.le_of_ble_eq_true rfl) ?_
      exact ⟨_, rfl, rfl, hS, hC.at 0 rfl⟩
    · exact absurd rfl c10
