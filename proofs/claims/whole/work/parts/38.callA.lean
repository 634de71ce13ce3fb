/-! the class's calls: members, the row -/
theorem k9_poly (g : bw_G) {A : bw_H} {x n p gg rn mn pn sn : Nat} (hC : bw_has A [(x, xob x n rn mn pn sn), (x + 9, fob n p gg (x + 9))]) : bw_C g (bw_rm 8 20 200) mX9_poly [.ref x] A (bw_pi (nI p) A) := by
  refine bw_C.of (by decide) (Nat.le_of_ble_eq_true rfl) rfl ?_
  refine bw_aload_n 1 dX9_poly_0 rfl rfl ?_
  refine bw_get 4 dX9_poly_1 rfl lX9_43 (hC.at 0 rfl) rfl ?_
  refine bw_get 7 dX9_poly_4 rfl lX9_93 (hC.at 1 rfl) rfl ?_
  refine bw_iret dX9_poly_7 rfl (Nat.le_of_ble_eq_true rfl) (Nat.le_of_ble_eq_true rfl) ?_
  exact ⟨rfl, rfl⟩
theorem k9_generator (g : bw_G) {A : bw_H} {x n p gg rn mn pn sn : Nat} (hC : bw_has A [(x, xob x n rn mn pn sn), (x + 9, fob n p gg (x + 9))]) : bw_C g (bw_rm 8 20 200) mX9_generator [.ref x] A (bw_pi (nI gg) A) := by
  refine bw_C.of (by decide) (Nat.le_of_ble_eq_true rfl) rfl ?_
  refine bw_aload_n 1 dX9_generator_0 rfl rfl ?_
  refine bw_get 4 dX9_generator_1 rfl lX9_43 (hC.at 0 rfl) rfl ?_
  refine bw_get 7 dX9_generator_4 rfl lX9_97 (hC.at 1 rfl) rfl ?_
  refine bw_iret dX9_generator_7 rfl (Nat.le_of_ble_eq_true rfl) (Nat.le_of_ble_eq_true rfl) ?_
  exact ⟨rfl, rfl⟩
theorem k9_product (g : bw_G) {A : bw_H} {x n p gg rn mn pn sn a b : Nat} (hG : GFg n p gg) (hC : bw_has A ((x, xob x n rn mn pn sn) :: fcl g n p gg (x + 9))) (ha : a < 2 ^ n) (hb : b < 2 ^ n) : bw_C g (bw_rm 8 20 200) mX9_product [.ref x, .int (nI a), .int (nI b)] A (bw_pi (nI (gm n (2 ^ n ||| p) a b)) A) := by
  refine bw_C.of (by decide) (Nat.le_of_ble_eq_true rfl) rfl ?_
  refine bw_aload_n 1 dX9_product_0 rfl rfl ?_
  refine bw_iload_n 2 dX9_product_1 rfl rfl ?_
  refine bw_cVv 5 dX9_product_2 rfl vX9_100 (c9_nm g (hC.sub [0, 1] (by decide) rfl) (mI_nI hG.p16 ha)) (hC.at 0 rfl) rfl rfl (Nat.le_of_ble_eq_true rfl) ⟨(Nat.le_of_ble_eq_true rfl), (Nat.le_of_ble_eq_true rfl)⟩ (Nat.le_of_ble_eq_true rfl) (Nat.le_of_ble_eq_true rfl) (fun A hP => ?_)
  subst hP
  refine bw_aload_n 6 dX9_product_5 rfl rfl ?_
  refine bw_iload_n 7 dX9_product_6 rfl rfl ?_
  refine bw_cVv 10 dX9_product_7 rfl vX9_100 (c9_nm g (hC.sub [0, 1] (by decide) rfl) (mI_nI hG.p16 hb)) (hC.at 0 rfl) rfl rfl (Nat.le_of_ble_eq_true rfl) ⟨(Nat.le_of_ble_eq_true rfl), (Nat.le_of_ble_eq_true rfl)⟩ (Nat.le_of_ble_eq_true rfl) (Nat.le_of_ble_eq_true rfl) (fun A hP => ?_)
  subst hP
  refine bw_aload_n 11 dX9_product_10 rfl rfl ?_
  refine bw_get 14 dX9_product_11 rfl lX9_43 (hC.at 0 rfl) rfl ?_
  refine bw_iload_n 15 dX9_product_14 rfl rfl ?_
  refine bw_iload_n 16 dX9_product_15 rfl rfl ?_
  refine bw_cVi 19 dX9_product_16 rfl vX9_103 (c3_mul g hG (hC.sub [1, 2] (by decide) rfl) ha hb) (hC.at 1 rfl) rfl rfl (Nat.le_of_ble_eq_true rfl) ⟨(Nat.le_of_ble_eq_true rfl), (Nat.le_of_ble_eq_true rfl)⟩ (Nat.le_of_ble_eq_true rfl) (Nat.le_of_ble_eq_true rfl) ?_
  refine bw_iret dX9_product_19 rfl (Nat.le_of_ble_eq_true rfl) (Nat.le_of_ble_eq_true rfl) ?_
  exact ⟨rfl, rfl⟩
theorem k9_productX (g : bw_G) {A : bw_H} {x n p gg rn mn pn sn : Nat} {a b : Int32} (hC : bw_has A ((x, xob x n rn mn pn sn) :: fcl g n p gg (x + 9))) (h : ¬ (mI n a ∧ mI n b)) : bw_C g (bw_rm 8 20 200) mX9_product [.ref x, .int a, .int b] A (bw_pz eIA A) := by
  refine bw_C.of (by decide) (Nat.le_of_ble_eq_true rfl) rfl ?_
  by_cases ha : mI n a
  · skip
    refine bw_aload_n 1 dX9_product_0 rfl rfl ?_
    refine bw_iload_n 2 dX9_product_1 rfl rfl ?_
    refine bw_cVv 5 dX9_product_2 rfl vX9_100 (c9_nm g (hC.sub [0, 1] (by decide) rfl) ha) (hC.at 0 rfl) rfl rfl (Nat.le_of_ble_eq_true rfl) ⟨(Nat.le_of_ble_eq_true rfl), (Nat.le_of_ble_eq_true rfl)⟩ (Nat.le_of_ble_eq_true rfl) (Nat.le_of_ble_eq_true rfl) (fun A hP => ?_)
    subst hP
    refine bw_aload_n 6 dX9_product_5 rfl rfl ?_
    refine bw_iload_n 7 dX9_product_6 rfl rfl ?_
    refine bw_cVz 10 dX9_product_7 rfl vX9_100 (c9_nmX g (hC.sub [0, 1] (by decide) rfl) (fun hb => h ⟨ha, hb⟩)) (hC.at 0 rfl) rfl rfl (Nat.le_of_ble_eq_true rfl) ⟨(Nat.le_of_ble_eq_true rfl), (Nat.le_of_ble_eq_true rfl)⟩ (Nat.le_of_ble_eq_true rfl) (Nat.le_of_ble_eq_true rfl) rfl ?_
    exact fun m hm => ⟨rfl, m, hm, rfl⟩
  · skip
    refine bw_aload_n 1 dX9_product_0 rfl rfl ?_
    refine bw_iload_n 2 dX9_product_1 rfl rfl ?_
    refine bw_cVz 5 dX9_product_2 rfl vX9_100 (c9_nmX g (hC.sub [0, 1] (by decide) rfl) ha) (hC.at 0 rfl) rfl rfl (Nat.le_of_ble_eq_true rfl) ⟨(Nat.le_of_ble_eq_true rfl), (Nat.le_of_ble_eq_true rfl)⟩ (Nat.le_of_ble_eq_true rfl) (Nat.le_of_ble_eq_true rfl) rfl ?_
    exact fun m hm => ⟨rfl, m, hm, rfl⟩
theorem k9_quotient (g : bw_G) {A : bw_H} {x n p gg rn mn pn sn a b : Nat} (hG : GFg n p gg) (hC : bw_has A ((x, xob x n rn mn pn sn) :: fcl g n p gg (x + 9))) (ha : a < 2 ^ n) (hb : b < 2 ^ n) (hb0 : b ≠ 0) : bw_C g (bw_rm 8 20 200) mX9_quotient [.ref x, .int (nI a), .int (nI b)] A (bw_pi (nI (gm n (2 ^ n ||| p) a (ginv n (2 ^ n ||| p) b))) A) := by
  have h16 := hG.p16
  refine bw_C.of (by decide) (Nat.le_of_ble_eq_true rfl) rfl ?_
  refine bw_aload_n 1 dX9_quotient_0 rfl rfl ?_
  refine bw_iload_n 2 dX9_quotient_1 rfl rfl ?_
  refine bw_cVv 5 dX9_quotient_2 rfl vX9_100 (c9_nm g (hC.sub [0, 1] (by decide) rfl) (mI_nI hG.p16 ha)) (hC.at 0 rfl) rfl rfl (Nat.le_of_ble_eq_true rfl) ⟨(Nat.le_of_ble_eq_true rfl), (Nat.le_of_ble_eq_true rfl)⟩ (Nat.le_of_ble_eq_true rfl) (Nat.le_of_ble_eq_true rfl) (fun A hP => ?_)
  subst hP
  refine bw_aload_n 6 dX9_quotient_5 rfl rfl ?_
  refine bw_iload_n 7 dX9_quotient_6 rfl rfl ?_
  refine bw_cVv 10 dX9_quotient_7 rfl vX9_100 (c9_nm g (hC.sub [0, 1] (by decide) rfl) (mI_nI hG.p16 hb)) (hC.at 0 rfl) rfl rfl (Nat.le_of_ble_eq_true rfl) ⟨(Nat.le_of_ble_eq_true rfl), (Nat.le_of_ble_eq_true rfl)⟩ (Nat.le_of_ble_eq_true rfl) (Nat.le_of_ble_eq_true rfl) (fun A hP => ?_)
  subst hP
  refine bw_iload_n 11 dX9_quotient_10 rfl rfl ?_
  refine bw_if_ne 24 14 dX9_quotient_11 rfl rfl (fun c11 => ?_) (fun c11 => ?_)
  · refine bw_aload_n 25 dX9_quotient_24 rfl rfl ?_
    refine bw_get 28 dX9_quotient_25 rfl lX9_43 (hC.at 0 rfl) rfl ?_
    refine bw_iload_n 29 dX9_quotient_28 rfl rfl ?_
    refine bw_iload_n 30 dX9_quotient_29 rfl rfl ?_
    refine bw_cVi 33 dX9_quotient_30 rfl vX9_114 (c3_ratio g hG (hC.sub [1, 2] (by decide) rfl) ha hb) (hC.at 1 rfl) rfl rfl (Nat.le_of_ble_eq_true rfl) ⟨(Nat.le_of_ble_eq_true rfl), (Nat.le_of_ble_eq_true rfl)⟩ (Nat.le_of_ble_eq_true rfl) (Nat.le_of_ble_eq_true rfl) ?_
    refine bw_iret dX9_quotient_33 rfl (Nat.le_of_ble_eq_true rfl) (Nat.le_of_ble_eq_true rfl) ?_
    exact ⟨rfl, rfl⟩
  · exact absurd ((xn_eq0 (by omega)).mp c11) hb0
theorem k9_quotient0 (g : bw_G) {A : bw_H} {x n p gg rn mn pn sn a : Nat} (hG : GFg n p gg) (hC : bw_has A ((x, xob x n rn mn pn sn) :: fcl g n p gg (x + 9))) (ha : a < 2 ^ n) : bw_C g (bw_rm 8 20 200) mX9_quotient [.ref x, .int (nI a), .int (nI 0)] A (bw_pz eAE A) := by
  refine bw_C.of (by decide) (Nat.le_of_ble_eq_true rfl) rfl ?_
  refine bw_aload_n 1 dX9_quotient_0 rfl rfl ?_
  refine bw_iload_n 2 dX9_quotient_1 rfl rfl ?_
  refine bw_cVv 5 dX9_quotient_2 rfl vX9_100 (c9_nm g (hC.sub [0, 1] (by decide) rfl) (mI_nI hG.p16 ha)) (hC.at 0 rfl) rfl rfl (Nat.le_of_ble_eq_true rfl) ⟨(Nat.le_of_ble_eq_true rfl), (Nat.le_of_ble_eq_true rfl)⟩ (Nat.le_of_ble_eq_true rfl) (Nat.le_of_ble_eq_true rfl) (fun A hP => ?_)
  subst hP
  refine bw_aload_n 6 dX9_quotient_5 rfl rfl ?_
  refine bw_iload_n 7 dX9_quotient_6 rfl rfl ?_
  refine bw_cVv 10 dX9_quotient_7 rfl vX9_100 (c9_nm g (hC.sub [0, 1] (by decide) rfl) (mI_nI hG.p16 (Nat.two_pow_pos n))) (hC.at 0 rfl) rfl rfl (Nat.le_of_ble_eq_true rfl) ⟨(Nat.le_of_ble_eq_true rfl), (Nat.le_of_ble_eq_true rfl)⟩ (Nat.le_of_ble_eq_true rfl) (Nat.le_of_ble_eq_true rfl) (fun A hP => ?_)
  subst hP
  refine bw_iload_n 11 dX9_quotient_10 rfl rfl ?_
  refine bw_if_ne 24 14 dX9_quotient_11 rfl rfl (fun c11 => ?_) (fun c11 => ?_)
  · exact absurd rfl c11
  · skip
    refine bw_throw "a quotient by 0" dX9_quotient_14 dX9_quotient_17 dX9_quotient_18 dX9_quotient_20 dX9_quotient_23 tX9_107 (by decide +kernel) rfl (Nat.le_of_ble_eq_true rfl) (Nat.le_of_ble_eq_true rfl) (Nat.le_of_ble_eq_true rfl) (Nat.le_of_ble_eq_true rfl) ?_
    exact fun m hm => ⟨rfl, m, hm, rfl⟩
theorem k9_quotientX (g : bw_G) {A : bw_H} {x n p gg rn mn pn sn : Nat} {a b : Int32} (hC : bw_has A ((x, xob x n rn mn pn sn) :: fcl g n p gg (x + 9))) (h : ¬ (mI n a ∧ mI n b)) : bw_C g (bw_rm 8 20 200) mX9_quotient [.ref x, .int a, .int b] A (bw_pz eIA A) := by
  refine bw_C.of (by decide) (Nat.le_of_ble_eq_true rfl) rfl ?_
  by_cases ha : mI n a
  · skip
    refine bw_aload_n 1 dX9_quotient_0 rfl rfl ?_
    refine bw_iload_n 2 dX9_quotient_1 rfl rfl ?_
    refine bw_cVv 5 dX9_quotient_2 rfl vX9_100 (c9_nm g (hC.sub [0, 1] (by decide) rfl) ha) (hC.at 0 rfl) rfl rfl (Nat.le_of_ble_eq_true rfl) ⟨(Nat.le_of_ble_eq_true rfl), (Nat.le_of_ble_eq_true rfl)⟩ (Nat.le_of_ble_eq_true rfl) (Nat.le_of_ble_eq_true rfl) (fun A hP => ?_)
    subst hP
    refine bw_aload_n 6 dX9_quotient_5 rfl rfl ?_
    refine bw_iload_n 7 dX9_quotient_6 rfl rfl ?_
    refine bw_cVz 10 dX9_quotient_7 rfl vX9_100 (c9_nmX g (hC.sub [0, 1] (by decide) rfl) (fun hb => h ⟨ha, hb⟩)) (hC.at 0 rfl) rfl rfl (Nat.le_of_ble_eq_true rfl) ⟨(Nat.le_of_ble_eq_true rfl), (Nat.le_of_ble_eq_true rfl)⟩ (Nat.le_of_ble_eq_true rfl) (Nat.le_of_ble_eq_true rfl) rfl ?_
    exact fun m hm => ⟨rfl, m, hm, rfl⟩
  · skip
    refine bw_aload_n 1 dX9_quotient_0 rfl rfl ?_
    refine bw_iload_n 2 dX9_quotient_1 rfl rfl ?_
    refine bw_cVz 5 dX9_quotient_2 rfl vX9_100 (c9_nmX g (hC.sub [0, 1] (by decide) rfl) ha) (hC.at 0 rfl) rfl rfl (Nat.le_of_ble_eq_true rfl) ⟨(Nat.le_of_ble_eq_true rfl), (Nat.le_of_ble_eq_true rfl)⟩ (Nat.le_of_ble_eq_true rfl) (Nat.le_of_ble_eq_true rfl) rfl ?_
    exact fun m hm => ⟨rfl, m, hm, rfl⟩
theorem k9_power (g : bw_G) {A : bw_H} {x n p gg rn mn pn sn a : Nat} {y : Int64} (hG : GFg n p gg) (hC : bw_has A ((x, xob x n rn mn pn sn) :: fcl g n p gg (x + 9))) (ha : a < 2 ^ n) (hok0 : ¬ (a = 0 ∧ y < 0)) : bw_C g (bw_rm 8 20 200) mX9_power [.ref x, .int (nI a), .long y] A (bw_pi (nI (gpz n (2 ^ n ||| p) a y)) A) := by
  have h16 := hG.p16
  refine bw_C.of (by decide) (Nat.le_of_ble_eq_true rfl) rfl ?_
  refine bw_aload_n 1 dX9_power_0 rfl rfl ?_
  refine bw_iload_n 2 dX9_power_1 rfl rfl ?_
  refine bw_cVv 5 dX9_power_2 rfl vX9_100 (c9_nm g (hC.sub [0, 1] (by decide) rfl) (mI_nI hG.p16 ha)) (hC.at 0 rfl) rfl rfl (Nat.le_of_ble_eq_true rfl) ⟨(Nat.le_of_ble_eq_true rfl), (Nat.le_of_ble_eq_true rfl)⟩ (Nat.le_of_ble_eq_true rfl) (Nat.le_of_ble_eq_true rfl) (fun A hP => ?_)
  subst hP
  refine bw_iload_n 6 dX9_power_5 rfl rfl ?_
  refine bw_if_ne 25 9 dX9_power_6 rfl rfl (fun c6 => ?_) (fun c6 => ?_)
  · refine bw_aload_n 26 dX9_power_25 rfl rfl ?_
    refine bw_get 29 dX9_power_26 rfl lX9_43 (hC.at 0 rfl) rfl ?_
    refine bw_iload_n 30 dX9_power_29 rfl rfl ?_
    refine bw_lload_n 31 dX9_power_30 rfl rfl ?_
    refine bw_cVi 34 dX9_power_31 rfl vX9_119 (c3_raised g hG (hC.sub [1, 2] (by decide) rfl) ha) (hC.at 1 rfl) rfl rfl (Nat.le_of_ble_eq_true rfl) ⟨(Nat.le_of_ble_eq_true rfl), (Nat.le_of_ble_eq_true rfl)⟩ (Nat.le_of_ble_eq_true rfl) (Nat.le_of_ble_eq_true rfl) ?_
    refine bw_iret dX9_power_34 rfl (Nat.le_of_ble_eq_true rfl) (Nat.le_of_ble_eq_true rfl) ?_
    exact ⟨rfl, rfl⟩
  · refine bw_lload_n 10 dX9_power_9 rfl rfl ?_
    refine bw_lconst 0 11 dX9_power_10 (by decide) rfl ?_
    refine bw_lcmp 12 dX9_power_11 rfl ?_
    refine bw_if_ge 25 15 dX9_power_12 rfl rfl (fun c12 => ?_) (fun c12 => ?_)
    · refine bw_aload_n 26 dX9_power_25 rfl rfl ?_
      refine bw_get 29 dX9_power_26 rfl lX9_43 (hC.at 0 rfl) rfl ?_
      refine bw_iload_n 30 dX9_power_29 rfl rfl ?_
      refine bw_lload_n 31 dX9_power_30 rfl rfl ?_
      refine bw_cVi 34 dX9_power_31 rfl vX9_119 (c3_raised g hG (hC.sub [1, 2] (by decide) rfl) ha) (hC.at 1 rfl) rfl rfl (Nat.le_of_ble_eq_true rfl) ⟨(Nat.le_of_ble_eq_true rfl), (Nat.le_of_ble_eq_true rfl)⟩ (Nat.le_of_ble_eq_true rfl) (Nat.le_of_ble_eq_true rfl) ?_
      refine bw_iret dX9_power_34 rfl (Nat.le_of_ble_eq_true rfl) (Nat.le_of_ble_eq_true rfl) ?_
      exact ⟨rfl, rfl⟩
    · exact absurd ⟨(xn_eq0 (by omega)).mp c6, Int64.not_le.mp (fun h => c12 (lg_cmpG.mpr h))⟩ hok0
theorem k9_power0 (g : bw_G) {A : bw_H} {x n p gg rn mn pn sn : Nat} {y : Int64} (hG : GFg n p gg) (hC : bw_has A ((x, xob x n rn mn pn sn) :: fcl g n p gg (x + 9))) (hy : y < 0) : bw_C g (bw_rm 8 20 200) mX9_power [.ref x, .int (nI 0), .long y] A (bw_pz eAE A) := by
  refine bw_C.of (by decide) (Nat.le_of_ble_eq_true rfl) rfl ?_
  refine bw_aload_n 1 dX9_power_0 rfl rfl ?_
  refine bw_iload_n 2 dX9_power_1 rfl rfl ?_
  refine bw_cVv 5 dX9_power_2 rfl vX9_100 (c9_nm g (hC.sub [0, 1] (by decide) rfl) (mI_nI hG.p16 (Nat.two_pow_pos n))) (hC.at 0 rfl) rfl rfl (Nat.le_of_ble_eq_true rfl) ⟨(Nat.le_of_ble_eq_true rfl), (Nat.le_of_ble_eq_true rfl)⟩ (Nat.le_of_ble_eq_true rfl) (Nat.le_of_ble_eq_true rfl) (fun A hP => ?_)
  subst hP
  refine bw_iload_n 6 dX9_power_5 rfl rfl ?_
  refine bw_if_ne 25 9 dX9_power_6 rfl rfl (fun c6 => ?_) (fun c6 => ?_)
  · exact absurd rfl c6
  · refine bw_lload_n 10 dX9_power_9 rfl rfl ?_
    refine bw_lconst 0 11 dX9_power_10 (by decide) rfl ?_
    refine bw_lcmp 12 dX9_power_11 rfl ?_
    refine bw_if_ge 25 15 dX9_power_12 rfl rfl (fun c12 => ?_) (fun c12 => ?_)
    · exact absurd (lg_cmpG.mp c12) (Int64.not_le.mpr hy)
    · skip
      refine bw_throw "a power of 0 below 0" dX9_power_15 dX9_power_18 dX9_power_19 dX9_power_21 dX9_power_24 tX9_107 (by decide +kernel) rfl (Nat.le_of_ble_eq_true rfl) (Nat.le_of_ble_eq_true rfl) (Nat.le_of_ble_eq_true rfl) (Nat.le_of_ble_eq_true rfl) ?_
      exact fun m hm => ⟨rfl, m, hm, rfl⟩
theorem k9_powerX (g : bw_G) {A : bw_H} {x n p gg rn mn pn sn : Nat} {a : Int32} {y : Int64} (hC : bw_has A ((x, xob x n rn mn pn sn) :: fcl g n p gg (x + 9))) (h : ¬ mI n a) : bw_C g (bw_rm 8 20 200) mX9_power [.ref x, .int a, .long y] A (bw_pz eIA A) := by
  refine bw_C.of (by decide) (Nat.le_of_ble_eq_true rfl) rfl ?_
  refine bw_aload_n 1 dX9_power_0 rfl rfl ?_
  refine bw_iload_n 2 dX9_power_1 rfl rfl ?_
  refine bw_cVz 5 dX9_power_2 rfl vX9_100 (c9_nmX g (hC.sub [0, 1] (by decide) rfl) h) (hC.at 0 rfl) rfl rfl (Nat.le_of_ble_eq_true rfl) ⟨(Nat.le_of_ble_eq_true rfl), (Nat.le_of_ble_eq_true rfl)⟩ (Nat.le_of_ble_eq_true rfl) (Nat.le_of_ble_eq_true rfl) rfl ?_
  exact fun m hm => ⟨rfl, m, hm, rfl⟩
theorem k9_log (g : bw_G) {A : bw_H} {x n p gg rn mn pn sn a : Nat} (hG : GFg n p gg) (hC : bw_has A ((x, xob x n rn mn pn sn) :: fcl g n p gg (x + 9))) (ha : a < 2 ^ n) (ha0 : a ≠ 0) : bw_C g (bw_rm 8 20 200) mX9_log [.ref x, .int (nI a)] A (bw_pi (nI (glog n (2 ^ n ||| p) gg a)) A) := by
  have h16 := hG.p16
  refine bw_C.of (by decide) (Nat.le_of_ble_eq_true rfl) rfl ?_
  refine bw_aload_n 1 dX9_log_0 rfl rfl ?_
  refine bw_iload_n 2 dX9_log_1 rfl rfl ?_
  refine bw_cVv 5 dX9_log_2 rfl vX9_100 (c9_nm g (hC.sub [0, 1] (by decide) rfl) (mI_nI hG.p16 ha)) (hC.at 0 rfl) rfl rfl (Nat.le_of_ble_eq_true rfl) ⟨(Nat.le_of_ble_eq_true rfl), (Nat.le_of_ble_eq_true rfl)⟩ (Nat.le_of_ble_eq_true rfl) (Nat.le_of_ble_eq_true rfl) (fun A hP => ?_)
  subst hP
  refine bw_iload_n 6 dX9_log_5 rfl rfl ?_
  refine bw_if_ne 19 9 dX9_log_6 rfl rfl (fun c6 => ?_) (fun c6 => ?_)
  · refine bw_aload_n 20 dX9_log_19 rfl rfl ?_
    refine bw_get 23 dX9_log_20 rfl lX9_43 (hC.at 0 rfl) rfl ?_
    refine bw_iload_n 24 dX9_log_23 rfl rfl ?_
    refine bw_cVi 27 dX9_log_24 rfl vX9_128 (c3_logOf g hG (hC.sub [1, 2] (by decide) rfl) ha) (hC.at 1 rfl) rfl rfl (Nat.le_of_ble_eq_true rfl) ⟨(Nat.le_of_ble_eq_true rfl), (Nat.le_of_ble_eq_true rfl)⟩ (Nat.le_of_ble_eq_true rfl) (Nat.le_of_ble_eq_true rfl) ?_
    refine bw_iret dX9_log_27 rfl (Nat.le_of_ble_eq_true rfl) (Nat.le_of_ble_eq_true rfl) ?_
    exact ⟨rfl, rfl⟩
  · exact absurd ((xn_eq0 (by omega)).mp c6) ha0
theorem k9_log0 (g : bw_G) {A : bw_H} {x n p gg rn mn pn sn : Nat} (hG : GFg n p gg) (hC : bw_has A ((x, xob x n rn mn pn sn) :: fcl g n p gg (x + 9))) : bw_C g (bw_rm 8 20 200) mX9_log [.ref x, .int (nI 0)] A (bw_pz eAI A) := by
  refine bw_C.of (by decide) (Nat.le_of_ble_eq_true rfl) rfl ?_
  refine bw_aload_n 1 dX9_log_0 rfl rfl ?_
  refine bw_iload_n 2 dX9_log_1 rfl rfl ?_
  refine bw_cVv 5 dX9_log_2 rfl vX9_100 (c9_nm g (hC.sub [0, 1] (by decide) rfl) (mI_nI hG.p16 (Nat.two_pow_pos n))) (hC.at 0 rfl) rfl rfl (Nat.le_of_ble_eq_true rfl) ⟨(Nat.le_of_ble_eq_true rfl), (Nat.le_of_ble_eq_true rfl)⟩ (Nat.le_of_ble_eq_true rfl) (Nat.le_of_ble_eq_true rfl) (fun A hP => ?_)
  subst hP
  refine bw_iload_n 6 dX9_log_5 rfl rfl ?_
  refine bw_if_ne 19 9 dX9_log_6 rfl rfl (fun c6 => ?_) (fun c6 => ?_)
  · exact absurd rfl c6
  · skip
    refine bw_throw "0 has no log" dX9_log_9 dX9_log_12 dX9_log_13 dX9_log_15 dX9_log_18 tX9_123 (by decide +kernel) rfl (Nat.le_of_ble_eq_true rfl) (Nat.le_of_ble_eq_true rfl) (Nat.le_of_ble_eq_true rfl) (Nat.le_of_ble_eq_true rfl) ?_
    exact fun m hm => ⟨rfl, m, hm, rfl⟩
theorem k9_logX (g : bw_G) {A : bw_H} {x n p gg rn mn pn sn : Nat} {a : Int32} (hC : bw_has A ((x, xob x n rn mn pn sn) :: fcl g n p gg (x + 9))) (h : ¬ mI n a) : bw_C g (bw_rm 8 20 200) mX9_log [.ref x, .int a] A (bw_pz eIA A) := by
  refine bw_C.of (by decide) (Nat.le_of_ble_eq_true rfl) rfl ?_
  refine bw_aload_n 1 dX9_log_0 rfl rfl ?_
  refine bw_iload_n 2 dX9_log_1 rfl rfl ?_
  refine bw_cVz 5 dX9_log_2 rfl vX9_100 (c9_nmX g (hC.sub [0, 1] (by decide) rfl) h) (hC.at 0 rfl) rfl rfl (Nat.le_of_ble_eq_true rfl) ⟨(Nat.le_of_ble_eq_true rfl), (Nat.le_of_ble_eq_true rfl)⟩ (Nat.le_of_ble_eq_true rfl) (Nat.le_of_ble_eq_true rfl) rfl ?_
  exact fun m hm => ⟨rfl, m, hm, rfl⟩
theorem k9_order (g : bw_G) {A : bw_H} {x n p gg rn mn pn sn a : Nat} (hG : GFg n p gg) (hC : bw_has A ((x, xob x n rn mn pn sn) :: fcl g n p gg (x + 9))) (ha : a < 2 ^ n) : bw_C g (bw_rm 8 20 200) mX9_order [.ref x, .int (nI a)] A (bw_pi (nI (if a = 0 then 0 else gco (2 ^ n - 1) (glog n (2 ^ n ||| p) gg a) 4)) A) := by
  refine bw_C.of (by decide) (Nat.le_of_ble_eq_true rfl) rfl ?_
  refine bw_aload_n 1 dX9_order_0 rfl rfl ?_
  refine bw_iload_n 2 dX9_order_1 rfl rfl ?_
  refine bw_cVv 5 dX9_order_2 rfl vX9_100 (c9_nm g (hC.sub [0, 1] (by decide) rfl) (mI_nI hG.p16 ha)) (hC.at 0 rfl) rfl rfl (Nat.le_of_ble_eq_true rfl) ⟨(Nat.le_of_ble_eq_true rfl), (Nat.le_of_ble_eq_true rfl)⟩ (Nat.le_of_ble_eq_true rfl) (Nat.le_of_ble_eq_true rfl) (fun A hP => ?_)
  subst hP
  refine bw_aload_n 6 dX9_order_5 rfl rfl ?_
  refine bw_get 9 dX9_order_6 rfl lX9_43 (hC.at 0 rfl) rfl ?_
  refine bw_iload_n 10 dX9_order_9 rfl rfl ?_
  refine bw_cVi 13 dX9_order_10 rfl vX9_132 (c3_orderOf g hG (hC.sub [1, 2] (by decide) rfl) ha) (hC.at 1 rfl) rfl rfl (Nat.le_of_ble_eq_true rfl) ⟨(Nat.le_of_ble_eq_true rfl), (Nat.le_of_ble_eq_true rfl)⟩ (Nat.le_of_ble_eq_true rfl) (Nat.le_of_ble_eq_true rfl) ?_
  refine bw_iret dX9_order_13 rfl (Nat.le_of_ble_eq_true rfl) (Nat.le_of_ble_eq_true rfl) ?_
  exact ⟨rfl, rfl⟩
theorem k9_orderX (g : bw_G) {A : bw_H} {x n p gg rn mn pn sn : Nat} {a : Int32} (hC : bw_has A ((x, xob x n rn mn pn sn) :: fcl g n p gg (x + 9))) (h : ¬ mI n a) : bw_C g (bw_rm 8 20 200) mX9_order [.ref x, .int a] A (bw_pz eIA A) := by
  refine bw_C.of (by decide) (Nat.le_of_ble_eq_true rfl) rfl ?_
  refine bw_aload_n 1 dX9_order_0 rfl rfl ?_
  refine bw_iload_n 2 dX9_order_1 rfl rfl ?_
  refine bw_cVz 5 dX9_order_2 rfl vX9_100 (c9_nmX g (hC.sub [0, 1] (by decide) rfl) h) (hC.at 0 rfl) rfl rfl (Nat.le_of_ble_eq_true rfl) ⟨(Nat.le_of_ble_eq_true rfl), (Nat.le_of_ble_eq_true rfl)⟩ (Nat.le_of_ble_eq_true rfl) (Nat.le_of_ble_eq_true rfl) rfl ?_
  exact fun m hm => ⟨rfl, m, hm, rfl⟩
theorem k9_put (g : bw_G) {A0 : bw_H} {x n p gg rn mn pn sn a : Nat} {row : Nat → Nat} (hn : 2 ^ n ≤ 65536) (hC : bw_has A0 [(x, xob x n rn mn pn sn), (x + 9, fob n p gg (x + 9)), (x + 5, bw_an g 130 row)]) (ha : a < 2 ^ n) (hr : rn < 130) : bw_C g (bw_rm 8 20 200) mX9_put [.ref x, .int (nI a)] A0 (bw_pm (fun y A' => y = nI (rn + 1) ∧ A' = bw_up (bw_up A0 (x + 5) (bw_an g 130 (fun i => if i = rn then a else row i))) x (xob x n (rn + 1) mn pn sn))) := by
  refine bw_C.of (by decide) (Nat.le_of_ble_eq_true rfl) rfl ?_
  refine bw_aload_n 1 dX9_put_0 rfl rfl ?_
  refine bw_iload_n 2 dX9_put_1 rfl rfl ?_
  refine bw_cVv 5 dX9_put_2 rfl vX9_100 (c9_nm g (hC.sub [0, 1] (by decide) rfl) (mI_nI hn ha)) (hC.at 0 rfl) rfl rfl (Nat.le_of_ble_eq_true rfl) ⟨(Nat.le_of_ble_eq_true rfl), (Nat.le_of_ble_eq_true rfl)⟩ (Nat.le_of_ble_eq_true rfl) (Nat.le_of_ble_eq_true rfl) (fun A hP => ?_)
  subst hP
  refine bw_aload_n 6 dX9_put_5 rfl rfl ?_
  refine bw_get 9 dX9_put_6 rfl lX9_135 (hC.at 0 rfl) rfl ?_
  refine bw_sipush (130) 12 dX9_put_9 (by decide) rfl ?_
  refine bw_eqi (y := nI 130) rfl ?_
  refine bw_icmp_lt 25 15 dX9_put_12 rfl rfl (fun c12 => ?_) (fun c12 => ?_)
  · refine bw_aload_n 26 dX9_put_25 rfl rfl ?_
    refine bw_get 29 dX9_put_26 rfl lX9_21 (hC.at 0 rfl) rfl ?_
    refine bw_aload_n 30 dX9_put_29 rfl rfl ?_
    refine bw_get 33 dX9_put_30 rfl lX9_135 (hC.at 0 rfl) rfl ?_
    refine bw_iload_n 34 dX9_put_33 rfl rfl ?_
    refine bw_iastN 35 dX9_put_34 rfl (hC.at 2 rfl) (by omega) (by omega) (G := _) (rfl) (fun A hU => ?_)
    have hX := hU
    have hC := hC.upd 2 rfl hU
    refine bw_aload_n 36 dX9_put_35 rfl rfl ?_
    refine bw_dup 37 dX9_put_36 rfl rfl ?_
    refine bw_get 40 dX9_put_37 rfl lX9_135 (hC.at 0 rfl) rfl ?_
    refine bw_iconst (1) 41 dX9_put_40 (by decide) rfl ?_
    refine bw_eqi (y := nI 1) rfl ?_
    refine bw_iadd 42 dX9_put_41 rfl ?_
    refine bw_eqi (nI_add rn 1) ?_
    refine bw_putU 45 dX9_put_42 rfl pX9_135 (hC.at 0 rfl) rfl rfl (Nat.le_of_ble_eq_true rfl) (fun A hU => ?_)
    have hC := hC.upd 0 rfl hU
    refine bw_aload_n 46 dX9_put_45 rfl rfl ?_
    refine bw_get 49 dX9_put_46 rfl lX9_135 (hC.at 0 rfl) rfl ?_
    refine bw_iret dX9_put_49 rfl (Nat.le_of_ble_eq_true rfl) (Nat.le_of_ble_eq_true rfl) ?_
    exact ⟨_, rfl, rfl, by rw [hU, hX]; rfl⟩
  · exact absurd (nI_lt hr (by omega)) c12
theorem k9_putF (g : bw_G) {A : bw_H} {x n p gg rn mn pn sn a : Nat} {row : Nat → Nat} (hn : 2 ^ n ≤ 65536) (hC : bw_has A [(x, xob x n rn mn pn sn), (x + 9, fob n p gg (x + 9)), (x + 5, bw_an g 130 row)]) (ha : a < 2 ^ n) (hr : rn = 130) : bw_C g (bw_rm 8 20 200) mX9_put [.ref x, .int (nI a)] A (bw_pz eUO A) := by
  refine bw_C.of (by decide) (Nat.le_of_ble_eq_true rfl) rfl ?_
  refine bw_aload_n 1 dX9_put_0 rfl rfl ?_
  refine bw_iload_n 2 dX9_put_1 rfl rfl ?_
  refine bw_cVv 5 dX9_put_2 rfl vX9_100 (c9_nm g (hC.sub [0, 1] (by decide) rfl) (mI_nI hn ha)) (hC.at 0 rfl) rfl rfl (Nat.le_of_ble_eq_true rfl) ⟨(Nat.le_of_ble_eq_true rfl), (Nat.le_of_ble_eq_true rfl)⟩ (Nat.le_of_ble_eq_true rfl) (Nat.le_of_ble_eq_true rfl) (fun A hP => ?_)
  subst hP
  refine bw_aload_n 6 dX9_put_5 rfl rfl ?_
  refine bw_get 9 dX9_put_6 rfl lX9_135 (hC.at 0 rfl) rfl ?_
  refine bw_sipush (130) 12 dX9_put_9 (by decide) rfl ?_
  refine bw_eqi (y := nI 130) rfl ?_
  refine bw_icmp_lt 25 15 dX9_put_12 rfl rfl (fun c12 => ?_) (fun c12 => ?_)
  · exact absurd ((nI_ltI (by omega) (by omega)).mp c12) (by omega)
  · skip
    refine bw_throw "the row is full" dX9_put_15 dX9_put_18 dX9_put_19 dX9_put_21 dX9_put_24 tX9_138 (by decide +kernel) rfl (Nat.le_of_ble_eq_true rfl) (Nat.le_of_ble_eq_true rfl) (Nat.le_of_ble_eq_true rfl) (Nat.le_of_ble_eq_true rfl) ?_
    exact fun m hm => ⟨rfl, m, hm, rfl⟩
theorem k9_putX (g : bw_G) {A : bw_H} {x n p gg rn mn pn sn : Nat} {a : Int32} {row : Nat → Nat} (hC : bw_has A [(x, xob x n rn mn pn sn), (x + 9, fob n p gg (x + 9)), (x + 5, bw_an g 130 row)]) (h : ¬ mI n a) : bw_C g (bw_rm 8 20 200) mX9_put [.ref x, .int a] A (bw_pz eIA A) := by
  refine bw_C.of (by decide) (Nat.le_of_ble_eq_true rfl) rfl ?_
  refine bw_aload_n 1 dX9_put_0 rfl rfl ?_
  refine bw_iload_n 2 dX9_put_1 rfl rfl ?_
  refine bw_cVz 5 dX9_put_2 rfl vX9_100 (c9_nmX g (hC.sub [0, 1] (by decide) rfl) h) (hC.at 0 rfl) rfl rfl (Nat.le_of_ble_eq_true rfl) ⟨(Nat.le_of_ble_eq_true rfl), (Nat.le_of_ble_eq_true rfl)⟩ (Nat.le_of_ble_eq_true rfl) (Nat.le_of_ble_eq_true rfl) rfl ?_
  exact fun m hm => ⟨rfl, m, hm, rfl⟩
theorem k9_row (g : bw_G) {A : bw_H} {x n rn mn pn sn k : Nat} {row : Nat → Nat} (hC : bw_has A [(x, xob x n rn mn pn sn), (x + 5, bw_an g 130 row)]) (hr : rn ≤ 130) (hk : k < 2 ^ 31) : bw_C g (bw_rm 8 20 200) mX9_row [.ref x, .int (nI k)] A (bw_pi (if k < rn then nI (row k) else -1) A) := by
  refine bw_C.of (by decide) (Nat.le_of_ble_eq_true rfl) rfl ?_
  refine bw_iload_n 1 dX9_row_0 rfl rfl ?_
  refine bw_if_ge 14 4 dX9_row_1 rfl rfl (fun c1 => ?_) (fun c1 => ?_)
  · refine bw_iload_n 15 dX9_row_14 rfl rfl ?_
    refine bw_aload_n 16 dX9_row_15 rfl rfl ?_
    refine bw_get 19 dX9_row_16 rfl lX9_135 (hC.at 0 rfl) rfl ?_
    refine bw_icmp_ge 31 22 dX9_row_19 rfl rfl (fun c19 => ?_) (fun c19 => ?_)
    · have h1 : rn ≤ k := (nI_leI (by omega) (by omega)).mp c19
      have he : (if k < rn then nI (row k) else -1) = -1 := if_neg (by omega)
      rw [he]
      refine bw_iconst (-1) 32 dX9_row_31 (by decide) rfl ?_
      refine bw_iret dX9_row_32 rfl (Nat.le_of_ble_eq_true rfl) (Nat.le_of_ble_eq_true rfl) ?_
      exact ⟨rfl, rfl⟩
    · have h1 : k < rn := Nat.not_le.mp (fun h => c19 (nI_le h (by omega)))
      have he : (if k < rn then nI (row k) else -1) = nI (row k) := if_pos h1
      rw [he]
      refine bw_aload_n 23 dX9_row_22 rfl rfl ?_
      refine bw_get 26 dX9_row_23 rfl lX9_21 (hC.at 0 rfl) rfl ?_
      refine bw_iload_n 27 dX9_row_26 rfl rfl ?_
      refine bw_ialdN 28 dX9_row_27 rfl (hC.at 1 rfl) (by omega) (by omega) ?_
      refine bw_goto 32 dX9_row_28 rfl ?_
      refine bw_iret dX9_row_32 rfl (Nat.le_of_ble_eq_true rfl) (Nat.le_of_ble_eq_true rfl) ?_
      exact ⟨rfl, rfl⟩
  · exact absurd (nI_pos' hk) c1
theorem k9_rowX (g : bw_G) {A : bw_H} {x n rn mn pn sn : Nat} {k : Int32} {row : Nat → Nat} (hC : bw_has A [(x, xob x n rn mn pn sn), (x + 5, bw_an g 130 row)]) (hk : k < 0) : bw_C g (bw_rm 8 20 200) mX9_row [.ref x, .int k] A (bw_pz eIO A) := by
  refine bw_C.of (by decide) (Nat.le_of_ble_eq_true rfl) rfl ?_
  refine bw_iload_n 1 dX9_row_0 rfl rfl ?_
  refine bw_if_ge 14 4 dX9_row_1 rfl rfl (fun c1 => ?_) (fun c1 => ?_)
  · exact absurd c1 (Int32.not_le.mpr hk)
  · skip
    refine bw_throw "a place below 0" dX9_row_4 dX9_row_7 dX9_row_8 dX9_row_10 dX9_row_13 tX9_143 (by decide +kernel) rfl (Nat.le_of_ble_eq_true rfl) (Nat.le_of_ble_eq_true rfl) (Nat.le_of_ble_eq_true rfl) (Nat.le_of_ble_eq_true rfl) ?_
    exact fun m hm => ⟨rfl, m, hm, rfl⟩
theorem k9_drop (g : bw_G) {A0 : bw_H} {x n rn mn pn sn : Nat} (hC : bw_has A0 [(x, xob x n rn mn pn sn)]) : bw_C g (bw_rm 8 20 200) mX9_drop [.ref x] A0 (bw_pm (fun y A' => y = nI rn ∧ A' = bw_up A0 x (xob x n 0 mn pn sn))) := by
  refine bw_C.of (by decide) (Nat.le_of_ble_eq_true rfl) rfl ?_
  refine bw_aload_n 1 dX9_drop_0 rfl rfl ?_
  refine bw_get 4 dX9_drop_1 rfl lX9_135 (hC.at 0 rfl) rfl ?_
  refine bw_istore_n 5 dX9_drop_4 rfl (by decide) ?_
  refine bw_aload_n 6 dX9_drop_5 rfl rfl ?_
  refine bw_iconst (0) 7 dX9_drop_6 (by decide) rfl ?_
  refine bw_eqi (y := nI 0) rfl ?_
  refine bw_putU 10 dX9_drop_7 rfl pX9_135 (hC.at 0 rfl) rfl rfl (Nat.le_of_ble_eq_true rfl) (fun A hU => ?_)
  have hC := hC.upd 0 rfl hU
  refine bw_iload_n 11 dX9_drop_10 rfl rfl ?_
  refine bw_iret dX9_drop_11 rfl (Nat.le_of_ble_eq_true rfl) (Nat.le_of_ble_eq_true rfl) ?_
  exact ⟨_, rfl, rfl, hU⟩
theorem k9_told0 (g : bw_G) {A : bw_H} {x n rn mn pn sn : Nat} (hC : bw_has A [(x, xob x n rn mn pn sn)]) : bw_C g (bw_rm 8 20 200) mX9_told [.ref x, .int 0] A (bw_pi (nI rn) A) := by
  refine bw_C.of (by decide) (Nat.le_of_ble_eq_true rfl) rfl ?_
  refine bw_iload_n 1 dX9_told_0 rfl rfl ?_
  refine bw_tsIn 32 dX9_told_1 (by decide) (by decide) rfl rfl ?_
  refine bw_aload_n 33 dX9_told_32 rfl rfl ?_
  refine bw_get 36 dX9_told_33 rfl lX9_135 (hC.at 0 rfl) rfl ?_
  refine bw_iret dX9_told_36 rfl (Nat.le_of_ble_eq_true rfl) (Nat.le_of_ble_eq_true rfl) ?_
  exact ⟨rfl, rfl⟩
theorem k9_told1 (g : bw_G) {A : bw_H} {x n rn mn pn sn : Nat} (hC : bw_has A [(x, xob x n rn mn pn sn)]) : bw_C g (bw_rm 8 20 200) mX9_told [.ref x, .int 1] A (bw_pi (nI mn) A) := by
  refine bw_C.of (by decide) (Nat.le_of_ble_eq_true rfl) rfl ?_
  refine bw_iload_n 1 dX9_told_0 rfl rfl ?_
  refine bw_tsIn 37 dX9_told_1 (by decide) (by decide) rfl rfl ?_
  refine bw_aload_n 38 dX9_told_37 rfl rfl ?_
  refine bw_get 41 dX9_told_38 rfl lX9_337 (hC.at 0 rfl) rfl ?_
  refine bw_iret dX9_told_41 rfl (Nat.le_of_ble_eq_true rfl) (Nat.le_of_ble_eq_true rfl) ?_
  exact ⟨rfl, rfl⟩
theorem k9_told2 (g : bw_G) {A : bw_H} {x n rn mn pn sn : Nat} (hC : bw_has A [(x, xob x n rn mn pn sn)]) : bw_C g (bw_rm 8 20 200) mX9_told [.ref x, .int 2] A (bw_pi (nI pn) A) := by
  refine bw_C.of (by decide) (Nat.le_of_ble_eq_true rfl) rfl ?_
  refine bw_iload_n 1 dX9_told_0 rfl rfl ?_
  refine bw_tsIn 42 dX9_told_1 (by decide) (by decide) rfl rfl ?_
  refine bw_aload_n 43 dX9_told_42 rfl rfl ?_
  refine bw_get 46 dX9_told_43 rfl lX9_340 (hC.at 0 rfl) rfl ?_
  refine bw_iret dX9_told_46 rfl (Nat.le_of_ble_eq_true rfl) (Nat.le_of_ble_eq_true rfl) ?_
  exact ⟨rfl, rfl⟩
theorem k9_told3 (g : bw_G) {A : bw_H} {x n rn mn pn sn : Nat} (hC : bw_has A [(x, xob x n rn mn pn sn)]) : bw_C g (bw_rm 8 20 200) mX9_told [.ref x, .int 3] A (bw_pi (nI sn) A) := by
  refine bw_C.of (by decide) (Nat.le_of_ble_eq_true rfl) rfl ?_
  refine bw_iload_n 1 dX9_told_0 rfl rfl ?_
  refine bw_tsIn 47 dX9_told_1 (by decide) (by decide) rfl rfl ?_
  refine bw_aload_n 48 dX9_told_47 rfl rfl ?_
  refine bw_get 51 dX9_told_48 rfl lX9_326 (hC.at 0 rfl) rfl ?_
  refine bw_iret dX9_told_51 rfl (Nat.le_of_ble_eq_true rfl) (Nat.le_of_ble_eq_true rfl) ?_
  exact ⟨rfl, rfl⟩
theorem k9_toldX (g : bw_G) {A : bw_H} {x : Nat} {a : Int32} (h : a.toInt < 0 ∨ 3 < a.toInt) : bw_C g (bw_rm 8 20 200) mX9_told [.ref x, .int a] A (bw_pz eIA A) := by
  refine bw_C.of (by decide) (Nat.le_of_ble_eq_true rfl) rfl ?_
  refine bw_iload_n 1 dX9_told_0 rfl rfl ?_
  refine bw_tsOut 52 dX9_told_1 (h) rfl ?_
  refine bw_throwW "nothing that is told" dX9_told_52 dX9_told_55 dX9_told_56 dX9_told_59 dX9_told_62 tX9_180 (by decide +kernel) rfl (Nat.le_of_ble_eq_true rfl) (Nat.le_of_ble_eq_true rfl) (Nat.le_of_ble_eq_true rfl) (Nat.le_of_ble_eq_true rfl) ?_
  exact fun m hm => ⟨rfl, m, hm, rfl⟩
