/-! the class's calls: divide, common, root, often -/
set_option maxHeartbeats 4000000 in
set_option maxRecDepth 100000 in
theorem k9_divideR (g : bw_G) {A0 : bw_H} {x n p gg rn mn pn sn a b b' k k' mw : Nat} {PA : Nat → Option Nat} {f f' fw : Nat → Nat} {w w' : Value} (hG : GFg n p gg) (hC : bw_has A0 ((x, xob x n rn mn pn sn) :: (x + 7, bw_aq g 4 40 PA) :: (pcl g (x + 1) 129 fw mw .null ++ dvl g n p gg (x + 33) (x + 9)))) (hww : pwk 129 fw mw) (hp : bw_has A0 (ppl g b 65 f w)) (hp' : bw_has A0 (ppl g b' 65 f' w')) (hz : A0.1 = a) (hf : pok n 65 f) (hf' : pok n 65 f') (hb : x + 34 ≤ b) (hb' : x + 34 ≤ b') (hba : b + 1 < a) (hba' : b' + 1 < a) (hk : k < pn) (hk' : k' < pn) (hm : pn < 40) (ha : PA k = some b) (ha' : PA k' = some b') (h0 : pd f' ≠ 0) : bw_C g (bw_rm 8 20 200) mX9_divide [.ref x, .int (nI k), .int (nI k'), .int 1] A0 (bw_pm (kqP g x n rn mn pn sn a PA (grs n (2 ^ n ||| p) f f') [x, x + 7, x + 1, x + 2] A0)) := by
  have h1 := hf.le (by omega)
  have h2 := hf'.le (by omega)
  have hro : pok n 129 (grs n (2 ^ n ||| p) f f') := (grs_ok hG.2.2.1 hf).mono (by omega)
  have hrd : pd (grs n (2 ^ n ||| p) f f') ≤ 65 := pd_le ((grs_ok hG.2.2.1 hf).mono (N' := 65) (by omega)).1 (by omega)
  have hW : bw_ff a [x, x + 7, x + 1, x + 2] A0 A0 := bw_ff.rf
  refine bw_C.of (by decide) (Nat.le_of_ble_eq_true rfl) rfl ?_
  refine bw_aload_n 1 dX9_divide_0 rfl rfl ?_
  refine bw_iload_n 2 dX9_divide_1 rfl rfl ?_
  refine bw_cVr 5 dX9_divide_2 rfl vX9_257 (c9_pa g (hC.sub [0, 1] (by decide) rfl) hk (by omega) ha) (hC.at 0 rfl) rfl rfl (Nat.le_of_ble_eq_true rfl) ⟨(Nat.le_of_ble_eq_true rfl), (Nat.le_of_ble_eq_true rfl)⟩ (Nat.le_of_ble_eq_true rfl) (Nat.le_of_ble_eq_true rfl) ?_
  refine bw_astore 7 dX9_divide_5 rfl (by decide) ?_
  refine bw_aload_n 8 dX9_divide_7 rfl rfl ?_
  refine bw_iload_n 9 dX9_divide_8 rfl rfl ?_
  refine bw_cVr 12 dX9_divide_9 rfl vX9_257 (c9_pa g (hC.sub [0, 1] (by decide) rfl) hk' (by omega) ha') (hC.at 0 rfl) rfl rfl (Nat.le_of_ble_eq_true rfl) ⟨(Nat.le_of_ble_eq_true rfl), (Nat.le_of_ble_eq_true rfl)⟩ (Nat.le_of_ble_eq_true rfl) (Nat.le_of_ble_eq_true rfl) ?_
  refine bw_astore 14 dX9_divide_12 rfl (by decide) ?_
  refine bw_aload 16 dX9_divide_14 rfl rfl ?_
  refine bw_get 19 dX9_divide_16 rfl lX9_261 (((hW.has hp' (by simp <;> omega)).at 0 rfl)) rfl ?_
  refine bw_if_ge 33 22 dX9_divide_19 rfl rfl (fun c19 => ?_) (fun c19 => ?_)
  · refine bw_aload_n 34 dX9_divide_33 rfl rfl ?_
    refine bw_cVv 37 dX9_divide_34 rfl vX9_237 (c9_np g (hC.sub [0] (by decide) rfl) hm) (hC.at 0 rfl) rfl rfl (Nat.le_of_ble_eq_true rfl) ⟨(Nat.le_of_ble_eq_true rfl), (Nat.le_of_ble_eq_true rfl)⟩ (Nat.le_of_ble_eq_true rfl) (Nat.le_of_ble_eq_true rfl) (fun A hP => ?_)
    subst hP
    refine bw_aload_n 38 dX9_divide_37 rfl rfl ?_
    refine bw_get 41 dX9_divide_38 rfl lX9_14 (hC.at 0 rfl) rfl ?_
    refine bw_aload 43 dX9_divide_41 rfl rfl ?_
    refine bw_cVv 46 dX9_divide_43 rfl vX9_273 (c7_copyP g hG.p16 (bw_has.ap (ws := pcl g (x + 1) 129 fw mw .null) (hC.sub [2, 3] (by decide) rfl) (hW.has hp (by simp <;> omega)) (by simp <;> omega)) (by omega) (by omega) hww hf (by omega)) (hC.at 2 rfl) rfl rfl (Nat.le_of_ble_eq_true rfl) ⟨(Nat.le_of_ble_eq_true rfl), (Nat.le_of_ble_eq_true rfl)⟩ (Nat.le_of_ble_eq_true rfl) (Nat.le_of_ble_eq_true rfl) (fun A hP => ?_)
    have hW := hW.po hP (Or.inr (by simp)) (Or.inr (by simp))
    have hz := (congrArg Prod.fst hP).trans hz
    have hC := hC.po 2 3 rfl rfl hP
    refine bw_iload_n 47 dX9_divide_46 rfl rfl ?_
    refine bw_if_eq 66 50 dX9_divide_47 rfl rfl (fun c47 => ?_) (fun c47 => ?_)
    · exact absurd c47 (by decide)
    · refine bw_aload_n 51 dX9_divide_50 rfl rfl ?_
      refine bw_get 54 dX9_divide_51 rfl lX9_66 (hC.at 0 rfl) rfl ?_
      refine bw_aload_n 55 dX9_divide_54 rfl rfl ?_
      refine bw_get 58 dX9_divide_55 rfl lX9_14 (hC.at 0 rfl) rfl ?_
      refine bw_aload 60 dX9_divide_58 rfl rfl ?_
      refine bw_cVv 63 dX9_divide_60 rfl vX9_289 (c0_toRest g hG (bw_has.ap (ws := dvl g n p gg (x + 33) (x + 9) ++ ppl g (x + 1) 129 f .null) (hC.sub [4, 5, 6, 2, 3] (by decide) rfl) (hW.has hp' (by simp <;> omega)) (by simp <;> omega)) (by omega) (by omega) (hf.mono (by omega)) hf' h0) (hC.at 4 rfl) rfl rfl (Nat.le_of_ble_eq_true rfl) ⟨(Nat.le_of_ble_eq_true rfl), (Nat.le_of_ble_eq_true rfl)⟩ (Nat.le_of_ble_eq_true rfl) (Nat.le_of_ble_eq_true rfl) (fun A hP => ?_)
      have hW := hW.po hP (Or.inr (by simp)) (Or.inr (by simp))
      have hz := (congrArg Prod.fst hP).trans hz
      have hC := hC.po 2 3 rfl rfl hP
      refine bw_goto 79 dX9_divide_63 rfl ?_
      refine bw_aload_n 80 dX9_divide_79 rfl rfl ?_
      refine bw_aload_n 81 dX9_divide_80 rfl rfl ?_
      refine bw_get 84 dX9_divide_81 rfl lX9_14 (hC.at 0 rfl) rfl ?_
      refine bw_cVm 87 dX9_divide_84 rfl vX9_243 (c9_keepPolynomial g hG.p16 (hC.sub [0, 1, 2, 3] (by decide) rfl) (by omega) hro hrd hm hz) (hC.at 0 rfl) rfl rfl (Nat.le_of_ble_eq_true rfl) ⟨(Nat.le_of_ble_eq_true rfl), (Nat.le_of_ble_eq_true rfl)⟩ (Nat.le_of_ble_eq_true rfl) (Nat.le_of_ble_eq_true rfl) (fun x A hP => ?_)
      refine bw_iret dX9_divide_87 rfl (Nat.le_of_ble_eq_true rfl) (Nat.le_of_ble_eq_true rfl) ?_
      exact ⟨_, rfl, kq_of hP (hC.sub [2, 3] (by decide) rfl) hW (by simp) (by omega)⟩
  · exact absurd (Int32.not_lt.mp (fun hx => h0 ((tI_lt0 (by omega)).mp hx))) c19
set_option maxHeartbeats 4000000 in
set_option maxRecDepth 100000 in
theorem k9_divideQ (g : bw_G) {A0 : bw_H} {x n p gg rn mn pn sn a b b' k k' mw : Nat} {PA : Nat → Option Nat} {f f' fw : Nat → Nat} {w w' : Value} (hG : GFg n p gg) (hC : bw_has A0 ((x, xob x n rn mn pn sn) :: (x + 7, bw_aq g 4 40 PA) :: (pcl g (x + 1) 129 fw mw .null ++ dvl g n p gg (x + 33) (x + 9)))) (hww : pwk 129 fw mw) (hp : bw_has A0 (ppl g b 65 f w)) (hp' : bw_has A0 (ppl g b' 65 f' w')) (hz : A0.1 = a) (hf : pok n 65 f) (hf' : pok n 65 f') (hb : x + 34 ≤ b) (hb' : x + 34 ≤ b') (hba : b + 1 < a) (hba' : b' + 1 < a) (hk : k < pn) (hk' : k' < pn) (hm : pn < 40) (ha : PA k = some b) (ha' : PA k' = some b') (h0 : pd f' ≠ 0) : bw_C g (bw_rm 8 20 200) mX9_divide [.ref x, .int (nI k), .int (nI k'), .int 0] A0 (bw_pm (kqP g x n rn mn pn sn a PA (gqu n (2 ^ n ||| p) f f') [x, x + 7, x + 1, x + 2] A0)) := by
  have h1 := hf.le (by omega)
  have h2 := hf'.le (by omega)
  have hro : pok n 129 (gqu n (2 ^ n ||| p) f f') := (gqu_ok hG.2.2.1 hf (by omega)).mono (by omega)
  have hrd : pd (gqu n (2 ^ n ||| p) f f') ≤ 65 := pd_le ((gqu_ok hG.2.2.1 hf (by omega)).mono (N' := 65) (by omega)).1 (by omega)
  have hW : bw_ff a [x, x + 7, x + 1, x + 2] A0 A0 := bw_ff.rf
  refine bw_C.of (by decide) (Nat.le_of_ble_eq_true rfl) rfl ?_
  refine bw_aload_n 1 dX9_divide_0 rfl rfl ?_
  refine bw_iload_n 2 dX9_divide_1 rfl rfl ?_
  refine bw_cVr 5 dX9_divide_2 rfl vX9_257 (c9_pa g (hC.sub [0, 1] (by decide) rfl) hk (by omega) ha) (hC.at 0 rfl) rfl rfl (Nat.le_of_ble_eq_true rfl) ⟨(Nat.le_of_ble_eq_true rfl), (Nat.le_of_ble_eq_true rfl)⟩ (Nat.le_of_ble_eq_true rfl) (Nat.le_of_ble_eq_true rfl) ?_
  refine bw_astore 7 dX9_divide_5 rfl (by decide) ?_
  refine bw_aload_n 8 dX9_divide_7 rfl rfl ?_
  refine bw_iload_n 9 dX9_divide_8 rfl rfl ?_
  refine bw_cVr 12 dX9_divide_9 rfl vX9_257 (c9_pa g (hC.sub [0, 1] (by decide) rfl) hk' (by omega) ha') (hC.at 0 rfl) rfl rfl (Nat.le_of_ble_eq_true rfl) ⟨(Nat.le_of_ble_eq_true rfl), (Nat.le_of_ble_eq_true rfl)⟩ (Nat.le_of_ble_eq_true rfl) (Nat.le_of_ble_eq_true rfl) ?_
  refine bw_astore 14 dX9_divide_12 rfl (by decide) ?_
  refine bw_aload 16 dX9_divide_14 rfl rfl ?_
  refine bw_get 19 dX9_divide_16 rfl lX9_261 (((hW.has hp' (by simp <;> omega)).at 0 rfl)) rfl ?_
  refine bw_if_ge 33 22 dX9_divide_19 rfl rfl (fun c19 => ?_) (fun c19 => ?_)
  · refine bw_aload_n 34 dX9_divide_33 rfl rfl ?_
    refine bw_cVv 37 dX9_divide_34 rfl vX9_237 (c9_np g (hC.sub [0] (by decide) rfl) hm) (hC.at 0 rfl) rfl rfl (Nat.le_of_ble_eq_true rfl) ⟨(Nat.le_of_ble_eq_true rfl), (Nat.le_of_ble_eq_true rfl)⟩ (Nat.le_of_ble_eq_true rfl) (Nat.le_of_ble_eq_true rfl) (fun A hP => ?_)
    subst hP
    refine bw_aload_n 38 dX9_divide_37 rfl rfl ?_
    refine bw_get 41 dX9_divide_38 rfl lX9_14 (hC.at 0 rfl) rfl ?_
    refine bw_aload 43 dX9_divide_41 rfl rfl ?_
    refine bw_cVv 46 dX9_divide_43 rfl vX9_273 (c7_copyP g hG.p16 (bw_has.ap (ws := pcl g (x + 1) 129 fw mw .null) (hC.sub [2, 3] (by decide) rfl) (hW.has hp (by simp <;> omega)) (by simp <;> omega)) (by omega) (by omega) hww hf (by omega)) (hC.at 2 rfl) rfl rfl (Nat.le_of_ble_eq_true rfl) ⟨(Nat.le_of_ble_eq_true rfl), (Nat.le_of_ble_eq_true rfl)⟩ (Nat.le_of_ble_eq_true rfl) (Nat.le_of_ble_eq_true rfl) (fun A hP => ?_)
    have hW := hW.po hP (Or.inr (by simp)) (Or.inr (by simp))
    have hz := (congrArg Prod.fst hP).trans hz
    have hC := hC.po 2 3 rfl rfl hP
    refine bw_iload_n 47 dX9_divide_46 rfl rfl ?_
    refine bw_if_eq 66 50 dX9_divide_47 rfl rfl (fun c47 => ?_) (fun c47 => ?_)
    · skip
      refine bw_aload_n 67 dX9_divide_66 rfl rfl ?_
      refine bw_get 70 dX9_divide_67 rfl lX9_66 (hC.at 0 rfl) rfl ?_
      refine bw_aload_n 71 dX9_divide_70 rfl rfl ?_
      refine bw_get 74 dX9_divide_71 rfl lX9_14 (hC.at 0 rfl) rfl ?_
      refine bw_aload 76 dX9_divide_74 rfl rfl ?_
      refine bw_cVv 79 dX9_divide_76 rfl vX9_293 (c0_toQuotient g hG (bw_has.ap (ws := dvl g n p gg (x + 33) (x + 9) ++ ppl g (x + 1) 129 f .null) (hC.sub [4, 5, 6, 2, 3] (by decide) rfl) (hW.has hp' (by simp <;> omega)) (by simp <;> omega)) (by omega) (by omega) (hf.mono (by omega)) hf' h0) (hC.at 4 rfl) rfl rfl (Nat.le_of_ble_eq_true rfl) ⟨(Nat.le_of_ble_eq_true rfl), (Nat.le_of_ble_eq_true rfl)⟩ (Nat.le_of_ble_eq_true rfl) (Nat.le_of_ble_eq_true rfl) (fun A hP => ?_)
      have hW := hW.po hP (Or.inr (by simp)) (Or.inr (by simp))
      have hz := (congrArg Prod.fst hP).trans hz
      have hC := hC.po 2 3 rfl rfl hP
      refine bw_aload_n 80 dX9_divide_79 rfl rfl ?_
      refine bw_aload_n 81 dX9_divide_80 rfl rfl ?_
      refine bw_get 84 dX9_divide_81 rfl lX9_14 (hC.at 0 rfl) rfl ?_
      refine bw_cVm 87 dX9_divide_84 rfl vX9_243 (c9_keepPolynomial g hG.p16 (hC.sub [0, 1, 2, 3] (by decide) rfl) (by omega) hro hrd hm hz) (hC.at 0 rfl) rfl rfl (Nat.le_of_ble_eq_true rfl) ⟨(Nat.le_of_ble_eq_true rfl), (Nat.le_of_ble_eq_true rfl)⟩ (Nat.le_of_ble_eq_true rfl) (Nat.le_of_ble_eq_true rfl) (fun x A hP => ?_)
      refine bw_iret dX9_divide_87 rfl (Nat.le_of_ble_eq_true rfl) (Nat.le_of_ble_eq_true rfl) ?_
      exact ⟨_, rfl, kq_of hP (hC.sub [2, 3] (by decide) rfl) hW (by simp) (by omega)⟩
    · exact absurd rfl c47
  · exact absurd (Int32.not_lt.mp (fun hx => h0 ((tI_lt0 (by omega)).mp hx))) c19
theorem k9_divideZ (g : bw_G) {A : bw_H} {x n rn mn pn sn b b' k k' : Nat} {PA : Nat → Option Nat} {f' : Nat → Nat} {w' : Value} {z : Int32} (hC : bw_has A [(x, xob x n rn mn pn sn), (x + 7, bw_aq g 4 40 PA)]) (hp' : bw_has A (ppl g b' 65 f' w')) (hf' : pok n 65 f') (hk : k < pn) (hk' : k' < pn) (hm : pn = 40) (ha : PA k = some b) (ha' : PA k' = some b') (h0 : pd f' ≠ 0) : bw_C g (bw_rm 8 20 200) mX9_divide [.ref x, .int (nI k), .int (nI k'), .int z] A (bw_pz eUO A) := by
  have h2 := hf'.le (by omega)
  refine bw_C.of (by decide) (Nat.le_of_ble_eq_true rfl) rfl ?_
  refine bw_aload_n 1 dX9_divide_0 rfl rfl ?_
  refine bw_iload_n 2 dX9_divide_1 rfl rfl ?_
  refine bw_cVr 5 dX9_divide_2 rfl vX9_257 (c9_pa g (hC.sub [0, 1] (by decide) rfl) hk (by omega) ha) (hC.at 0 rfl) rfl rfl (Nat.le_of_ble_eq_true rfl) ⟨(Nat.le_of_ble_eq_true rfl), (Nat.le_of_ble_eq_true rfl)⟩ (Nat.le_of_ble_eq_true rfl) (Nat.le_of_ble_eq_true rfl) ?_
  refine bw_astore 7 dX9_divide_5 rfl (by decide) ?_
  refine bw_aload_n 8 dX9_divide_7 rfl rfl ?_
  refine bw_iload_n 9 dX9_divide_8 rfl rfl ?_
  refine bw_cVr 12 dX9_divide_9 rfl vX9_257 (c9_pa g (hC.sub [0, 1] (by decide) rfl) hk' (by omega) ha') (hC.at 0 rfl) rfl rfl (Nat.le_of_ble_eq_true rfl) ⟨(Nat.le_of_ble_eq_true rfl), (Nat.le_of_ble_eq_true rfl)⟩ (Nat.le_of_ble_eq_true rfl) (Nat.le_of_ble_eq_true rfl) ?_
  refine bw_astore 14 dX9_divide_12 rfl (by decide) ?_
  refine bw_aload 16 dX9_divide_14 rfl rfl ?_
  refine bw_get 19 dX9_divide_16 rfl lX9_261 ((hp'.at 0 rfl)) rfl ?_
  refine bw_if_ge 33 22 dX9_divide_19 rfl rfl (fun c19 => ?_) (fun c19 => ?_)
  · refine bw_aload_n 34 dX9_divide_33 rfl rfl ?_
    refine bw_cVz 37 dX9_divide_34 rfl vX9_237 (c9_npX g (hC.sub [0] (by decide) rfl) hm) (hC.at 0 rfl) rfl rfl (Nat.le_of_ble_eq_true rfl) ⟨(Nat.le_of_ble_eq_true rfl), (Nat.le_of_ble_eq_true rfl)⟩ (Nat.le_of_ble_eq_true rfl) (Nat.le_of_ble_eq_true rfl) rfl ?_
    exact fun m hm => ⟨rfl, m, hm, rfl⟩
  · exact absurd (Int32.not_lt.mp (fun hx => h0 ((tI_lt0 (by omega)).mp hx))) c19
theorem k9_divideY (g : bw_G) {A : bw_H} {x n rn mn pn sn b b' k k' : Nat} {PA : Nat → Option Nat} {f' : Nat → Nat} {w' : Value} {z : Int32} (hC : bw_has A [(x, xob x n rn mn pn sn), (x + 7, bw_aq g 4 40 PA)]) (hp' : bw_has A (ppl g b' 65 f' w')) (hf' : pok n 65 f') (hk : k < pn) (hk' : k' < pn) (hm : pn ≤ 40) (ha : PA k = some b) (ha' : PA k' = some b') (h0 : pd f' = 0) : bw_C g (bw_rm 8 20 200) mX9_divide [.ref x, .int (nI k), .int (nI k'), .int z] A (bw_pz eAE A) := by
  have h2 := hf'.le (by omega)
  refine bw_C.of (by decide) (Nat.le_of_ble_eq_true rfl) rfl ?_
  refine bw_aload_n 1 dX9_divide_0 rfl rfl ?_
  refine bw_iload_n 2 dX9_divide_1 rfl rfl ?_
  refine bw_cVr 5 dX9_divide_2 rfl vX9_257 (c9_pa g (hC.sub [0, 1] (by decide) rfl) hk (by omega) ha) (hC.at 0 rfl) rfl rfl (Nat.le_of_ble_eq_true rfl) ⟨(Nat.le_of_ble_eq_true rfl), (Nat.le_of_ble_eq_true rfl)⟩ (Nat.le_of_ble_eq_true rfl) (Nat.le_of_ble_eq_true rfl) ?_
  refine bw_astore 7 dX9_divide_5 rfl (by decide) ?_
  refine bw_aload_n 8 dX9_divide_7 rfl rfl ?_
  refine bw_iload_n 9 dX9_divide_8 rfl rfl ?_
  refine bw_cVr 12 dX9_divide_9 rfl vX9_257 (c9_pa g (hC.sub [0, 1] (by decide) rfl) hk' (by omega) ha') (hC.at 0 rfl) rfl rfl (Nat.le_of_ble_eq_true rfl) ⟨(Nat.le_of_ble_eq_true rfl), (Nat.le_of_ble_eq_true rfl)⟩ (Nat.le_of_ble_eq_true rfl) (Nat.le_of_ble_eq_true rfl) ?_
  refine bw_astore 14 dX9_divide_12 rfl (by decide) ?_
  refine bw_aload 16 dX9_divide_14 rfl rfl ?_
  refine bw_get 19 dX9_divide_16 rfl lX9_261 ((hp'.at 0 rfl)) rfl ?_
  refine bw_if_ge 33 22 dX9_divide_19 rfl rfl (fun c19 => ?_) (fun c19 => ?_)
  · exact absurd ((tI_lt0 (by omega)).mpr h0) (Int32.not_lt.mpr c19)
  · skip
    refine bw_throwW "a quotient by the polynomial 0" dX9_divide_22 dX9_divide_25 dX9_divide_26 dX9_divide_29 dX9_divide_32 tX9_107 (by decide +kernel) rfl (Nat.le_of_ble_eq_true rfl) (Nat.le_of_ble_eq_true rfl) (Nat.le_of_ble_eq_true rfl) (Nat.le_of_ble_eq_true rfl) ?_
    exact fun m hm => ⟨rfl, m, hm, rfl⟩
theorem k9_divideX (g : bw_G) {A : bw_H} {x n rn mn pn sn : Nat} {a b z : Int32} {PA : Nat → Option Nat} (hC : bw_has A [(x, xob x n rn mn pn sn), (x + 7, bw_aq g 4 40 PA)]) (hm : pn ≤ 40) (hs : ∀ k, k < pn → ∃ P, PA k = some P) (h : ¬ (kI pn a ∧ kI pn b)) : bw_C g (bw_rm 8 20 200) mX9_divide [.ref x, .int a, .int b, .int z] A (bw_pz eIO A) := by
  refine bw_C.of (by decide) (Nat.le_of_ble_eq_true rfl) rfl ?_
  by_cases ha : kI pn a
  · obtain ⟨k, hk, rfl⟩ := kI_of (by omega) ha
    obtain ⟨P, haL⟩ := hs k hk
    refine bw_aload_n 1 dX9_divide_0 rfl rfl ?_
    refine bw_iload_n 2 dX9_divide_1 rfl rfl ?_
    refine bw_cVr 5 dX9_divide_2 rfl vX9_257 (c9_pa g (hC.sub [0, 1] (by decide) rfl) hk hm haL) (hC.at 0 rfl) rfl rfl (Nat.le_of_ble_eq_true rfl) ⟨(Nat.le_of_ble_eq_true rfl), (Nat.le_of_ble_eq_true rfl)⟩ (Nat.le_of_ble_eq_true rfl) (Nat.le_of_ble_eq_true rfl) ?_
    refine bw_astore 7 dX9_divide_5 rfl (by decide) ?_
    refine bw_aload_n 8 dX9_divide_7 rfl rfl ?_
    refine bw_iload_n 9 dX9_divide_8 rfl rfl ?_
    refine bw_cVz 12 dX9_divide_9 rfl vX9_257 (c9_paX g (hC.sub [0] (by decide) rfl) (fun hb => h ⟨ha, hb⟩)) (hC.at 0 rfl) rfl rfl (Nat.le_of_ble_eq_true rfl) ⟨(Nat.le_of_ble_eq_true rfl), (Nat.le_of_ble_eq_true rfl)⟩ (Nat.le_of_ble_eq_true rfl) (Nat.le_of_ble_eq_true rfl) rfl ?_
    exact fun m hm => ⟨rfl, m, hm, rfl⟩
  · skip
    refine bw_aload_n 1 dX9_divide_0 rfl rfl ?_
    refine bw_iload_n 2 dX9_divide_1 rfl rfl ?_
    refine bw_cVz 5 dX9_divide_2 rfl vX9_257 (c9_paX g (hC.sub [0] (by decide) rfl) ha) (hC.at 0 rfl) rfl rfl (Nat.le_of_ble_eq_true rfl) ⟨(Nat.le_of_ble_eq_true rfl), (Nat.le_of_ble_eq_true rfl)⟩ (Nat.le_of_ble_eq_true rfl) (Nat.le_of_ble_eq_true rfl) rfl ?_
    exact fun m hm => ⟨rfl, m, hm, rfl⟩
set_option maxHeartbeats 4000000 in
set_option maxRecDepth 100000 in
theorem k9_common (g : bw_G) {A0 : bw_H} {x n p gg rn mn pn sn a b b' k k' mw mv : Nat} {PA : Nat → Option Nat} {f f' fw fv : Nat → Nat} {w w' : Value} (hG : GFg n p gg) (hC : bw_has A0 ((x, xob x n rn mn pn sn) :: (x + 7, bw_aq g 4 40 PA) :: (pcl g (x + 1) 129 fw mw .null ++ (pcl g (x + 3) 129 fv mv .null ++ dvl g n p gg (x + 33) (x + 9))))) (hww : pwk 129 fw mw) (hwv : pwk 129 fv mv) (hp : bw_has A0 (ppl g b 65 f w)) (hp' : bw_has A0 (ppl g b' 65 f' w')) (hz : A0.1 = a) (hf : pok n 65 f) (hf' : pok n 65 f') (hb : x + 34 ≤ b) (hb' : x + 34 ≤ b') (hba : b + 1 < a) (hba' : b' + 1 < a) (hk : k < pn) (hk' : k' < pn) (hm : pn < 40) (ha : PA k = some b) (ha' : PA k' = some b') : bw_C g (bw_rm 8 20 200) mX9_common [.ref x, .int (nI k), .int (nI k')] A0 (bw_pm (fun y A' => kqP g x n rn mn pn sn a PA (ggcd n (2 ^ n ||| p) f f') [x, x + 7, x + 1, x + 2, x + 3, x + 4] A0 y A' ∧ ∃ fb mb, pwk 129 fb mb ∧ bw_has A' (pcl g (x + 3) 129 fb mb .null))) := by
  have h1 := hf.le (by omega)
  have h2 := hf'.le (by omega)
  have hW : bw_ff a [x, x + 7, x + 1, x + 2, x + 3, x + 4] A0 A0 := bw_ff.rf
  refine bw_C.of (by decide) (Nat.le_of_ble_eq_true rfl) rfl ?_
  refine bw_aload_n 1 dX9_common_0 rfl rfl ?_
  refine bw_iload_n 2 dX9_common_1 rfl rfl ?_
  refine bw_cVr 5 dX9_common_2 rfl vX9_257 (c9_pa g (hC.sub [0, 1] (by decide) rfl) hk (by omega) ha) (hC.at 0 rfl) rfl rfl (Nat.le_of_ble_eq_true rfl) ⟨(Nat.le_of_ble_eq_true rfl), (Nat.le_of_ble_eq_true rfl)⟩ (Nat.le_of_ble_eq_true rfl) (Nat.le_of_ble_eq_true rfl) ?_
  refine bw_astore_n 6 dX9_common_5 rfl (by decide) ?_
  refine bw_aload_n 7 dX9_common_6 rfl rfl ?_
  refine bw_iload_n 8 dX9_common_7 rfl rfl ?_
  refine bw_cVr 11 dX9_common_8 rfl vX9_257 (c9_pa g (hC.sub [0, 1] (by decide) rfl) hk' (by omega) ha') (hC.at 0 rfl) rfl rfl (Nat.le_of_ble_eq_true rfl) ⟨(Nat.le_of_ble_eq_true rfl), (Nat.le_of_ble_eq_true rfl)⟩ (Nat.le_of_ble_eq_true rfl) (Nat.le_of_ble_eq_true rfl) ?_
  refine bw_astore 13 dX9_common_11 rfl (by decide) ?_
  refine bw_aload_n 14 dX9_common_13 rfl rfl ?_
  refine bw_cVv 17 dX9_common_14 rfl vX9_237 (c9_np g (hC.sub [0] (by decide) rfl) hm) (hC.at 0 rfl) rfl rfl (Nat.le_of_ble_eq_true rfl) ⟨(Nat.le_of_ble_eq_true rfl), (Nat.le_of_ble_eq_true rfl)⟩ (Nat.le_of_ble_eq_true rfl) (Nat.le_of_ble_eq_true rfl) (fun A hP => ?_)
  subst hP
  refine bw_aload_n 18 dX9_common_17 rfl rfl ?_
  refine bw_get 21 dX9_common_18 rfl lX9_14 (hC.at 0 rfl) rfl ?_
  refine bw_aload_n 22 dX9_common_21 rfl rfl ?_
  refine bw_cVv 25 dX9_common_22 rfl vX9_273 (c7_copyP g hG.p16 (bw_has.ap (ws := pcl g (x + 1) 129 fw mw .null) (hC.sub [2, 3] (by decide) rfl) (hW.has hp (by simp <;> omega)) (by simp <;> omega)) (by omega) (by omega) hww hf (by omega)) (hC.at 2 rfl) rfl rfl (Nat.le_of_ble_eq_true rfl) ⟨(Nat.le_of_ble_eq_true rfl), (Nat.le_of_ble_eq_true rfl)⟩ (Nat.le_of_ble_eq_true rfl) (Nat.le_of_ble_eq_true rfl) (fun A hP => ?_)
  have hW := hW.po hP (Or.inr (by simp)) (Or.inr (by simp))
  have hz := (congrArg Prod.fst hP).trans hz
  have hC := hC.po 2 3 rfl rfl hP
  refine bw_aload_n 26 dX9_common_25 rfl rfl ?_
  refine bw_get 29 dX9_common_26 rfl lX9_18 (hC.at 0 rfl) rfl ?_
  refine bw_aload 31 dX9_common_29 rfl rfl ?_
  refine bw_cVv 34 dX9_common_31 rfl vX9_273 (c7_copyP g hG.p16 (bw_has.ap (ws := pcl g (x + 3) 129 fv mv .null) (hC.sub [4, 5] (by decide) rfl) (hW.has hp' (by simp <;> omega)) (by simp <;> omega)) (by omega) (by omega) hwv hf' (by omega)) (hC.at 4 rfl) rfl rfl (Nat.le_of_ble_eq_true rfl) ⟨(Nat.le_of_ble_eq_true rfl), (Nat.le_of_ble_eq_true rfl)⟩ (Nat.le_of_ble_eq_true rfl) (Nat.le_of_ble_eq_true rfl) (fun A hP => ?_)
  have hW := hW.po hP (Or.inr (by simp)) (Or.inr (by simp))
  have hz := (congrArg Prod.fst hP).trans hz
  have hC := hC.po 4 5 rfl rfl hP
  refine bw_aload_n 35 dX9_common_34 rfl rfl ?_
  refine bw_get 38 dX9_common_35 rfl lX9_66 (hC.at 0 rfl) rfl ?_
  refine bw_aload_n 39 dX9_common_38 rfl rfl ?_
  refine bw_get 42 dX9_common_39 rfl lX9_14 (hC.at 0 rfl) rfl ?_
  refine bw_aload_n 43 dX9_common_42 rfl rfl ?_
  refine bw_get 46 dX9_common_43 rfl lX9_18 (hC.at 0 rfl) rfl ?_
  refine bw_cVv 49 dX9_common_46 rfl vX9_296 (c0_toGreatestDivisor g hG (hC.sub [6, 7, 8, 2, 3, 4, 5] (by decide) rfl) (by omega) (hf.mono (by omega)) (hf'.mono (by omega))) (hC.at 6 rfl) rfl rfl (Nat.le_of_ble_eq_true rfl) ⟨(Nat.le_of_ble_eq_true rfl), (Nat.le_of_ble_eq_true rfl)⟩ (Nat.le_of_ble_eq_true rfl) (Nat.le_of_ble_eq_true rfl) (fun A hP => ?_)
  obtain ⟨hs1, fb, mb, hs2, hs3⟩ := hP
  have hC := hC.call [2, 3, 4, 5] (ppl g (x + 1) 129 (ggcd n (2 ^ n ||| p) f f') .null ++ pcl g (x + 3) 129 fb mb .null) rfl rfl hs1 hs3.1
  have hW := hW.sm hs1 (by simp <;> omega)
  have hz := hs1.1.trans hz
  refine bw_aload_n 50 dX9_common_49 rfl rfl ?_
  refine bw_aload_n 51 dX9_common_50 rfl rfl ?_
  refine bw_get 54 dX9_common_51 rfl lX9_14 (hC.at 0 rfl) rfl ?_
  refine bw_cVm 57 dX9_common_54 rfl vX9_243 (c9_keepPolynomial g hG.p16 (hC.sub [0, 1, 2, 3] (by decide) rfl) (by omega) (ggcd_ok hG.2.2.1 (by omega) (hf.mono (by omega)) (hf'.mono (by omega))) (pd_le (ggcd_ok hG.2.2.1 (N := 65) (by omega) hf hf').1 (by omega)) hm hz) (hC.at 0 rfl) rfl rfl (Nat.le_of_ble_eq_true rfl) ⟨(Nat.le_of_ble_eq_true rfl), (Nat.le_of_ble_eq_true rfl)⟩ (Nat.le_of_ble_eq_true rfl) (Nat.le_of_ble_eq_true rfl) (fun x A hP => ?_)
  refine bw_iret dX9_common_57 rfl (Nat.le_of_ble_eq_true rfl) (Nat.le_of_ble_eq_true rfl) ?_
  exact ⟨_, rfl, kq_of hP (hC.sub [2, 3] (by decide) rfl) hW (by simp) (by omega), fb, mb, hs2, hP.2.2.2.ff.has (hC.sub [4, 5] (by decide) rfl) (by simp <;> omega)⟩
theorem k9_commonY (g : bw_G) {A : bw_H} {x n rn mn pn sn b b' k k' : Nat} {PA : Nat → Option Nat} (hC : bw_has A [(x, xob x n rn mn pn sn), (x + 7, bw_aq g 4 40 PA)]) (hk : k < pn) (hk' : k' < pn) (hm : pn = 40) (ha : PA k = some b) (ha' : PA k' = some b') : bw_C g (bw_rm 8 20 200) mX9_common [.ref x, .int (nI k), .int (nI k')] A (bw_pz eUO A) := by
  refine bw_C.of (by decide) (Nat.le_of_ble_eq_true rfl) rfl ?_
  refine bw_aload_n 1 dX9_common_0 rfl rfl ?_
  refine bw_iload_n 2 dX9_common_1 rfl rfl ?_
  refine bw_cVr 5 dX9_common_2 rfl vX9_257 (c9_pa g (hC.sub [0, 1] (by decide) rfl) hk (by omega) ha) (hC.at 0 rfl) rfl rfl (Nat.le_of_ble_eq_true rfl) ⟨(Nat.le_of_ble_eq_true rfl), (Nat.le_of_ble_eq_true rfl)⟩ (Nat.le_of_ble_eq_true rfl) (Nat.le_of_ble_eq_true rfl) ?_
  refine bw_astore_n 6 dX9_common_5 rfl (by decide) ?_
  refine bw_aload_n 7 dX9_common_6 rfl rfl ?_
  refine bw_iload_n 8 dX9_common_7 rfl rfl ?_
  refine bw_cVr 11 dX9_common_8 rfl vX9_257 (c9_pa g (hC.sub [0, 1] (by decide) rfl) hk' (by omega) ha') (hC.at 0 rfl) rfl rfl (Nat.le_of_ble_eq_true rfl) ⟨(Nat.le_of_ble_eq_true rfl), (Nat.le_of_ble_eq_true rfl)⟩ (Nat.le_of_ble_eq_true rfl) (Nat.le_of_ble_eq_true rfl) ?_
  refine bw_astore 13 dX9_common_11 rfl (by decide) ?_
  refine bw_aload_n 14 dX9_common_13 rfl rfl ?_
  refine bw_cVz 17 dX9_common_14 rfl vX9_237 (c9_npX g (hC.sub [0] (by decide) rfl) hm) (hC.at 0 rfl) rfl rfl (Nat.le_of_ble_eq_true rfl) ⟨(Nat.le_of_ble_eq_true rfl), (Nat.le_of_ble_eq_true rfl)⟩ (Nat.le_of_ble_eq_true rfl) (Nat.le_of_ble_eq_true rfl) rfl ?_
  exact fun m hm => ⟨rfl, m, hm, rfl⟩
theorem k9_commonX (g : bw_G) {A : bw_H} {x n rn mn pn sn : Nat} {a b : Int32} {PA : Nat → Option Nat} (hC : bw_has A [(x, xob x n rn mn pn sn), (x + 7, bw_aq g 4 40 PA)]) (hm : pn ≤ 40) (hs : ∀ k, k < pn → ∃ P, PA k = some P) (h : ¬ (kI pn a ∧ kI pn b)) : bw_C g (bw_rm 8 20 200) mX9_common [.ref x, .int a, .int b] A (bw_pz eIO A) := by
  refine bw_C.of (by decide) (Nat.le_of_ble_eq_true rfl) rfl ?_
  by_cases ha : kI pn a
  · obtain ⟨k, hk, rfl⟩ := kI_of (by omega) ha
    obtain ⟨P, haL⟩ := hs k hk
    refine bw_aload_n 1 dX9_common_0 rfl rfl ?_
    refine bw_iload_n 2 dX9_common_1 rfl rfl ?_
    refine bw_cVr 5 dX9_common_2 rfl vX9_257 (c9_pa g (hC.sub [0, 1] (by decide) rfl) hk hm haL) (hC.at 0 rfl) rfl rfl (Nat.le_of_ble_eq_true rfl) ⟨(Nat.le_of_ble_eq_true rfl), (Nat.le_of_ble_eq_true rfl)⟩ (Nat.le_of_ble_eq_true rfl) (Nat.le_of_ble_eq_true rfl) ?_
    refine bw_astore_n 6 dX9_common_5 rfl (by decide) ?_
    refine bw_aload_n 7 dX9_common_6 rfl rfl ?_
    refine bw_iload_n 8 dX9_common_7 rfl rfl ?_
    refine bw_cVz 11 dX9_common_8 rfl vX9_257 (c9_paX g (hC.sub [0] (by decide) rfl) (fun hb => h ⟨ha, hb⟩)) (hC.at 0 rfl) rfl rfl (Nat.le_of_ble_eq_true rfl) ⟨(Nat.le_of_ble_eq_true rfl), (Nat.le_of_ble_eq_true rfl)⟩ (Nat.le_of_ble_eq_true rfl) (Nat.le_of_ble_eq_true rfl) rfl ?_
    exact fun m hm => ⟨rfl, m, hm, rfl⟩
  · skip
    refine bw_aload_n 1 dX9_common_0 rfl rfl ?_
    refine bw_iload_n 2 dX9_common_1 rfl rfl ?_
    refine bw_cVz 5 dX9_common_2 rfl vX9_257 (c9_paX g (hC.sub [0] (by decide) rfl) ha) (hC.at 0 rfl) rfl rfl (Nat.le_of_ble_eq_true rfl) ⟨(Nat.le_of_ble_eq_true rfl), (Nat.le_of_ble_eq_true rfl)⟩ (Nat.le_of_ble_eq_true rfl) (Nat.le_of_ble_eq_true rfl) rfl ?_
    exact fun m hm => ⟨rfl, m, hm, rfl⟩
theorem k9_root0 (g : bw_G) {A : bw_H} {x n p gg rn mn pn sn b k j : Nat} {PA : Nat → Option Nat} {f : Nat → Nat} {w : Value} (hn : 2 ^ n ≤ 65536) (hC : bw_has A [(x, xob x n rn mn pn sn), (x + 7, bw_aq g 4 40 PA), (x + 9, fob n p gg (x + 9))]) (hp : bw_has A (ppl g b 65 f w)) (hf : pok n 65 f) (h0 : pd f = 0) (hk : k < pn) (hm : pn ≤ 40) (ha : PA k = some b) (hj : j < 2 ^ 31) : bw_C g (bw_rm 8 20 200) mX9_root [.ref x, .int (nI k), .int (nI j)] A (bw_pi (if j < 2 ^ n then nI j else -1) A) := by
  refine bw_C.of (by decide) (Nat.le_of_ble_eq_true rfl) rfl ?_
  refine bw_aload_n 1 dX9_root_0 rfl rfl ?_
  refine bw_iload_n 2 dX9_root_1 rfl rfl ?_
  refine bw_cVr 5 dX9_root_2 rfl vX9_257 (c9_pa g (hC.sub [0, 1] (by decide) rfl) hk hm ha) (hC.at 0 rfl) rfl rfl (Nat.le_of_ble_eq_true rfl) ⟨(Nat.le_of_ble_eq_true rfl), (Nat.le_of_ble_eq_true rfl)⟩ (Nat.le_of_ble_eq_true rfl) (Nat.le_of_ble_eq_true rfl) ?_
  refine bw_astore_n 6 dX9_root_5 rfl (by decide) ?_
  refine bw_iload_n 7 dX9_root_6 rfl rfl ?_
  refine bw_if_ge 21 10 dX9_root_7 rfl rfl (fun c7 => ?_) (fun c7 => ?_)
  · refine bw_aload_n 22 dX9_root_21 rfl rfl ?_
    refine bw_get 25 dX9_root_22 rfl lX9_261 ((hp.at 0 rfl)) rfl ?_
    refine bw_if_ge 45 28 dX9_root_25 rfl rfl (fun c25 => ?_) (fun c25 => ?_)
    · exact absurd ((tI_lt0 (by omega)).mpr h0) (Int32.not_lt.mpr c25)
    · refine bw_iload_n 29 dX9_root_28 rfl rfl ?_
      refine bw_aload_n 30 dX9_root_29 rfl rfl ?_
      refine bw_get 33 dX9_root_30 rfl lX9_43 (hC.at 0 rfl) rfl ?_
      refine bw_get 36 dX9_root_33 rfl lX9_301 (hC.at 2 rfl) rfl ?_
      refine bw_icmp_ge 43 39 dX9_root_36 rfl rfl (fun c36 => ?_) (fun c36 => ?_)
      · have hge : ¬ j < 2 ^ n := Nat.not_lt.mpr ((nI_leI (by omega) hj).mp c36)
        refine bw_iconst (-1) 44 dX9_root_43 (by decide) rfl ?_
        refine bw_iret dX9_root_44 rfl (Nat.le_of_ble_eq_true rfl) (Nat.le_of_ble_eq_true rfl) ?_
        exact ⟨by first | rw [if_pos hlt] | rw [if_neg hge], rfl⟩
      · have hlt : j < 2 ^ n := Nat.not_le.mp (fun h => c36 (nI_le h hj))
        refine bw_iload_n 40 dX9_root_39 rfl rfl ?_
        refine bw_goto 44 dX9_root_40 rfl ?_
        refine bw_iret dX9_root_44 rfl (Nat.le_of_ble_eq_true rfl) (Nat.le_of_ble_eq_true rfl) ?_
        exact ⟨by first | rw [if_pos hlt] | rw [if_neg hge], rfl⟩
  · exact absurd (Int32.not_lt.mp (nI_pos hj)) c7
theorem k9_root (g : bw_G) {A : bw_H} {x n rn mn pn sn b k j R : Nat} {PA : Nat → Option Nat} {f : Nat → Nat} {w : Value} {e : va_E} {fs : List Value} {Q : Int32 → bw_H → Prop} (hR : R = x + 37) (he : e = .inr (10, fs)) (hC : bw_has A [(x, xob x n rn mn pn sn), (x + 7, bw_aq g 4 40 PA), (x + 37, .inr (10, fs))]) (hp : bw_has A (ppl g b 65 f w)) (hf : pok n 65 f) (h0 : pd f ≠ 0) (hk : k < pn) (hm : pn ≤ 40) (ha : PA k = some b) (hj : j < 2 ^ 31) (hfd : bw_C g (bw_rm 5 0 0) mX8_find [.ref (x + 37), .ref b, .int (nI j)] A (bw_pm Q)) : bw_C g (bw_rm 8 20 200) mX9_root [.ref x, .int (nI k), .int (nI j)] A (bw_pm Q) := by
  have h2 := hf.le (by omega)
  refine bw_C.of (by decide) (Nat.le_of_ble_eq_true rfl) rfl ?_
  refine bw_aload_n 1 dX9_root_0 rfl rfl ?_
  refine bw_iload_n 2 dX9_root_1 rfl rfl ?_
  refine bw_cVr 5 dX9_root_2 rfl vX9_257 (c9_pa g (hC.sub [0, 1] (by decide) rfl) hk hm ha) (hC.at 0 rfl) rfl rfl (Nat.le_of_ble_eq_true rfl) ⟨(Nat.le_of_ble_eq_true rfl), (Nat.le_of_ble_eq_true rfl)⟩ (Nat.le_of_ble_eq_true rfl) (Nat.le_of_ble_eq_true rfl) ?_
  refine bw_astore_n 6 dX9_root_5 rfl (by decide) ?_
  refine bw_iload_n 7 dX9_root_6 rfl rfl ?_
  refine bw_if_ge 21 10 dX9_root_7 rfl rfl (fun c7 => ?_) (fun c7 => ?_)
  · refine bw_aload_n 22 dX9_root_21 rfl rfl ?_
    refine bw_get 25 dX9_root_22 rfl lX9_261 ((hp.at 0 rfl)) rfl ?_
    refine bw_if_ge 45 28 dX9_root_25 rfl rfl (fun c25 => ?_) (fun c25 => ?_)
    · refine bw_aload_n 46 dX9_root_45 rfl rfl ?_
      refine bw_get 49 dX9_root_46 rfl lX9_82 (hC.at 0 rfl) rfl ?_
      refine bw_aload_n 50 dX9_root_49 rfl rfl ?_
      refine bw_iload_n 51 dX9_root_50 rfl rfl ?_
      refine bw_cVm 54 dX9_root_51 rfl vX9_304 (hfd) (hC.at 2 rfl) rfl rfl (Nat.le_of_ble_eq_true rfl) ⟨(Nat.le_of_ble_eq_true rfl), (Nat.le_of_ble_eq_true rfl)⟩ (Nat.le_of_ble_eq_true rfl) (Nat.le_of_ble_eq_true rfl) (fun x A hP => ?_)
      skip
      refine bw_iret dX9_root_54 rfl (Nat.le_of_ble_eq_true rfl) (Nat.le_of_ble_eq_true rfl) ?_
      exact ⟨_, rfl, hP⟩
    · exact absurd (Int32.not_lt.mp (fun hx => h0 ((tI_lt0 (by omega)).mp hx))) c25
  · exact absurd (Int32.not_lt.mp (nI_pos hj)) c7
theorem k9_rootY (g : bw_G) {A : bw_H} {x n rn mn pn sn b k : Nat} {j : Int32} {PA : Nat → Option Nat} (hC : bw_has A [(x, xob x n rn mn pn sn), (x + 7, bw_aq g 4 40 PA)]) (hk : k < pn) (hm : pn ≤ 40) (ha : PA k = some b) (h : j < 0) : bw_C g (bw_rm 8 20 200) mX9_root [.ref x, .int (nI k), .int j] A (bw_pz eIO A) := by
  refine bw_C.of (by decide) (Nat.le_of_ble_eq_true rfl) rfl ?_
  refine bw_aload_n 1 dX9_root_0 rfl rfl ?_
  refine bw_iload_n 2 dX9_root_1 rfl rfl ?_
  refine bw_cVr 5 dX9_root_2 rfl vX9_257 (c9_pa g (hC.sub [0, 1] (by decide) rfl) hk hm ha) (hC.at 0 rfl) rfl rfl (Nat.le_of_ble_eq_true rfl) ⟨(Nat.le_of_ble_eq_true rfl), (Nat.le_of_ble_eq_true rfl)⟩ (Nat.le_of_ble_eq_true rfl) (Nat.le_of_ble_eq_true rfl) ?_
  refine bw_astore_n 6 dX9_root_5 rfl (by decide) ?_
  refine bw_iload_n 7 dX9_root_6 rfl rfl ?_
  refine bw_if_ge 21 10 dX9_root_7 rfl rfl (fun c7 => ?_) (fun c7 => ?_)
  · exact absurd h (Int32.not_lt.mpr c7)
  · refine bw_throwW "a root below 0" dX9_root_10 dX9_root_13 dX9_root_14 dX9_root_17 dX9_root_20 tX9_143 (by decide +kernel) rfl (Nat.le_of_ble_eq_true rfl) (Nat.le_of_ble_eq_true rfl) (Nat.le_of_ble_eq_true rfl) (Nat.le_of_ble_eq_true rfl) ?_
    exact fun m hm => ⟨rfl, m, hm, rfl⟩
theorem k9_rootX (g : bw_G) {A : bw_H} {x n rn mn pn sn : Nat} {a j : Int32} (hC : bw_has A [(x, xob x n rn mn pn sn)]) (h : ¬ kI pn a) : bw_C g (bw_rm 8 20 200) mX9_root [.ref x, .int a, .int j] A (bw_pz eIO A) := by
  refine bw_C.of (by decide) (Nat.le_of_ble_eq_true rfl) rfl ?_
  refine bw_aload_n 1 dX9_root_0 rfl rfl ?_
  refine bw_iload_n 2 dX9_root_1 rfl rfl ?_
  refine bw_cVz 5 dX9_root_2 rfl vX9_257 (c9_paX g hC h) (hC.at 0 rfl) rfl rfl (Nat.le_of_ble_eq_true rfl) ⟨(Nat.le_of_ble_eq_true rfl), (Nat.le_of_ble_eq_true rfl)⟩ (Nat.le_of_ble_eq_true rfl) (Nat.le_of_ble_eq_true rfl) rfl ?_
  exact fun m hm => ⟨rfl, m, hm, rfl⟩
