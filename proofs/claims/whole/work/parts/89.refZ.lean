/-! the reference: power, log -/
theorem m_raised (g : bw_G) {A : bw_H} {M n p gg th rn mn pn rd rs pt sn a k : Nat} (hG : GFg n p gg) (hC : bw_has A [(M, mdo M n p gg th rn mn pn rd rs pt sn)]) (ha : a < 2 ^ n) (hk : k < 2 ^ 31) : bw_C g (bw_rm 1 0 0) mX10_raised [.ref M, .int (nI a), .int (nI k)] A (bw_pi (nI (gpow n (2 ^ n ||| p) a k)) A) := by
  rw [← gp_eq hG.2.2.1 ha hk]
  exact c10_raised g hG.n16 hC rfl rfl hG.2.1 ha hk hG.2.2.1.one
theorem lN_pred {m : Nat} (h : 0 < m) : lN m + -1 = lN (m - 1) := by
  have e : lN (m - 1) + lN 1 = lN m := by rw [lN_add, show m - 1 + 1 = m by omega]
  rw [← e, Int64.add_assoc, show lN 1 + -1 = 0 by decide, Int64.add_zero]
set_option maxHeartbeats 4000000 in
theorem m_power (g : bw_G) {A : bw_H} {M n p gg th rn mn pn rd rs pt sn a : Nat} {y : Int64} (hG : GFg n p gg) (hC : bw_has A [(M, mdo M n p gg th rn mn pn rd rs pt sn)]) (ha : a < 2 ^ n) (hok0 : ¬ (a = 0 ∧ y < 0)) : bw_C g (bw_rm 8 0 0) mX10_power [.ref M, .int (nI a), .long y] A (bw_pm (maR M [] (mdo M n p gg 0 rn mn pn rd rs pt sn) (nI (gpz n (2 ^ n ||| p) a y)) A)) := by
  have h16 := hG.p16
  have h1 := hG.2.2.1.one
  have hu0 : 0 < 2 ^ n - 1 := by omega
  have hu31 : 2 ^ n - 1 < 2 ^ 31 := by omega
  have hgs := gst_lt hu0 y
  have hlu : ¬ lN (2 ^ n - 1) = 0 := by
    intro h
    have := congrArg Int64.toInt h
    rw [pk_lT (by omega), show (0 : Int64).toInt = 0 by decide] at this
    omega
  have hS : bw_sm [M] A A := bw_sm.rf
  refine bw_C.of (by decide) (Nat.le_of_ble_eq_true rfl) rfl ?_
  by_cases h0 : a = 0
  · have hy : ¬ y < 0 := fun h => hok0 ⟨h0, h⟩
    refine bw_aload_n 1 dX10_power_0 rfl rfl ?_
    refine bw_iconst (0) 2 dX10_power_1 (by decide) rfl ?_
    refine bw_eqi (y := nI 0) rfl ?_
    refine bw_putU 5 dX10_power_2 rfl pX10_1 (hC.at 0 rfl) rfl rfl (Nat.le_of_ble_eq_true rfl) (fun A hU => ?_)
    have hC := hC.upd 0 rfl hU
    have hS := hS.upd hU (by simp)
    clear hU
    refine bw_aload_n 6 dX10_power_5 rfl rfl ?_
    refine bw_iload_n 7 dX10_power_6 rfl rfl ?_
    refine bw_cVi 10 dX10_power_7 rfl vX10_115 (m_isMember g hC (mI_nI hG.p16 ha)) (hC.at 0 rfl) rfl rfl (Nat.le_of_ble_eq_true rfl) ⟨(Nat.le_of_ble_eq_true rfl), (Nat.le_of_ble_eq_true rfl)⟩ (Nat.le_of_ble_eq_true rfl) (Nat.le_of_ble_eq_true rfl) ?_
    refine bw_if_ne 19 13 dX10_power_10 rfl rfl (fun c10 => ?_) (fun c10 => ?_)
    · refine bw_iload_n 20 dX10_power_19 rfl rfl ?_
      refine bw_if_ne 49 23 dX10_power_20 rfl rfl (fun c20 => ?_) (fun c20 => ?_)
      · exact absurd (by rw [h0]; rfl) c20
      · refine bw_lload_n 24 dX10_power_23 rfl rfl ?_
        refine bw_lconst 0 25 dX10_power_24 (by decide) rfl ?_
        refine bw_lcmp 26 dX10_power_25 rfl ?_
        refine bw_if_ge 37 29 dX10_power_26 rfl rfl (fun c26 => ?_) (fun c26 => ?_)
        · refine bw_lload_n 38 dX10_power_37 rfl rfl ?_
          refine bw_lconst 0 39 dX10_power_38 (by decide) rfl ?_
          refine bw_lcmp 40 dX10_power_39 rfl ?_
          refine bw_if_ne 47 43 dX10_power_40 rfl rfl (fun c40 => ?_) (fun c40 => ?_)
          · have hx : y ≠ 0 := fun h => c40 (lg_cmp0.mpr h)
            rw [show gpz n (2 ^ n ||| p) a y = 0 from (if_pos h0).trans (if_neg hx)]
            refine bw_iconst (0) 48 dX10_power_47 (by decide) rfl ?_
            refine bw_eqi (y := nI 0) rfl ?_
            refine bw_iret dX10_power_48 rfl (Nat.le_of_ble_eq_true rfl) (Nat.le_of_ble_eq_true rfl) ?_
            exact ⟨_, rfl, rfl, hS, hC.at 0 rfl⟩
          · have hx : y = 0 := lg_cmp0.mp c40
            rw [show gpz n (2 ^ n ||| p) a y = 1 from (if_pos h0).trans (if_pos hx)]
            refine bw_iconst (1) 44 dX10_power_43 (by decide) rfl ?_
            refine bw_eqi (y := nI 1) rfl ?_
            refine bw_goto 48 dX10_power_44 rfl ?_
            refine bw_iret dX10_power_48 rfl (Nat.le_of_ble_eq_true rfl) (Nat.le_of_ble_eq_true rfl) ?_
            exact ⟨_, rfl, rfl, hS, hC.at 0 rfl⟩
        · exact absurd (lg_cmpG.mpr (Int64.not_lt.mp hy)) c26
    · exact absurd c10 (by decide)
  · skip
    refine bw_aload_n 1 dX10_power_0 rfl rfl ?_
    refine bw_iconst (0) 2 dX10_power_1 (by decide) rfl ?_
    refine bw_eqi (y := nI 0) rfl ?_
    refine bw_putU 5 dX10_power_2 rfl pX10_1 (hC.at 0 rfl) rfl rfl (Nat.le_of_ble_eq_true rfl) (fun A hU => ?_)
    have hC := hC.upd 0 rfl hU
    have hS := hS.upd hU (by simp)
    clear hU
    refine bw_aload_n 6 dX10_power_5 rfl rfl ?_
    refine bw_iload_n 7 dX10_power_6 rfl rfl ?_
    refine bw_cVi 10 dX10_power_7 rfl vX10_115 (m_isMember g hC (mI_nI hG.p16 ha)) (hC.at 0 rfl) rfl rfl (Nat.le_of_ble_eq_true rfl) ⟨(Nat.le_of_ble_eq_true rfl), (Nat.le_of_ble_eq_true rfl)⟩ (Nat.le_of_ble_eq_true rfl) (Nat.le_of_ble_eq_true rfl) ?_
    refine bw_if_ne 19 13 dX10_power_10 rfl rfl (fun c10 => ?_) (fun c10 => ?_)
    · refine bw_iload_n 20 dX10_power_19 rfl rfl ?_
      refine bw_if_ne 49 23 dX10_power_20 rfl rfl (fun c20 => ?_) (fun c20 => ?_)
      · refine bw_lload_n 50 dX10_power_49 rfl rfl ?_
        refine bw_aload_n 51 dX10_power_50 rfl rfl ?_
        refine bw_get 54 dX10_power_51 rfl lX10_78 (hC.at 0 rfl) rfl ?_
        refine bw_iconst (1) 55 dX10_power_54 (by decide) rfl ?_
        refine bw_isub 56 dX10_power_55 rfl ?_
        refine bw_eqi (pk_sub (a := 2 ^ n) (b := 1) (by omega)) ?_
        refine bw_i2l 57 dX10_power_56 rfl ?_
        refine bw_eql (nI_l (by omega)) ?_
        refine bw_lrem 58 dX10_power_57 (by exact hlu) rfl ?_
        refine bw_lstore 60 dX10_power_58 rfl (by decide) ?_
        refine bw_aload_n 61 dX10_power_60 rfl rfl ?_
        refine bw_iload_n 62 dX10_power_61 rfl rfl ?_
        refine bw_lload 64 dX10_power_62 rfl rfl ?_
        refine bw_lconst 0 65 dX10_power_64 (by decide) rfl ?_
        refine bw_lcmp 66 dX10_power_65 rfl ?_
        refine bw_if_ge 82 69 dX10_power_66 rfl rfl (fun c66 => ?_) (fun c66 => ?_)
        · have hge : 0 ≤ y - y / lN (2 ^ n - 1) * lN (2 ^ n - 1) := lg_cmpG.mp c66
          have hst : y - y / lN (2 ^ n - 1) * lN (2 ^ n - 1) = lN (gst (2 ^ n - 1) y) := by
            have := lrem_gst (x := y) hu0 hu31
            rw [if_pos hge] at this
            exact this
          refine bw_lload 84 dX10_power_82 rfl rfl ?_
          refine bw_eql (hst) ?_
          refine bw_l2i 85 dX10_power_84 rfl ?_
          refine bw_eqi (lN_i _) ?_
          refine bw_cVi 88 dX10_power_85 rfl vX10_105 (m_raised g hG hC ha (by omega)) (hC.at 0 rfl) rfl rfl (Nat.le_of_ble_eq_true rfl) ⟨(Nat.le_of_ble_eq_true rfl), (Nat.le_of_ble_eq_true rfl)⟩ (Nat.le_of_ble_eq_true rfl) (Nat.le_of_ble_eq_true rfl) ?_
          refine bw_iret dX10_power_88 rfl (Nat.le_of_ble_eq_true rfl) (Nat.le_of_ble_eq_true rfl) ?_
          exact ⟨_, rfl, (show nI (gpow n (2 ^ n ||| p) a (gst (2 ^ n - 1) y)) = nI (gpz n (2 ^ n ||| p) a y) from congrArg nI (if_neg h0).symm), hS, hC.at 0 rfl⟩
        · have hge : ¬ 0 ≤ y - y / lN (2 ^ n - 1) * lN (2 ^ n - 1) := fun h => c66 (lg_cmpG.mpr h)
          have hst : y - y / lN (2 ^ n - 1) * lN (2 ^ n - 1) + lN (2 ^ n) - 1 = lN (gst (2 ^ n - 1) y) := by
            have := lrem_gst (x := y) hu0 hu31
            rw [if_neg hge] at this
            rw [← this, Int64.sub_eq_add_neg _ 1, Int64.add_assoc, show lN (2 ^ n) + -1 = lN (2 ^ n - 1) from lN_pred (by omega)]
          refine bw_lload 71 dX10_power_69 rfl rfl ?_
          refine bw_aload_n 72 dX10_power_71 rfl rfl ?_
          refine bw_get 75 dX10_power_72 rfl lX10_78 (hC.at 0 rfl) rfl ?_
          refine bw_i2l 76 dX10_power_75 rfl ?_
          refine bw_eql (nI_l (by omega)) ?_
          refine bw_ladd 77 dX10_power_76 rfl ?_
          refine bw_lconst 1 78 dX10_power_77 (by decide) rfl ?_
          refine bw_lsub 79 dX10_power_78 rfl ?_
          refine bw_eql (hst) ?_
          refine bw_goto 84 dX10_power_79 rfl ?_
          refine bw_l2i 85 dX10_power_84 rfl ?_
          refine bw_eqi (lN_i _) ?_
          refine bw_cVi 88 dX10_power_85 rfl vX10_105 (m_raised g hG hC ha (by omega)) (hC.at 0 rfl) rfl rfl (Nat.le_of_ble_eq_true rfl) ⟨(Nat.le_of_ble_eq_true rfl), (Nat.le_of_ble_eq_true rfl)⟩ (Nat.le_of_ble_eq_true rfl) (Nat.le_of_ble_eq_true rfl) ?_
          refine bw_iret dX10_power_88 rfl (Nat.le_of_ble_eq_true rfl) (Nat.le_of_ble_eq_true rfl) ?_
          exact ⟨_, rfl, (show nI (gpow n (2 ^ n ||| p) a (gst (2 ^ n - 1) y)) = nI (gpz n (2 ^ n ||| p) a y) from congrArg nI (if_neg h0).symm), hS, hC.at 0 rfl⟩
      · exact absurd ((xn_eq0 (by omega)).mp c20) h0
    · exact absurd c10 (by decide)
theorem m_power0 (g : bw_G) {A : bw_H} {M n p gg th rn mn pn rd rs pt sn : Nat} {y : Int64} (hn : 2 ^ n ≤ 65536) (hC : bw_has A [(M, mdo M n p gg th rn mn pn rd rs pt sn)]) (hy : y < 0) : bw_C g (bw_rm 8 0 0) mX10_power [.ref M, .int (nI 0), .long y] A (bw_pm (maR M [] (mdo M n p gg 2 rn mn pn rd rs pt sn) (nI 0) A)) := by
  have hS : bw_sm [M] A A := bw_sm.rf
  refine bw_C.of (by decide) (Nat.le_of_ble_eq_true rfl) rfl ?_
  refine bw_aload_n 1 dX10_power_0 rfl rfl ?_
  refine bw_iconst (0) 2 dX10_power_1 (by decide) rfl ?_
  refine bw_eqi (y := nI 0) rfl ?_
  refine bw_putU 5 dX10_power_2 rfl pX10_1 (hC.at 0 rfl) rfl rfl (Nat.le_of_ble_eq_true rfl) (fun A hU => ?_)
  have hC := hC.upd 0 rfl hU
  have hS := hS.upd hU (by simp)
  clear hU
  refine bw_aload_n 6 dX10_power_5 rfl rfl ?_
  refine bw_iload_n 7 dX10_power_6 rfl rfl ?_
  refine bw_cVi 10 dX10_power_7 rfl vX10_115 (m_isMember g hC (mI_nI hn (Nat.two_pow_pos n))) (hC.at 0 rfl) rfl rfl (Nat.le_of_ble_eq_true rfl) ⟨(Nat.le_of_ble_eq_true rfl), (Nat.le_of_ble_eq_true rfl)⟩ (Nat.le_of_ble_eq_true rfl) (Nat.le_of_ble_eq_true rfl) ?_
  refine bw_if_ne 19 13 dX10_power_10 rfl rfl (fun c10 => ?_) (fun c10 => ?_)
  · refine bw_iload_n 20 dX10_power_19 rfl rfl ?_
    refine bw_if_ne 49 23 dX10_power_20 rfl rfl (fun c20 => ?_) (fun c20 => ?_)
    · exact absurd rfl c20
    · refine bw_lload_n 24 dX10_power_23 rfl rfl ?_
      refine bw_lconst 0 25 dX10_power_24 (by decide) rfl ?_
      refine bw_lcmp 26 dX10_power_25 rfl ?_
      refine bw_if_ge 37 29 dX10_power_26 rfl rfl (fun c26 => ?_) (fun c26 => ?_)
      · exact absurd (lg_cmpG.mp c26) (Int64.not_le.mpr hy)
      · refine bw_aload_n 30 dX10_power_29 rfl rfl ?_
        refine bw_iconst (2) 31 dX10_power_30 (by decide) rfl ?_
        refine bw_eqi (y := nI 2) rfl ?_
        refine bw_cVm 34 dX10_power_31 rfl vX10_118 (m_fail g hC) (hC.at 0 rfl) rfl rfl (Nat.le_of_ble_eq_true rfl) ⟨(Nat.le_of_ble_eq_true rfl), (Nat.le_of_ble_eq_true rfl)⟩ (Nat.le_of_ble_eq_true rfl) (Nat.le_of_ble_eq_true rfl) (fun x A hP => ?_)
        obtain ⟨h4, h5⟩ := hP
        subst h4
        have hC := hC.upd 0 rfl h5
        have hS := hS.upd h5 (by simp)
        refine bw_goto 48 dX10_power_34 rfl ?_
        refine bw_iret dX10_power_48 rfl (Nat.le_of_ble_eq_true rfl) (Nat.le_of_ble_eq_true rfl) ?_
        exact ⟨_, rfl, rfl, hS, hC.at 0 rfl⟩
  · exact absurd c10 (by decide)
theorem m_powerX (g : bw_G) {A : bw_H} {M n p gg th rn mn pn rd rs pt sn : Nat} {a : Int32} {y : Int64} (hC : bw_has A [(M, mdo M n p gg th rn mn pn rd rs pt sn)]) (h : ¬ mI n a) : bw_C g (bw_rm 8 0 0) mX10_power [.ref M, .int a, .long y] A (bw_pm (maR M [] (mdo M n p gg 1 rn mn pn rd rs pt sn) (nI 0) A)) := by
  have hS : bw_sm [M] A A := bw_sm.rf
  refine bw_C.of (by decide) (Nat.le_of_ble_eq_true rfl) rfl ?_
  refine bw_aload_n 1 dX10_power_0 rfl rfl ?_
  refine bw_iconst (0) 2 dX10_power_1 (by decide) rfl ?_
  refine bw_eqi (y := nI 0) rfl ?_
  refine bw_putU 5 dX10_power_2 rfl pX10_1 (hC.at 0 rfl) rfl rfl (Nat.le_of_ble_eq_true rfl) (fun A hU => ?_)
  have hC := hC.upd 0 rfl hU
  have hS := hS.upd hU (by simp)
  clear hU
  refine bw_aload_n 6 dX10_power_5 rfl rfl ?_
  refine bw_iload_n 7 dX10_power_6 rfl rfl ?_
  refine bw_cVi 10 dX10_power_7 rfl vX10_115 (m_isMemberX g hC h) (hC.at 0 rfl) rfl rfl (Nat.le_of_ble_eq_true rfl) ⟨(Nat.le_of_ble_eq_true rfl), (Nat.le_of_ble_eq_true rfl)⟩ (Nat.le_of_ble_eq_true rfl) (Nat.le_of_ble_eq_true rfl) ?_
  refine bw_if_ne 19 13 dX10_power_10 rfl rfl (fun c10 => ?_) (fun c10 => ?_)
  · exact absurd rfl c10
  · refine bw_aload_n 14 dX10_power_13 rfl rfl ?_
    refine bw_iconst (1) 15 dX10_power_14 (by decide) rfl ?_
    refine bw_eqi (y := nI 1) rfl ?_
    refine bw_cVm 18 dX10_power_15 rfl vX10_118 (m_fail g hC) (hC.at 0 rfl) rfl rfl (Nat.le_of_ble_eq_true rfl) ⟨(Nat.le_of_ble_eq_true rfl), (Nat.le_of_ble_eq_true rfl)⟩ (Nat.le_of_ble_eq_true rfl) (Nat.le_of_ble_eq_true rfl) (fun x A hP => ?_)
    obtain ⟨h4, h5⟩ := hP
    subst h4
    have hC := hC.upd 0 rfl h5
    have hS := hS.upd h5 (by simp)
    refine bw_iret dX10_power_18 rfl (Nat.le_of_ble_eq_true rfl) (Nat.le_of_ble_eq_true rfl) ?_
    exact ⟨_, rfl, rfl, hS, hC.at 0 rfl⟩
/-- the factors' product -/
def gsx : Nat → Nat
  | 0 => 1
  | k + 1 => gsx k * gfac k
theorem gsx_f {n k : Nat} (hn : n = 8 ∨ n = 16) (hk : k < if n = 8 then 3 else 4) : gfac k ∣ 2 ^ n - 1 ∧ Nat.Coprime (gsx k) (gfac k) ∧ gsx k * gfac k ≤ 65535 ∧ 0 < gsx k ∧ 0 < gfac k ∧ gfac k ≤ 257 := by
  rcases hn with e | e
  · subst e
    have : k = 0 ∨ k = 1 ∨ k = 2 := by
      have : k < 3 := hk
      omega
    rcases this with e | e | e <;> subst e <;> decide
  · subst e
    have : k = 0 ∨ k = 1 ∨ k = 2 ∨ k = 3 := by
      have : k < 4 := hk
      omega
    rcases this with e | e | e | e <;> subst e <;> decide
theorem gsx_u {n : Nat} (hn : n = 8 ∨ n = 16) : gsx (if n = 8 then 3 else 4) = 2 ^ n - 1 := by
  rcases hn with e | e <;> subst e <;> decide
theorem log_T {L s f : Nat} : (L % s + L / s % f * s) % f = L % f := by
  rw [Nat.add_mod, Nat.mul_mod, Nat.mod_mod, ← Nat.mul_mod, ← Nat.add_mod, Nat.mul_comm, Nat.mod_add_div]
theorem log_S {L s f t : Nat} (hc : Nat.Coprime s f) (hs : 0 < s) (ht : t < f) (he : (L % s + t * s) % f = L % f) : L % s + t * s = L % (s * f) := by
  have h1 : (L % s + t * s) % s = L % s := by rw [Nat.add_mul_mod_self_right, Nat.mod_mod]
  have h2 := crt hc h1 he
  have h3 : L % s + t * s < s * f := by
    have a := Nat.mod_lt L hs
    have b := Nat.mul_le_mul_right s (show t + 1 ≤ f from ht)
    rw [Nat.add_mul, Nat.one_mul] at b
    rw [Nat.mul_comm s f]
    omega
  rwa [Nat.mod_eq_of_lt h3] at h2
set_option maxHeartbeats 4000000 in
theorem m_log_left (g : bw_G) {A : bw_H} {M n p gg th rn mn pn rd rs pt sn a L f x0 s k u : Nat} {Q : bw_O → bw_H → Prop} (hG : GFg n p gg) (hC : bw_has A [(M, mdo M n p gg th rn mn pn rd rs pt sn)]) (hf : f ∣ 2 ^ n - 1) (hf0 : 0 < f) (hLa : gpow n (2 ^ n ||| p) gg L = a)
    (kk : bw_W g (bw_rm 8 0 0) mX10_log Q 0 0 114 [(0, .ref M), (1, .int (nI a)), (2, .int (nI u)), (3, .int (nI x0)), (4, .int (nI s)), (5, .int (nI k)), (6, .int (nI f)), (9, .int (nI (L % f)))] [] A) :
    ∀ (d j : Nat), j + d = L % f →
      bw_W g (bw_rm 8 0 0) mX10_log Q 0 0 91 [(0, .ref M), (1, .int (nI a)), (2, .int (nI u)), (3, .int (nI x0)), (4, .int (nI s)), (5, .int (nI k)), (6, .int (nI f)), (7, .int (nI (gpow n (2 ^ n ||| p) a ((2 ^ n - 1) / f)))), (8, .int (nI (gpow n (2 ^ n ||| p) gg ((2 ^ n - 1) / f)))), (9, .int (nI j)), (10, .int (nI (gpow n (2 ^ n ||| p) (gpow n (2 ^ n ||| p) gg ((2 ^ n - 1) / f)) j)))] [] A := by
  have h16 := hG.p16
  have hL := Nat.mod_lt L hf0
  have hb : ∀ c j, gpow n (2 ^ n ||| p) c j < 2 ^ n := fun c j => gpow_lt hG.2.2.1 c j
  intro d
  induction d with
  | zero =>
    intro j hj
    have hj : j = L % f := by omega
    have he : gpow n (2 ^ n ||| p) (gpow n (2 ^ n ||| p) gg ((2 ^ n - 1) / f)) j = gpow n (2 ^ n ||| p) a ((2 ^ n - 1) / f) := by
      rw [← hLa]
      exact (log_left hG hf hf0).mpr (by rw [hj, Nat.mod_mod])
    refine bw_iload 93 dX10_log_91 rfl rfl ?_
    refine bw_iload 95 dX10_log_93 rfl rfl ?_
    refine bw_icmp_eq 114 98 dX10_log_95 rfl rfl (fun c95 => ?_) (fun c95 => ?_)
    · refine bw_loc _ ?_ kk
      exact ⟨rfl, rfl, rfl, rfl, rfl, rfl, rfl, congrArg (fun x => some (Value.int (nI x))) hj, trivial⟩
    · exact absurd (congrArg nI he) c95
  | succ d ih =>
    intro j hj
    have hne : gpow n (2 ^ n ||| p) (gpow n (2 ^ n ||| p) gg ((2 ^ n - 1) / f)) j ≠ gpow n (2 ^ n ||| p) a ((2 ^ n - 1) / f) := by
      rw [← hLa]
      intro h
      have := (log_left hG hf hf0).mp h
      rw [Nat.mod_eq_of_lt (by omega)] at this
      omega
    refine bw_iload 93 dX10_log_91 rfl rfl ?_
    refine bw_iload 95 dX10_log_93 rfl rfl ?_
    refine bw_icmp_eq 114 98 dX10_log_95 rfl rfl (fun c95 => ?_) (fun c95 => ?_)
    · exact absurd ((nI_eq (by have := hb (gpow n (2 ^ n ||| p) gg ((2 ^ n - 1) / f)) j; omega) (by have := hb a ((2 ^ n - 1) / f); omega)).mp c95) hne
    · skip
      refine bw_aload_n 99 dX10_log_98 rfl rfl ?_
      refine bw_iload 101 dX10_log_99 rfl rfl ?_
      refine bw_iload 103 dX10_log_101 rfl rfl ?_
      refine bw_cVi 106 dX10_log_103 rfl vX10_102 (m_mul g hG hC (hb _ _) (hb _ _)) (hC.at 0 rfl) rfl rfl (Nat.le_of_ble_eq_true rfl) ⟨(Nat.le_of_ble_eq_true rfl), (Nat.le_of_ble_eq_true rfl)⟩ (Nat.le_of_ble_eq_true rfl) (Nat.le_of_ble_eq_true rfl) ?_
      refine bw_istore 108 dX10_log_106 rfl (by decide) ?_
      refine bw_iincN (1) 111 dX10_log_108 rfl rfl (by decide) (by decide) ?_
      refine bw_goto 91 dX10_log_111 rfl ?_
      refine bw_loc _ ?_ (ih (j + 1) (by omega))
      exact ⟨rfl, rfl, rfl, rfl, rfl, rfl, rfl, rfl, rfl, congrArg (fun x => some (Value.int x)) (nI_1 ( j )), rfl, trivial⟩
set_option maxHeartbeats 4000000 in
theorem m_log_add (g : bw_G) {A : bw_H} {M a L f s k u : Nat} {Q : bw_O → bw_H → Prop} (hf0 : 0 < f) (hs : 0 < s) (hsf : s * f ≤ 65535)
    (kk : ∀ t, t < f → (L % s + t * s) % f = L % f → bw_W g (bw_rm 8 0 0) mX10_log Q 0 0 131 [(0, .ref M), (1, .int (nI a)), (2, .int (nI u)), (3, .int (nI (L % s + t * s))), (4, .int (nI s)), (5, .int (nI k)), (6, .int (nI f))] [] A) :
    ∀ (d t : Nat), t + d = L / s % f →
      bw_W g (bw_rm 8 0 0) mX10_log Q 0 0 114 [(0, .ref M), (1, .int (nI a)), (2, .int (nI u)), (3, .int (nI (L % s + t * s))), (4, .int (nI s)), (5, .int (nI k)), (6, .int (nI f)), (9, .int (nI (L % f)))] [] A := by
  have hL := Nat.mod_lt L hf0
  have hT := Nat.mod_lt (L / s) hf0
  have hf1 : f ≤ 65535 := Nat.le_trans (Nat.le_mul_of_pos_left f hs) hsf
  have hbd : ∀ t, t < f → L % s + t * s < 65535 := fun t ht => by
    have a := Nat.mod_lt L hs
    have b := Nat.mul_le_mul_right s (show t + 1 ≤ f from ht)
    rw [Nat.add_mul, Nat.one_mul, Nat.mul_comm f s] at b
    omega
  intro d
  induction d with
  | zero =>
    intro t ht
    have ht : t = L / s % f := by omega
    have he : (L % s + t * s) % f = L % f := by rw [ht]; exact log_T
    have hb := hbd t (by omega)
    refine bw_iload_n 115 dX10_log_114 rfl rfl ?_
    refine bw_iload 117 dX10_log_115 rfl rfl ?_
    refine bw_irem 118 dX10_log_117 (by exact fun h => absurd ((xn_eq0 (by omega)).mp h) (by omega)) rfl ?_
    refine bw_eqi (pk_rem (a := L % s + t * s) (d := f) (by omega) (by omega) (by omega)) ?_
    refine bw_iload 120 dX10_log_118 rfl rfl ?_
    refine bw_icmp_eq 131 123 dX10_log_120 rfl rfl (fun c120 => ?_) (fun c120 => ?_)
    · refine bw_loc _ ?_ (kk t (by omega) he)
      exact ⟨rfl, rfl, rfl, rfl, rfl, rfl, rfl, trivial⟩
    · exact absurd (congrArg nI he) c120
  | succ d ih =>
    intro t ht
    have hb := hbd t (by omega)
    have hm := Nat.mod_lt (L % s + t * s) hf0
    refine bw_iload_n 115 dX10_log_114 rfl rfl ?_
    refine bw_iload 117 dX10_log_115 rfl rfl ?_
    refine bw_irem 118 dX10_log_117 (by exact fun h => absurd ((xn_eq0 (by omega)).mp h) (by omega)) rfl ?_
    refine bw_eqi (pk_rem (a := L % s + t * s) (d := f) (by omega) (by omega) (by omega)) ?_
    refine bw_iload 120 dX10_log_118 rfl rfl ?_
    refine bw_icmp_eq 131 123 dX10_log_120 rfl rfl (fun c120 => ?_) (fun c120 => ?_)
    · refine bw_loc _ ?_ (kk t (by omega) ((nI_eq (by omega) (by omega)).mp c120))
      exact ⟨rfl, rfl, rfl, rfl, rfl, rfl, rfl, trivial⟩
    · skip
      refine bw_iload_n 124 dX10_log_123 rfl rfl ?_
      refine bw_iload 126 dX10_log_124 rfl rfl ?_
      refine bw_iadd 127 dX10_log_126 rfl ?_
      refine bw_eqi (nI_add (L % s + t * s) s) ?_
      refine bw_istore_n 128 dX10_log_127 rfl (by decide) ?_
      refine bw_goto 114 dX10_log_128 rfl ?_
      refine bw_loc _ ?_ (ih (t + 1) (by omega))
      exact ⟨rfl, rfl, rfl, congrArg (fun x => some (Value.int (nI x))) (show L % s + t * s + s = L % s + (t + 1) * s by rw [Nat.add_mul, Nat.one_mul, Nat.add_assoc]), rfl, rfl, rfl, rfl, trivial⟩
set_option maxHeartbeats 4000000 in
theorem m_log_loop (g : bw_G) {A A0 : bw_H} {M n p gg rn mn pn rd rs pt sn a L nf : Nat} (hG : GFg n p gg) (hC : bw_has A [(M, mdo M n p gg 0 rn mn pn rd rs pt sn)]) (hS : bw_sm [M] A0 A) (ha : a < 2 ^ n) (hLa : gpow n (2 ^ n ||| p) gg L = a) (hLu : L < 2 ^ n - 1) (hnf : nf = if n = 8 then 3 else 4) :
    ∀ (r k : Nat), k + r = nf → bw_W g (bw_rm 8 0 0) mX10_log (bw_pm (maR M [] (mdo M n p gg 0 rn mn pn rd rs pt sn) (nI L) A0)) 0 0 44 [(0, .ref M), (1, .int (nI a)), (2, .int (nI (2 ^ n - 1))), (3, .int (nI (L % gsx k))), (4, .int (nI (gsx k))), (5, .int (nI k))] [] A := by
  have h16 := hG.p16
  have hf4 : nf ≤ 4 := by rw [hnf]; split <;> omega
  intro r
  induction r with
  | zero =>
    intro k hk
    have hk : k = nf := by omega
    rw [hk, hnf, gsx_u hG.1, Nat.mod_eq_of_lt hLu]
    refine bw_iload 46 dX10_log_44 rfl rfl ?_
    refine bw_aload_n 47 dX10_log_46 rfl rfl ?_
    refine bw_cVi 50 dX10_log_47 rfl vX10_108 (c10_factors g hG.n16 hC rfl) (hC.at 0 rfl) rfl rfl (Nat.le_of_ble_eq_true rfl) ⟨(Nat.le_of_ble_eq_true rfl), (Nat.le_of_ble_eq_true rfl)⟩ (Nat.le_of_ble_eq_true rfl) (Nat.le_of_ble_eq_true rfl) ?_
    refine bw_icmp_ge 144 53 dX10_log_50 rfl rfl (fun c50 => ?_) (fun c50 => ?_)
    · refine bw_iload_n 145 dX10_log_144 rfl rfl ?_
      refine bw_iret dX10_log_145 rfl (Nat.le_of_ble_eq_true rfl) (Nat.le_of_ble_eq_true rfl) ?_
      exact ⟨_, rfl, rfl, hS, hC.at 0 rfl⟩
    · exact absurd (Int32.le_refl _) c50
  | succ r ih =>
    intro k hk
    obtain ⟨h1, h2, h3, h4, h5, h6⟩ := gsx_f (k := k) hG.1 (by omega)
    have hdv := Nat.div_le_self (2 ^ n - 1) (gfac k)
    have fin : ∀ t, t < gfac k → (L % gsx k + t * gsx k) % gfac k = L % gfac k → bw_W g (bw_rm 8 0 0) mX10_log (bw_pm (maR M [] (mdo M n p gg 0 rn mn pn rd rs pt sn) (nI L) A0)) 0 0 131 [(0, .ref M), (1, .int (nI a)), (2, .int (nI (2 ^ n - 1))), (3, .int (nI (L % gsx k + t * gsx k))), (4, .int (nI (gsx k))), (5, .int (nI k)), (6, .int (nI (gfac k)))] [] A := by
      intro t ht he
      rw [log_S h2 h4 ht he]
      refine bw_iload 133 dX10_log_131 rfl rfl ?_
      refine bw_iload 135 dX10_log_133 rfl rfl ?_
      refine bw_imul 136 dX10_log_135 rfl ?_
      refine bw_eqi (pk_mul (gsx k) (gfac k)) ?_
      refine bw_istore 138 dX10_log_136 rfl (by decide) ?_
      refine bw_iincN (1) 141 dX10_log_138 rfl rfl (by decide) (by decide) ?_
      refine bw_goto 44 dX10_log_141 rfl ?_
      refine bw_loc _ ?_ (ih (k + 1) (by omega))
      exact ⟨rfl, rfl, rfl, rfl, rfl, congrArg (fun x => some (Value.int x)) (nI_1 ( k )), trivial⟩
    refine bw_iload 46 dX10_log_44 rfl rfl ?_
    refine bw_aload_n 47 dX10_log_46 rfl rfl ?_
    refine bw_cVi 50 dX10_log_47 rfl vX10_108 (c10_factors g hG.n16 hC rfl) (hC.at 0 rfl) rfl rfl (Nat.le_of_ble_eq_true rfl) ⟨(Nat.le_of_ble_eq_true rfl), (Nat.le_of_ble_eq_true rfl)⟩ (Nat.le_of_ble_eq_true rfl) (Nat.le_of_ble_eq_true rfl) ?_
    refine bw_icmp_ge 144 53 dX10_log_50 rfl rfl (fun c50 => ?_) (fun c50 => ?_)
    · exact absurd c50 (nI_ge (by omega) (by omega))
    · refine bw_iload 55 dX10_log_53 rfl rfl ?_
      refine bw_cSi 58 dX10_log_55 rfl sX10_112 (c10_factor g (by omega)) rfl rfl (Nat.le_of_ble_eq_true rfl) ⟨(Nat.le_of_ble_eq_true rfl), (Nat.le_of_ble_eq_true rfl)⟩ (Nat.le_of_ble_eq_true rfl) (Nat.le_of_ble_eq_true rfl) ?_
      refine bw_istore 60 dX10_log_58 rfl (by decide) ?_
      refine bw_aload_n 61 dX10_log_60 rfl rfl ?_
      refine bw_iload_n 62 dX10_log_61 rfl rfl ?_
      refine bw_iload_n 63 dX10_log_62 rfl rfl ?_
      refine bw_iload 65 dX10_log_63 rfl rfl ?_
      refine bw_idiv 66 dX10_log_65 (by exact fun h => absurd ((xn_eq0 (by omega)).mp h) (by omega)) rfl ?_
      refine bw_eqi (pk_div (a := 2 ^ n - 1) (d := gfac k) (by omega) (by omega) (by omega)) ?_
      refine bw_cVi 69 dX10_log_66 rfl vX10_105 (m_raised g hG hC ha (by omega)) (hC.at 0 rfl) rfl rfl (Nat.le_of_ble_eq_true rfl) ⟨(Nat.le_of_ble_eq_true rfl), (Nat.le_of_ble_eq_true rfl)⟩ (Nat.le_of_ble_eq_true rfl) (Nat.le_of_ble_eq_true rfl) ?_
      refine bw_istore 71 dX10_log_69 rfl (by decide) ?_
      refine bw_aload_n 72 dX10_log_71 rfl rfl ?_
      refine bw_aload_n 73 dX10_log_72 rfl rfl ?_
      refine bw_get 76 dX10_log_73 rfl lX10_88 (hC.at 0 rfl) rfl ?_
      refine bw_iload_n 77 dX10_log_76 rfl rfl ?_
      refine bw_iload 79 dX10_log_77 rfl rfl ?_
      refine bw_idiv 80 dX10_log_79 (by exact fun h => absurd ((xn_eq0 (by omega)).mp h) (by omega)) rfl ?_
      refine bw_eqi (pk_div (a := 2 ^ n - 1) (d := gfac k) (by omega) (by omega) (by omega)) ?_
      refine bw_cVi 83 dX10_log_80 rfl vX10_105 (m_raised g hG hC hG.2.2.2.2.1 (by omega)) (hC.at 0 rfl) rfl rfl (Nat.le_of_ble_eq_true rfl) ⟨(Nat.le_of_ble_eq_true rfl), (Nat.le_of_ble_eq_true rfl)⟩ (Nat.le_of_ble_eq_true rfl) (Nat.le_of_ble_eq_true rfl) ?_
      refine bw_istore 85 dX10_log_83 rfl (by decide) ?_
      refine bw_iconst (0) 86 dX10_log_85 (by decide) rfl ?_
      refine bw_eqi (y := nI 0) rfl ?_
      refine bw_istore 88 dX10_log_86 rfl (by decide) ?_
      refine bw_iconst (1) 89 dX10_log_88 (by decide) rfl ?_
      refine bw_eqi (y := nI 1) rfl ?_
      refine bw_istore 91 dX10_log_89 rfl (by decide) ?_
      have := m_log_add g (M := M) (A := A) (a := a) (u := 2 ^ n - 1) (k := k) h5 h4 h3 fin (L / gsx k % gfac k) 0 (by omega)
      rw [Nat.zero_mul, Nat.add_zero] at this
      refine bw_loc _ ?_ (m_log_left g hG hC h1 h5 hLa this (L % gfac k) 0 (by omega))
      exact ⟨rfl, rfl, rfl, rfl, rfl, rfl, rfl, rfl, rfl, rfl, rfl, trivial⟩
theorem m_log (g : bw_G) {A : bw_H} {M n p gg th rn mn pn rd rs pt sn a : Nat} (hG : GFg n p gg) (hC : bw_has A [(M, mdo M n p gg th rn mn pn rd rs pt sn)]) (ha : a < 2 ^ n) (h0 : a ≠ 0) : bw_C g (bw_rm 8 0 0) mX10_log [.ref M, .int (nI a)] A (bw_pm (maR M [] (mdo M n p gg 0 rn mn pn rd rs pt sn) (nI (glog n (2 ^ n ||| p) gg a)) A)) := by
  have h16 := hG.p16
  have hS : bw_sm [M] A A := bw_sm.rf
  refine bw_C.of (by decide) (Nat.le_of_ble_eq_true rfl) rfl ?_
  refine bw_aload_n 1 dX10_log_0 rfl rfl ?_
  refine bw_iconst (0) 2 dX10_log_1 (by decide) rfl ?_
  refine bw_eqi (y := nI 0) rfl ?_
  refine bw_putU 5 dX10_log_2 rfl pX10_1 (hC.at 0 rfl) rfl rfl (Nat.le_of_ble_eq_true rfl) (fun A hU => ?_)
  have hC := hC.upd 0 rfl hU
  have hS := hS.upd hU (by simp)
  clear hU
  refine bw_aload_n 6 dX10_log_5 rfl rfl ?_
  refine bw_iload_n 7 dX10_log_6 rfl rfl ?_
  refine bw_cVi 10 dX10_log_7 rfl vX10_115 (m_isMember g hC (mI_nI hG.p16 ha)) (hC.at 0 rfl) rfl rfl (Nat.le_of_ble_eq_true rfl) ⟨(Nat.le_of_ble_eq_true rfl), (Nat.le_of_ble_eq_true rfl)⟩ (Nat.le_of_ble_eq_true rfl) (Nat.le_of_ble_eq_true rfl) ?_
  refine bw_if_ne 19 13 dX10_log_10 rfl rfl (fun c10 => ?_) (fun c10 => ?_)
  · refine bw_iload_n 20 dX10_log_19 rfl rfl ?_
    refine bw_if_ne 29 23 dX10_log_20 rfl rfl (fun c20 => ?_) (fun c20 => ?_)
    · refine bw_aload_n 30 dX10_log_29 rfl rfl ?_
      refine bw_get 33 dX10_log_30 rfl lX10_78 (hC.at 0 rfl) rfl ?_
      refine bw_iconst (1) 34 dX10_log_33 (by decide) rfl ?_
      refine bw_isub 35 dX10_log_34 rfl ?_
      refine bw_eqi (pk_sub (a := 2 ^ n) (b := 1) (by omega)) ?_
      refine bw_istore_n 36 dX10_log_35 rfl (by decide) ?_
      refine bw_iconst (0) 37 dX10_log_36 (by decide) rfl ?_
      refine bw_eqi (y := nI 0) rfl ?_
      refine bw_istore_n 38 dX10_log_37 rfl (by decide) ?_
      refine bw_iconst (1) 39 dX10_log_38 (by decide) rfl ?_
      refine bw_eqi (y := nI 1) rfl ?_
      refine bw_istore 41 dX10_log_39 rfl (by decide) ?_
      refine bw_iconst (0) 42 dX10_log_41 (by decide) rfl ?_
      refine bw_eqi (y := nI 0) rfl ?_
      refine bw_istore 44 dX10_log_42 rfl (by decide) ?_
      refine bw_loc _ ?_ (m_log_loop g hG hC hS ha (glog_pow hG ha h0) (glog_lt hG a) rfl (if n = 8 then 3 else 4) 0 (Nat.zero_add _))
      exact ⟨rfl, rfl, rfl, congrArg (fun x => some (Value.int (nI x))) (Nat.mod_one _).symm, rfl, rfl, trivial⟩
    · exact absurd ((xn_eq0 (by omega)).mp c20) h0
  · exact absurd c10 (by decide)
theorem m_log0 (g : bw_G) {A : bw_H} {M n p gg th rn mn pn rd rs pt sn : Nat} (hn : 2 ^ n ≤ 65536) (hC : bw_has A [(M, mdo M n p gg th rn mn pn rd rs pt sn)]) : bw_C g (bw_rm 8 0 0) mX10_log [.ref M, .int (nI 0)] A (bw_pm (maR M [] (mdo M n p gg 2 rn mn pn rd rs pt sn) (nI 0) A)) := by
  have hS : bw_sm [M] A A := bw_sm.rf
  refine bw_C.of (by decide) (Nat.le_of_ble_eq_true rfl) rfl ?_
  refine bw_aload_n 1 dX10_log_0 rfl rfl ?_
  refine bw_iconst (0) 2 dX10_log_1 (by decide) rfl ?_
  refine bw_eqi (y := nI 0) rfl ?_
  refine bw_putU 5 dX10_log_2 rfl pX10_1 (hC.at 0 rfl) rfl rfl (Nat.le_of_ble_eq_true rfl) (fun A hU => ?_)
  have hC := hC.upd 0 rfl hU
  have hS := hS.upd hU (by simp)
  clear hU
  refine bw_aload_n 6 dX10_log_5 rfl rfl ?_
  refine bw_iload_n 7 dX10_log_6 rfl rfl ?_
  refine bw_cVi 10 dX10_log_7 rfl vX10_115 (m_isMember g hC (mI_nI hn (Nat.two_pow_pos n))) (hC.at 0 rfl) rfl rfl (Nat.le_of_ble_eq_true rfl) ⟨(Nat.le_of_ble_eq_true rfl), (Nat.le_of_ble_eq_true rfl)⟩ (Nat.le_of_ble_eq_true rfl) (Nat.le_of_ble_eq_true rfl) ?_
  refine bw_if_ne 19 13 dX10_log_10 rfl rfl (fun c10 => ?_) (fun c10 => ?_)
  · refine bw_iload_n 20 dX10_log_19 rfl rfl ?_
    refine bw_if_ne 29 23 dX10_log_20 rfl rfl (fun c20 => ?_) (fun c20 => ?_)
    · exact absurd rfl c20
    · refine bw_aload_n 24 dX10_log_23 rfl rfl ?_
      refine bw_iconst (2) 25 dX10_log_24 (by decide) rfl ?_
      refine bw_eqi (y := nI 2) rfl ?_
      refine bw_cVm 28 dX10_log_25 rfl vX10_118 (m_fail g hC) (hC.at 0 rfl) rfl rfl (Nat.le_of_ble_eq_true rfl) ⟨(Nat.le_of_ble_eq_true rfl), (Nat.le_of_ble_eq_true rfl)⟩ (Nat.le_of_ble_eq_true rfl) (Nat.le_of_ble_eq_true rfl) (fun x A hP => ?_)
      obtain ⟨h4, h5⟩ := hP
      subst h4
      have hC := hC.upd 0 rfl h5
      have hS := hS.upd h5 (by simp)
      refine bw_iret dX10_log_28 rfl (Nat.le_of_ble_eq_true rfl) (Nat.le_of_ble_eq_true rfl) ?_
      exact ⟨_, rfl, rfl, hS, hC.at 0 rfl⟩
  · exact absurd c10 (by decide)
theorem m_logX (g : bw_G) {A : bw_H} {M n p gg th rn mn pn rd rs pt sn : Nat} {a : Int32} (hC : bw_has A [(M, mdo M n p gg th rn mn pn rd rs pt sn)]) (h : ¬ mI n a) : bw_C g (bw_rm 8 0 0) mX10_log [.ref M, .int a] A (bw_pm (maR M [] (mdo M n p gg 1 rn mn pn rd rs pt sn) (nI 0) A)) := by
  have hS : bw_sm [M] A A := bw_sm.rf
  refine bw_C.of (by decide) (Nat.le_of_ble_eq_true rfl) rfl ?_
  refine bw_aload_n 1 dX10_log_0 rfl rfl ?_
  refine bw_iconst (0) 2 dX10_log_1 (by decide) rfl ?_
  refine bw_eqi (y := nI 0) rfl ?_
  refine bw_putU 5 dX10_log_2 rfl pX10_1 (hC.at 0 rfl) rfl rfl (Nat.le_of_ble_eq_true rfl) (fun A hU => ?_)
  have hC := hC.upd 0 rfl hU
  have hS := hS.upd hU (by simp)
  clear hU
  refine bw_aload_n 6 dX10_log_5 rfl rfl ?_
  refine bw_iload_n 7 dX10_log_6 rfl rfl ?_
  refine bw_cVi 10 dX10_log_7 rfl vX10_115 (m_isMemberX g hC h) (hC.at 0 rfl) rfl rfl (Nat.le_of_ble_eq_true rfl) ⟨(Nat.le_of_ble_eq_true rfl), (Nat.le_of_ble_eq_true rfl)⟩ (Nat.le_of_ble_eq_true rfl) (Nat.le_of_ble_eq_true rfl) ?_
  refine bw_if_ne 19 13 dX10_log_10 rfl rfl (fun c10 => ?_) (fun c10 => ?_)
  · exact absurd rfl c10
  · refine bw_aload_n 14 dX10_log_13 rfl rfl ?_
    refine bw_iconst (1) 15 dX10_log_14 (by decide) rfl ?_
    refine bw_eqi (y := nI 1) rfl ?_
    refine bw_cVm 18 dX10_log_15 rfl vX10_118 (m_fail g hC) (hC.at 0 rfl) rfl rfl (Nat.le_of_ble_eq_true rfl) ⟨(Nat.le_of_ble_eq_true rfl), (Nat.le_of_ble_eq_true rfl)⟩ (Nat.le_of_ble_eq_true rfl) (Nat.le_of_ble_eq_true rfl) (fun x A hP => ?_)
    obtain ⟨h4, h5⟩ := hP
    subst h4
    have hC := hC.upd 0 rfl h5
    have hS := hS.upd h5 (by simp)
    refine bw_iret dX10_log_18 rfl (Nat.le_of_ble_eq_true rfl) (Nat.le_of_ble_eq_true rfl) ?_
    exact ⟨_, rfl, rfl, hS, hC.at 0 rfl⟩
