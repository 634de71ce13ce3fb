/-! the reference: polynomial, multiply -/
theorem gcut_s {f : Nat → Nat} {k : Nat} : (fun i => if i = k then f k else gcut f k i) = gcut f (k + 1) := by
  funext i
  unfold gcut
  by_cases h : i = k
  · rw [if_pos h, if_pos (by omega), h]
  · rw [if_neg h]
    by_cases h2 : i < k
    · rw [if_pos h2, if_pos (by omega)]
    · rw [if_neg h2, if_neg (by omega)]
set_option maxHeartbeats 4000000 in
theorem m_polynomial_loop (g : bw_G) {A0 : bw_H} {M n p gg rn mn pn rd rs pt sn : Nat} {dd C row : Nat → Nat} {Q : bw_O → bw_H → Prop} (hrn : rn ≤ 130)
    (kk : ∀ A : bw_H, bw_has A ((M, mdo M n p gg 0 rn mn pn rd rs pt sn) :: (mpc g M dd C ++ [(M + 1, bw_an g 130 row), (M + 10, bw_an g 200 (gcut row rn))])) → bw_sm (M :: ([M + 10] ++ mpl M)) A0 A → bw_W g (bw_rm 8 0 0) mX10_polynomial Q 0 0 40 [(0, .ref M)] [] A) :
    ∀ (d k : Nat), k + d = rn → ∀ A : bw_H, bw_has A ((M, mdo M n p gg 0 rn mn pn rd rs pt sn) :: (mpc g M dd C ++ [(M + 1, bw_an g 130 row), (M + 10, bw_an g 200 (gcut row k))])) → bw_sm (M :: ([M + 10] ++ mpl M)) A0 A →
      bw_W g (bw_rm 8 0 0) mX10_polynomial Q 0 0 14 [(0, .ref M), (1, .int (nI k))] [] A := by
  intro d
  induction d with
  | zero =>
    intro k hk A hC hS
    have hk : rn = k := by omega
    subst hk
    refine bw_iload_n 15 dX10_polynomial_14 rfl rfl ?_
    refine bw_aload_n 16 dX10_polynomial_15 rfl rfl ?_
    refine bw_get 19 dX10_polynomial_16 rfl lX10_124 (hC.at 0 rfl) rfl ?_
    refine bw_icmp_ge 40 22 dX10_polynomial_19 rfl rfl (fun c19 => ?_) (fun c19 => ?_)
    · exact bw_loc [(0, .ref M)] ⟨rfl, trivial⟩ (kk A hC hS)
    · exact absurd (Int32.le_refl _) c19
  | succ d ih =>
    intro k hk A hC hS
    refine bw_iload_n 15 dX10_polynomial_14 rfl rfl ?_
    refine bw_aload_n 16 dX10_polynomial_15 rfl rfl ?_
    refine bw_get 19 dX10_polynomial_16 rfl lX10_124 (hC.at 0 rfl) rfl ?_
    refine bw_icmp_ge 40 22 dX10_polynomial_19 rfl rfl (fun c19 => ?_) (fun c19 => ?_)
    · exact absurd c19 (nI_ge (by omega) (by omega))
    · skip
      refine bw_aload_n 23 dX10_polynomial_22 rfl rfl ?_
      refine bw_get 26 dX10_polynomial_23 rfl lX10_42 (hC.at 0 rfl) rfl ?_
      refine bw_iload_n 27 dX10_polynomial_26 rfl rfl ?_
      refine bw_aload_n 28 dX10_polynomial_27 rfl rfl ?_
      refine bw_get 31 dX10_polynomial_28 rfl lX10_13 (hC.at 0 rfl) rfl ?_
      refine bw_iload_n 32 dX10_polynomial_31 rfl rfl ?_
      refine bw_ialdN 33 dX10_polynomial_32 rfl (hC.at 3 rfl) (by omega) (by omega) ?_
      refine bw_iastN 34 dX10_polynomial_33 rfl (hC.at 4 rfl) (by omega) (by omega) (G := gcut row (k + 1)) (gcut_s) (fun A hU => ?_)
      have hC := hC.upd 4 rfl hU
      have hS := hS.upd hU (by simp)
      clear hU
      refine bw_iincN (1) 37 dX10_polynomial_34 rfl rfl (by decide) (by decide) ?_
      refine bw_goto 14 dX10_polynomial_37 rfl ?_
      refine bw_loc _ ?_ (ih (k + 1) (by omega) A hC hS)
      exact ⟨rfl, congrArg (fun x => some (Value.int x)) (nI_1 ( k )), trivial⟩
set_option maxHeartbeats 4000000 in
theorem m_polynomial (g : bw_G) {A : bw_H} {M n p gg th rn mn pn rd rs pt sn : Nat} {dd C row f1 : Nat → Nat} (hn : 2 ^ n ≤ 65536) (hC : bw_has A ((M, mdo M n p gg th rn mn pn rd rs pt sn) :: (mpc g M dd C ++ [(M + 1, bw_an g 130 row), (M + 10, bw_an g 200 f1)]))) (hrow : ∀ i, row i < 2 ^ n) (hz : ∀ i, 200 ≤ i → f1 i = 0) (hrn : rn ≤ 130) (hp : pn < 40) (h65 : pd (gcut row rn) ≤ 65) : bw_C g (bw_rm 8 0 0) mX10_polynomial [.ref M] A (bw_pm (mKP g M [M + 10] (mdo M n p gg 0 0 mn (pn + 1) rd rs pt sn) (nI pn) (fun i => if i = pn then pd (gcut row rn) else dd i) (gck (gcut row rn) C pn 65) A)) := by
  have hl31 : ∀ i, gcut row rn i < 2 ^ 31 := fun i => by
    have := (gcut_ok hrow (c := rn)).2 i
    omega
  have hS : bw_sm (M :: ([M + 10] ++ mpl M)) A A := bw_sm.rf
  refine bw_C.of (by decide) (Nat.le_of_ble_eq_true rfl) rfl ?_
  refine bw_aload_n 1 dX10_polynomial_0 rfl rfl ?_
  refine bw_iconst (0) 2 dX10_polynomial_1 (by decide) rfl ?_
  refine bw_eqi (y := nI 0) rfl ?_
  refine bw_putU 5 dX10_polynomial_2 rfl pX10_1 (hC.at 0 rfl) rfl rfl (Nat.le_of_ble_eq_true rfl) (fun A hU => ?_)
  have hC := hC.upd 0 rfl hU
  have hS := hS.upd hU (by simp)
  clear hU
  refine bw_aload_n 6 dX10_polynomial_5 rfl rfl ?_
  refine bw_get 9 dX10_polynomial_6 rfl lX10_42 (hC.at 0 rfl) rfl ?_
  refine bw_cSv 12 dX10_polynomial_9 rfl sX10_161 (m_nothing g (hC.sub [4] (by decide) rfl) hz) rfl rfl (Nat.le_of_ble_eq_true rfl) ⟨(Nat.le_of_ble_eq_true rfl), (Nat.le_of_ble_eq_true rfl)⟩ (Nat.le_of_ble_eq_true rfl) (Nat.le_of_ble_eq_true rfl) (fun A hP => ?_)
  obtain ⟨hs1, hs2⟩ := hP
  have hU := sm_up hs1 hs2
  have hC := hC.upd 4 rfl hU
  have hS := hS.upd hU (by simp)
  clear hU
  refine bw_iconst (0) 13 dX10_polynomial_12 (by decide) rfl ?_
  refine bw_eqi (y := nI 0) rfl ?_
  refine bw_istore_n 14 dX10_polynomial_13 rfl (by decide) ?_
  refine bw_loc _ ?_ (m_polynomial_loop g hrn (fun A hC hS => ?_) rn 0 (by omega) A (by rw [show gcut row 0 = fun _ => 0 from funext (fun i => if_neg (by omega))]; exact hC) hS)
  · exact ⟨rfl, rfl, trivial⟩
  refine bw_aload_n 41 dX10_polynomial_40 rfl rfl ?_
  refine bw_get 44 dX10_polynomial_41 rfl lX10_158 (hC.at 0 rfl) rfl ?_
  refine bw_bipush (40) 46 dX10_polynomial_44 (by decide) rfl ?_
  refine bw_eqi (y := nI 40) rfl ?_
  refine bw_icmp_eq 61 49 dX10_polynomial_46 rfl rfl (fun c46 => ?_) (fun c46 => ?_)
  · exact absurd ((nI_eq (b := 40) (by omega) (by omega)).mp c46) (by omega)
  · refine bw_aload_n 50 dX10_polynomial_49 rfl rfl ?_
    refine bw_get 53 dX10_polynomial_50 rfl lX10_42 (hC.at 0 rfl) rfl ?_
    refine bw_cSi 56 dX10_polynomial_53 rfl sX10_165 (m_high g (hC.sub [4] (by decide) rfl) hl31) rfl rfl (Nat.le_of_ble_eq_true rfl) ⟨(Nat.le_of_ble_eq_true rfl), (Nat.le_of_ble_eq_true rfl)⟩ (Nat.le_of_ble_eq_true rfl) (Nat.le_of_ble_eq_true rfl) ?_
    refine bw_bipush (65) 58 dX10_polynomial_56 (by decide) rfl ?_
    refine bw_eqi (y := nI 65) rfl ?_
    refine bw_icmp_lt 67 61 dX10_polynomial_58 rfl rfl (fun c58 => ?_) (fun c58 => ?_)
    · refine bw_aload_n 68 dX10_polynomial_67 rfl rfl ?_
      refine bw_iconst (0) 69 dX10_polynomial_68 (by decide) rfl ?_
      refine bw_eqi (y := nI 0) rfl ?_
      refine bw_putU 72 dX10_polynomial_69 rfl pX10_124 (hC.at 0 rfl) rfl rfl (Nat.le_of_ble_eq_true rfl) (fun A hU => ?_)
      have hC := hC.upd 0 rfl hU
      have hS := hS.upd hU (by simp)
      clear hU
      refine bw_aload_n 73 dX10_polynomial_72 rfl rfl ?_
      refine bw_aload_n 74 dX10_polynomial_73 rfl rfl ?_
      refine bw_get 77 dX10_polynomial_74 rfl lX10_42 (hC.at 0 rfl) rfl ?_
      refine bw_cVm 80 dX10_polynomial_77 rfl vX10_169 (m_kept g (hC.sub [0, 1, 2, 4] (by decide) rfl) hl31 hp) (hC.at 0 rfl) rfl rfl (Nat.le_of_ble_eq_true rfl) ⟨(Nat.le_of_ble_eq_true rfl), (Nat.le_of_ble_eq_true rfl)⟩ (Nat.le_of_ble_eq_true rfl) (Nat.le_of_ble_eq_true rfl) (fun x A hP => ?_)
      obtain ⟨⟨h4, h5, h6⟩, h7⟩ := hP
      subst h4
      have hW := (hC.sub [4] (by decide) rfl).frm h5 (by simp <;> omega)
      have hS := hS.trans h5 (by simp <;> omega)
      refine bw_iret dX10_polynomial_80 rfl (Nat.le_of_ble_eq_true rfl) (Nat.le_of_ble_eq_true rfl) ?_
      refine ⟨_, rfl, rfl, hS, h6, h7, ?_⟩
      intro X hX
      rw [List.mem_singleton.mp hX]
      exact ⟨_, fun i hi => if_neg (by omega), hW.at 0 rfl⟩
    · exact absurd ((tI_ltk (k := 65) (by omega) (by omega)).mpr h65) c58
set_option maxHeartbeats 4000000 in
theorem m_polynomialX (g : bw_G) {A : bw_H} {M n p gg th rn mn pn rd rs pt sn : Nat} {dd C row f1 : Nat → Nat} (hn : 2 ^ n ≤ 65536) (hC : bw_has A ((M, mdo M n p gg th rn mn pn rd rs pt sn) :: (mpc g M dd C ++ [(M + 1, bw_an g 130 row), (M + 10, bw_an g 200 f1)]))) (hrow : ∀ i, row i < 2 ^ n) (hz : ∀ i, 200 ≤ i → f1 i = 0) (hrn : rn ≤ 130) (hp : pn ≤ 40) (h : pn = 40 ∨ 65 < pd (gcut row rn)) : bw_C g (bw_rm 8 0 0) mX10_polynomial [.ref M] A (bw_pm (fun y A' => maR M ([M + 10] ++ mpl M) (mdo M n p gg 1 rn mn pn rd rs pt sn) (nI 0) A y A' ∧ mzz g A' (M + 10) ∧ bw_has A' (mpc g M dd C))) := by
  have hl31 : ∀ i, gcut row rn i < 2 ^ 31 := fun i => by
    have := (gcut_ok hrow (c := rn)).2 i
    omega
  have hS : bw_sm (M :: ([M + 10] ++ mpl M)) A A := bw_sm.rf
  refine bw_C.of (by decide) (Nat.le_of_ble_eq_true rfl) rfl ?_
  refine bw_aload_n 1 dX10_polynomial_0 rfl rfl ?_
  refine bw_iconst (0) 2 dX10_polynomial_1 (by decide) rfl ?_
  refine bw_eqi (y := nI 0) rfl ?_
  refine bw_putU 5 dX10_polynomial_2 rfl pX10_1 (hC.at 0 rfl) rfl rfl (Nat.le_of_ble_eq_true rfl) (fun A hU => ?_)
  have hC := hC.upd 0 rfl hU
  have hS := hS.upd hU (by simp)
  clear hU
  refine bw_aload_n 6 dX10_polynomial_5 rfl rfl ?_
  refine bw_get 9 dX10_polynomial_6 rfl lX10_42 (hC.at 0 rfl) rfl ?_
  refine bw_cSv 12 dX10_polynomial_9 rfl sX10_161 (m_nothing g (hC.sub [4] (by decide) rfl) hz) rfl rfl (Nat.le_of_ble_eq_true rfl) ⟨(Nat.le_of_ble_eq_true rfl), (Nat.le_of_ble_eq_true rfl)⟩ (Nat.le_of_ble_eq_true rfl) (Nat.le_of_ble_eq_true rfl) (fun A hP => ?_)
  obtain ⟨hs1, hs2⟩ := hP
  have hU := sm_up hs1 hs2
  have hC := hC.upd 4 rfl hU
  have hS := hS.upd hU (by simp)
  clear hU
  refine bw_iconst (0) 13 dX10_polynomial_12 (by decide) rfl ?_
  refine bw_eqi (y := nI 0) rfl ?_
  refine bw_istore_n 14 dX10_polynomial_13 rfl (by decide) ?_
  refine bw_loc _ ?_ (m_polynomial_loop g hrn (fun A hC hS => ?_) rn 0 (by omega) A (by rw [show gcut row 0 = fun _ => 0 from funext (fun i => if_neg (by omega))]; exact hC) hS)
  · exact ⟨rfl, rfl, trivial⟩
  refine bw_aload_n 41 dX10_polynomial_40 rfl rfl ?_
  refine bw_get 44 dX10_polynomial_41 rfl lX10_158 (hC.at 0 rfl) rfl ?_
  refine bw_bipush (40) 46 dX10_polynomial_44 (by decide) rfl ?_
  refine bw_eqi (y := nI 40) rfl ?_
  refine bw_icmp_eq 61 49 dX10_polynomial_46 rfl rfl (fun c46 => ?_) (fun c46 => ?_)
  · skip
    refine bw_aload_n 62 dX10_polynomial_61 rfl rfl ?_
    refine bw_iconst (1) 63 dX10_polynomial_62 (by decide) rfl ?_
    refine bw_eqi (y := nI 1) rfl ?_
    refine bw_cVm 66 dX10_polynomial_63 rfl vX10_118 (m_fail g (hC.sub [0] (by decide) rfl)) (hC.at 0 rfl) rfl rfl (Nat.le_of_ble_eq_true rfl) ⟨(Nat.le_of_ble_eq_true rfl), (Nat.le_of_ble_eq_true rfl)⟩ (Nat.le_of_ble_eq_true rfl) (Nat.le_of_ble_eq_true rfl) (fun x A hP => ?_)
    obtain ⟨h4, h5⟩ := hP
    subst h4
    have hC := hC.upd 0 rfl h5
    have hS := hS.upd h5 (by simp)
    refine bw_iret dX10_polynomial_66 rfl (Nat.le_of_ble_eq_true rfl) (Nat.le_of_ble_eq_true rfl) ?_
    exact ⟨_, rfl, ⟨rfl, hS, hC.at 0 rfl⟩, ⟨_, fun i hi => if_neg (by omega), hC.at 4 rfl⟩, hC.sub [1, 2] (by decide) rfl⟩
  · have h66 : 65 < pd (gcut row rn) := by
      rcases h with h | h
      · exact absurd (by rw [h]) c46
      · exact h
    refine bw_aload_n 50 dX10_polynomial_49 rfl rfl ?_
    refine bw_get 53 dX10_polynomial_50 rfl lX10_42 (hC.at 0 rfl) rfl ?_
    refine bw_cSi 56 dX10_polynomial_53 rfl sX10_165 (m_high g (hC.sub [4] (by decide) rfl) hl31) rfl rfl (Nat.le_of_ble_eq_true rfl) ⟨(Nat.le_of_ble_eq_true rfl), (Nat.le_of_ble_eq_true rfl)⟩ (Nat.le_of_ble_eq_true rfl) (Nat.le_of_ble_eq_true rfl) ?_
    refine bw_bipush (65) 58 dX10_polynomial_56 (by decide) rfl ?_
    refine bw_eqi (y := nI 65) rfl ?_
    refine bw_icmp_lt 67 61 dX10_polynomial_58 rfl rfl (fun c58 => ?_) (fun c58 => ?_)
    · exact absurd ((tI_ltk (k := 65) (by have := gtp_le (gcut row rn) 200; unfold pd; omega) (by omega)).mp c58) (by omega)
    · skip
      refine bw_aload_n 62 dX10_polynomial_61 rfl rfl ?_
      refine bw_iconst (1) 63 dX10_polynomial_62 (by decide) rfl ?_
      refine bw_eqi (y := nI 1) rfl ?_
      refine bw_cVm 66 dX10_polynomial_63 rfl vX10_118 (m_fail g (hC.sub [0] (by decide) rfl)) (hC.at 0 rfl) rfl rfl (Nat.le_of_ble_eq_true rfl) ⟨(Nat.le_of_ble_eq_true rfl), (Nat.le_of_ble_eq_true rfl)⟩ (Nat.le_of_ble_eq_true rfl) (Nat.le_of_ble_eq_true rfl) (fun x A hP => ?_)
      obtain ⟨h4, h5⟩ := hP
      subst h4
      have hC := hC.upd 0 rfl h5
      have hS := hS.upd h5 (by simp)
      refine bw_iret dX10_polynomial_66 rfl (Nat.le_of_ble_eq_true rfl) (Nat.le_of_ble_eq_true rfl) ?_
      exact ⟨_, rfl, ⟨rfl, hS, hC.at 0 rfl⟩, ⟨_, fun i hi => if_neg (by omega), hC.at 4 rfl⟩, hC.sub [1, 2] (by decide) rfl⟩
theorem gam_z {n q : Nat} {F h : Nat → Nat} {i c a b : Nat} (hh : ∀ j, a ≤ j → h j = 0) (hab : a ≤ b) : gam n q F h i 0 c b = gam n q F h i 0 c a := by
  funext t
  unfold gam
  by_cases h1 : i ≤ t ∧ t < i + a
  · rw [if_pos h1, if_pos (by omega)]
  · rw [if_neg h1]
    by_cases h2 : i ≤ t ∧ t < i + b
    · rw [if_pos h2, hh (0 + (t - i)) (by omega), gm_b0, Nat.xor_zero]
    · rw [if_neg h2]
theorem gmu_m {n q : Nat} {f h : Nat → Nat} {a b : Nat} (hh : ∀ j, a ≤ j → h j = 0) (hab : a ≤ b) : ∀ k, gmu n q f h b k = gmu n q f h a k
  | 0 => rfl
  | k + 1 => by
    show gam n q (gmu n q f h b k) h k 0 (f k) b = gam n q (gmu n q f h a k) h k 0 (f k) a
    rw [gmu_m hh hab k, gam_z hh hab]
theorem gmu_k {n q : Nat} {f h : Nat → Nat} {m a : Nat} (hf : ∀ j, a ≤ j → f j = 0) : ∀ d, gmu n q f h m (a + d) = gmu n q f h m a
  | 0 => rfl
  | d + 1 => by
    show gam n q (gmu n q f h m (a + d)) h (a + d) 0 (f (a + d)) m = _
    rw [hf (a + d) (by omega), gam_c0, gmu_k hf d]
set_option maxHeartbeats 4000000 in
theorem m_multiply_in (g : bw_G) {A0 : bw_H} {M n p gg rn mn pn rd rs pt sn i : Nat} {dd C f h F : Nat → Nat} {Q : bw_O → bw_H → Prop} (hG : GFg n p gg) (hf : pok n 65 f) (hh : pok n 65 h) (hi : i < 65) (hfi : f i ≠ 0)
    (kk : ∀ A : bw_H, bw_has A ((M, mdo M n p gg 0 rn mn pn rd rs pt sn) :: (mpc g M dd C ++ [(M + 10, bw_an g 200 f), (M + 11, bw_an g 200 h), (M + 12, bw_an g 200 (gam n (2 ^ n ||| p) F h i 0 (f i) 65))])) → bw_sm (M :: ([M + 10, M + 11, M + 12] ++ mpl M)) A0 A → bw_W g (bw_rm 8 0 0) mX10_multiply Q 0 0 114 [(0, .ref M), (3, .int (nI i))] [] A) :
    ∀ (d j : Nat), j + d = 65 → ∀ A : bw_H, bw_has A ((M, mdo M n p gg 0 rn mn pn rd rs pt sn) :: (mpc g M dd C ++ [(M + 10, bw_an g 200 f), (M + 11, bw_an g 200 h), (M + 12, bw_an g 200 (gam n (2 ^ n ||| p) F h i 0 (f i) j))])) → bw_sm (M :: ([M + 10, M + 11, M + 12] ++ mpl M)) A0 A →
      bw_W g (bw_rm 8 0 0) mX10_multiply Q 0 0 63 [(0, .ref M), (3, .int (nI i)), (4, .int (nI j))] [] A := by
  have h16 := hG.p16
  intro d
  induction d with
  | zero =>
    intro j hj A hC hS
    have hj : j = 65 := by omega
    subst hj
    refine bw_iload 65 dX10_multiply_63 rfl rfl ?_
    refine bw_bipush (65) 67 dX10_multiply_65 (by decide) rfl ?_
    refine bw_eqi (y := nI 65) rfl ?_
    refine bw_icmp_ge 114 70 dX10_multiply_67 rfl rfl (fun c67 => ?_) (fun c67 => ?_)
    · exact bw_loc [(0, .ref M), (3, .int (nI i))] ⟨rfl, rfl, trivial⟩ (kk A hC hS)
    · exact absurd (Int32.le_refl _) c67
  | succ d ih =>
    intro j hj A hC hS
    refine bw_iload 65 dX10_multiply_63 rfl rfl ?_
    refine bw_bipush (65) 67 dX10_multiply_65 (by decide) rfl ?_
    refine bw_eqi (y := nI 65) rfl ?_
    refine bw_icmp_ge 114 70 dX10_multiply_67 rfl rfl (fun c67 => ?_) (fun c67 => ?_)
    · exact absurd c67 (nI_ge (b := 65) (by omega) (by omega))
    · skip
      refine bw_aload_n 71 dX10_multiply_70 rfl rfl ?_
      refine bw_get 74 dX10_multiply_71 rfl lX10_42 (hC.at 0 rfl) rfl ?_
      refine bw_iload_n 75 dX10_multiply_74 rfl rfl ?_
      refine bw_ialdN 76 dX10_multiply_75 rfl (hC.at 3 rfl) (by omega) (by omega) ?_
      refine bw_if_eq 114 79 dX10_multiply_76 rfl rfl (fun c76 => ?_) (fun c76 => ?_)
      · exact absurd ((xn_eq0 (by have := hf.2 i; omega)).mp c76) hfi
      · skip
        refine bw_aload_n 80 dX10_multiply_79 rfl rfl ?_
        refine bw_get 83 dX10_multiply_80 rfl lX10_48 (hC.at 0 rfl) rfl ?_
        refine bw_iload_n 84 dX10_multiply_83 rfl rfl ?_
        refine bw_iload 86 dX10_multiply_84 rfl rfl ?_
        refine bw_iadd 87 dX10_multiply_86 rfl ?_
        refine bw_eqi (nI_add i j) ?_
        refine bw_dup2 88 dX10_multiply_87 rfl rfl rfl ?_
        refine bw_ialdN 89 dX10_multiply_88 rfl (hC.at 5 rfl) (by omega) (by omega) ?_
        refine bw_eqi (congrArg nI (gam_at n (2 ^ n ||| p) F h i 0 (f i) j)) ?_
        refine bw_aload_n 90 dX10_multiply_89 rfl rfl ?_
        refine bw_aload_n 91 dX10_multiply_90 rfl rfl ?_
        refine bw_get 94 dX10_multiply_91 rfl lX10_42 (hC.at 0 rfl) rfl ?_
        refine bw_iload_n 95 dX10_multiply_94 rfl rfl ?_
        refine bw_ialdN 96 dX10_multiply_95 rfl (hC.at 3 rfl) (by omega) (by omega) ?_
        refine bw_aload_n 97 dX10_multiply_96 rfl rfl ?_
        refine bw_get 100 dX10_multiply_97 rfl lX10_45 (hC.at 0 rfl) rfl ?_
        refine bw_iload 102 dX10_multiply_100 rfl rfl ?_
        refine bw_ialdN 103 dX10_multiply_102 rfl (hC.at 4 rfl) (by omega) (by omega) ?_
        refine bw_cVi 106 dX10_multiply_103 rfl vX10_102 (m_mul g hG (hC.sub [0] (by decide) rfl) (hf.2 i) (hh.2 j)) (hC.at 0 rfl) rfl rfl (Nat.le_of_ble_eq_true rfl) ⟨(Nat.le_of_ble_eq_true rfl), (Nat.le_of_ble_eq_true rfl)⟩ (Nat.le_of_ble_eq_true rfl) (Nat.le_of_ble_eq_true rfl) ?_
        refine bw_ixor 107 dX10_multiply_106 rfl ?_
        refine bw_eqi (xn_xor (F (i + j)) (gm n (2 ^ n ||| p) (f i) (h j))) ?_
        refine bw_iastN 108 dX10_multiply_107 rfl (hC.at 5 rfl) (by omega) (by omega) (G := gam n (2 ^ n ||| p) F h i 0 (f i) (j + 1)) (by have := gam_s n (2 ^ n ||| p) F h i 0 (f i) j; rw [Nat.zero_add] at this; exact this) (fun A hU => ?_)
        have hC := hC.upd 5 rfl hU
        have hS := hS.upd hU (by simp)
        clear hU
        refine bw_iincN (1) 111 dX10_multiply_108 rfl rfl (by decide) (by decide) ?_
        refine bw_goto 63 dX10_multiply_111 rfl ?_
        refine bw_loc _ ?_ (ih (j + 1) (by omega) A hC hS)
        exact ⟨rfl, rfl, congrArg (fun x => some (Value.int x)) (nI_1 ( j )), trivial⟩
set_option maxHeartbeats 4000000 in
theorem m_multiply_out (g : bw_G) {A0 : bw_H} {M n p gg rn mn pn rd rs pt sn : Nat} {dd C f h : Nat → Nat} {Q : bw_O → bw_H → Prop} (hG : GFg n p gg) (hf : pok n 65 f) (hh : pok n 65 h)
    (kk : ∀ A : bw_H, bw_has A ((M, mdo M n p gg 0 rn mn pn rd rs pt sn) :: (mpc g M dd C ++ [(M + 10, bw_an g 200 f), (M + 11, bw_an g 200 h), (M + 12, bw_an g 200 (gmu n (2 ^ n ||| p) f h 65 65))])) → bw_sm (M :: ([M + 10, M + 11, M + 12] ++ mpl M)) A0 A → bw_W g (bw_rm 8 0 0) mX10_multiply Q 0 0 120 [(0, .ref M)] [] A) :
    ∀ (d i : Nat), i + d = 65 → ∀ A : bw_H, bw_has A ((M, mdo M n p gg 0 rn mn pn rd rs pt sn) :: (mpc g M dd C ++ [(M + 10, bw_an g 200 f), (M + 11, bw_an g 200 h), (M + 12, bw_an g 200 (gmu n (2 ^ n ||| p) f h 65 i))])) → bw_sm (M :: ([M + 10, M + 11, M + 12] ++ mpl M)) A0 A →
      bw_W g (bw_rm 8 0 0) mX10_multiply Q 0 0 54 [(0, .ref M), (3, .int (nI i))] [] A := by
  have h16 := hG.p16
  intro d
  induction d with
  | zero =>
    intro i hi A hC hS
    have hi : i = 65 := by omega
    subst hi
    refine bw_iload_n 55 dX10_multiply_54 rfl rfl ?_
    refine bw_bipush (65) 57 dX10_multiply_55 (by decide) rfl ?_
    refine bw_eqi (y := nI 65) rfl ?_
    refine bw_icmp_ge 120 60 dX10_multiply_57 rfl rfl (fun c57 => ?_) (fun c57 => ?_)
    · exact bw_loc [(0, .ref M)] ⟨rfl, trivial⟩ (kk A hC hS)
    · exact absurd (Int32.le_refl _) c57
  | succ d ih =>
    intro i hi A hC hS
    have fin : ∀ A : bw_H, bw_has A ((M, mdo M n p gg 0 rn mn pn rd rs pt sn) :: (mpc g M dd C ++ [(M + 10, bw_an g 200 f), (M + 11, bw_an g 200 h), (M + 12, bw_an g 200 (gmu n (2 ^ n ||| p) f h 65 (i + 1)))])) → bw_sm (M :: ([M + 10, M + 11, M + 12] ++ mpl M)) A0 A → bw_W g (bw_rm 8 0 0) mX10_multiply Q 0 0 114 [(0, .ref M), (3, .int (nI i))] [] A := by
      intro A hC hS
      refine bw_iincN (1) 117 dX10_multiply_114 rfl rfl (by decide) (by decide) ?_
      refine bw_goto 54 dX10_multiply_117 rfl ?_
      refine bw_loc _ ?_ (ih (i + 1) (by omega) A hC hS)
      exact ⟨rfl, congrArg (fun x => some (Value.int x)) (nI_1 ( i )), trivial⟩
    by_cases hfi : f i = 0
    · have he : gmu n (2 ^ n ||| p) f h 65 (i + 1) = gmu n (2 ^ n ||| p) f h 65 i := by
        show gam n (2 ^ n ||| p) (gmu n (2 ^ n ||| p) f h 65 i) h i 0 (f i) 65 = _
        rw [hfi, gam_c0]
      refine bw_iload_n 55 dX10_multiply_54 rfl rfl ?_
      refine bw_bipush (65) 57 dX10_multiply_55 (by decide) rfl ?_
      refine bw_eqi (y := nI 65) rfl ?_
      refine bw_icmp_ge 120 60 dX10_multiply_57 rfl rfl (fun c57 => ?_) (fun c57 => ?_)
      · exact absurd c57 (nI_ge (b := 65) (by omega) (by omega))
      · refine bw_iconst (0) 61 dX10_multiply_60 (by decide) rfl ?_
        refine bw_eqi (y := nI 0) rfl ?_
        refine bw_istore 63 dX10_multiply_61 rfl (by decide) ?_
        refine bw_iload 65 dX10_multiply_63 rfl rfl ?_
        refine bw_bipush (65) 67 dX10_multiply_65 (by decide) rfl ?_
        refine bw_eqi (y := nI 65) rfl ?_
        refine bw_icmp_ge 114 70 dX10_multiply_67 rfl rfl (fun c67 => ?_) (fun c67 => ?_)
        · exact absurd c67 (by decide)
        · refine bw_aload_n 71 dX10_multiply_70 rfl rfl ?_
          refine bw_get 74 dX10_multiply_71 rfl lX10_42 (hC.at 0 rfl) rfl ?_
          refine bw_iload_n 75 dX10_multiply_74 rfl rfl ?_
          refine bw_ialdN 76 dX10_multiply_75 rfl (hC.at 3 rfl) (by omega) (by omega) ?_
          refine bw_if_eq 114 79 dX10_multiply_76 rfl rfl (fun c76 => ?_) (fun c76 => ?_)
          · refine bw_loc _ ?_ (fin A (by rw [he]; exact hC) hS)
            exact ⟨rfl, rfl, trivial⟩
          · exact absurd (by rw [hfi]; rfl) c76
    · skip
      refine bw_iload_n 55 dX10_multiply_54 rfl rfl ?_
      refine bw_bipush (65) 57 dX10_multiply_55 (by decide) rfl ?_
      refine bw_eqi (y := nI 65) rfl ?_
      refine bw_icmp_ge 120 60 dX10_multiply_57 rfl rfl (fun c57 => ?_) (fun c57 => ?_)
      · exact absurd c57 (nI_ge (b := 65) (by omega) (by omega))
      · refine bw_iconst (0) 61 dX10_multiply_60 (by decide) rfl ?_
        refine bw_eqi (y := nI 0) rfl ?_
        refine bw_istore 63 dX10_multiply_61 rfl (by decide) ?_
        refine bw_loc _ ?_ (m_multiply_in g hG hf hh (show i < 65 by omega) hfi fin 65 0 (by omega) A (by rw [gam_0]; exact hC) hS)
        exact ⟨rfl, rfl, rfl, trivial⟩
theorem mz3 {g : bw_G} {A : bw_H} {X Y Z : Nat} {f h k : Nat → Nat} (h1 : A.2 X = some (bw_an g 200 f)) (h2 : A.2 Y = some (bw_an g 200 h)) (h3 : A.2 Z = some (bw_an g 200 k)) (z1 : ∀ i, 200 ≤ i → f i = 0) (z2 : ∀ i, 200 ≤ i → h i = 0) (z3 : ∀ i, 200 ≤ i → k i = 0) : ∀ W ∈ [X, Y, Z], mzz g A W := by
  intro W hW
  rcases List.mem_cons.mp hW with e | hW
  · rw [e]; exact ⟨f, z1, h1⟩
  · rcases List.mem_cons.mp hW with e | hW
    · rw [e]; exact ⟨h, z2, h2⟩
    · rw [List.mem_singleton.mp hW]; exact ⟨k, z3, h3⟩
set_option maxHeartbeats 4000000 in
theorem m_multiply_fin (g : bw_G) {A A0 : bw_H} {M n p gg rn mn pn rd rs pt sn : Nat} {dd C f h F : Nat → Nat} (hC : bw_has A ((M, mdo M n p gg 0 rn mn pn rd rs pt sn) :: (mpc g M dd C ++ [(M + 10, bw_an g 200 f), (M + 11, bw_an g 200 h), (M + 12, bw_an g 200 F)]))) (hS : bw_sm (M :: ([M + 10, M + 11, M + 12] ++ mpl M)) A0 A) (hl31 : ∀ i, F i < 2 ^ 31) (z1 : ∀ i, 200 ≤ i → f i = 0) (z2 : ∀ i, 200 ≤ i → h i = 0) (z3 : ∀ i, 200 ≤ i → F i = 0) (hp : pn < 40) (h65 : pd F ≤ 65) : bw_W g (bw_rm 8 0 0) mX10_multiply (bw_pm (mKP g M [M + 10, M + 11, M + 12] (mdo M n p gg 0 rn mn (pn + 1) rd rs pt sn) (nI pn) (fun i => if i = pn then pd F else dd i) (gck F C pn 65) A0)) 0 0 120 [(0, .ref M)] [] A := by
  skip
  refine bw_aload_n 121 dX10_multiply_120 rfl rfl ?_
  refine bw_get 124 dX10_multiply_121 rfl lX10_158 (hC.at 0 rfl) rfl ?_
  refine bw_bipush (40) 126 dX10_multiply_124 (by decide) rfl ?_
  refine bw_eqi (y := nI 40) rfl ?_
  refine bw_icmp_eq 141 129 dX10_multiply_126 rfl rfl (fun c126 => ?_) (fun c126 => ?_)
  · exact absurd ((nI_eq (b := 40) (by omega) (by omega)).mp c126) (by omega)
  · refine bw_aload_n 130 dX10_multiply_129 rfl rfl ?_
    refine bw_get 133 dX10_multiply_130 rfl lX10_48 (hC.at 0 rfl) rfl ?_
    refine bw_cSi 136 dX10_multiply_133 rfl sX10_165 (m_high g (hC.sub [5] (by decide) rfl) hl31) rfl rfl (Nat.le_of_ble_eq_true rfl) ⟨(Nat.le_of_ble_eq_true rfl), (Nat.le_of_ble_eq_true rfl)⟩ (Nat.le_of_ble_eq_true rfl) (Nat.le_of_ble_eq_true rfl) ?_
    refine bw_bipush (65) 138 dX10_multiply_136 (by decide) rfl ?_
    refine bw_eqi (y := nI 65) rfl ?_
    refine bw_icmp_lt 147 141 dX10_multiply_138 rfl rfl (fun c138 => ?_) (fun c138 => ?_)
    · refine bw_aload_n 148 dX10_multiply_147 rfl rfl ?_
      refine bw_aload_n 149 dX10_multiply_148 rfl rfl ?_
      refine bw_get 152 dX10_multiply_149 rfl lX10_48 (hC.at 0 rfl) rfl ?_
      refine bw_cVm 155 dX10_multiply_152 rfl vX10_169 (m_kept g (hC.sub [0, 1, 2, 5] (by decide) rfl) hl31 hp) (hC.at 0 rfl) rfl rfl (Nat.le_of_ble_eq_true rfl) ⟨(Nat.le_of_ble_eq_true rfl), (Nat.le_of_ble_eq_true rfl)⟩ (Nat.le_of_ble_eq_true rfl) (Nat.le_of_ble_eq_true rfl) (fun x A hP => ?_)
      obtain ⟨⟨h4, h5, h6⟩, h7⟩ := hP
      subst h4
      have hW := (hC.sub [3, 4, 5] (by decide) rfl).frm h5 (by simp <;> omega)
      have hS := hS.trans h5 (by simp <;> omega)
      refine bw_iret dX10_multiply_155 rfl (Nat.le_of_ble_eq_true rfl) (Nat.le_of_ble_eq_true rfl) ?_
      exact ⟨_, rfl, rfl, hS, h6, h7, mz3 (hW.at 0 rfl) (hW.at 1 rfl) (hW.at 2 rfl) z1 z2 z3⟩
    · exact absurd ((tI_ltk (k := 65) (by omega) (by omega)).mpr h65) c138
set_option maxHeartbeats 4000000 in
theorem m_multiply_finY (g : bw_G) {A A0 : bw_H} {M n p gg rn mn pn rd rs pt sn : Nat} {dd C f h' F : Nat → Nat} (hC : bw_has A ((M, mdo M n p gg 0 rn mn pn rd rs pt sn) :: (mpc g M dd C ++ [(M + 10, bw_an g 200 f), (M + 11, bw_an g 200 h'), (M + 12, bw_an g 200 F)]))) (hS : bw_sm (M :: ([M + 10, M + 11, M + 12] ++ mpl M)) A0 A) (hl31 : ∀ i, F i < 2 ^ 31) (z1 : ∀ i, 200 ≤ i → f i = 0) (z2 : ∀ i, 200 ≤ i → h' i = 0) (z3 : ∀ i, 200 ≤ i → F i = 0) (hp : pn ≤ 40) (h : pn = 40 ∨ 65 < pd F) : bw_W g (bw_rm 8 0 0) mX10_multiply (bw_pm (fun y A' => maR M ([M + 10, M + 11, M + 12] ++ mpl M) (mdo M n p gg 2 rn mn pn rd rs pt sn) (nI 0) A0 y A' ∧ (∀ X ∈ [M + 10, M + 11, M + 12], mzz g A' X) ∧ bw_has A' (mpc g M dd C))) 0 0 120 [(0, .ref M)] [] A := by
  skip
  refine bw_aload_n 121 dX10_multiply_120 rfl rfl ?_
  refine bw_get 124 dX10_multiply_121 rfl lX10_158 (hC.at 0 rfl) rfl ?_
  refine bw_bipush (40) 126 dX10_multiply_124 (by decide) rfl ?_
  refine bw_eqi (y := nI 40) rfl ?_
  refine bw_icmp_eq 141 129 dX10_multiply_126 rfl rfl (fun c126 => ?_) (fun c126 => ?_)
  · skip
    refine bw_aload_n 142 dX10_multiply_141 rfl rfl ?_
    refine bw_iconst (2) 143 dX10_multiply_142 (by decide) rfl ?_
    refine bw_eqi (y := nI 2) rfl ?_
    refine bw_cVm 146 dX10_multiply_143 rfl vX10_118 (m_fail g (hC.sub [0] (by decide) rfl)) (hC.at 0 rfl) rfl rfl (Nat.le_of_ble_eq_true rfl) ⟨(Nat.le_of_ble_eq_true rfl), (Nat.le_of_ble_eq_true rfl)⟩ (Nat.le_of_ble_eq_true rfl) (Nat.le_of_ble_eq_true rfl) (fun x A hP => ?_)
    obtain ⟨h4, h5⟩ := hP
    subst h4
    have hC := hC.upd 0 rfl h5
    have hS := hS.upd h5 (by simp)
    refine bw_iret dX10_multiply_146 rfl (Nat.le_of_ble_eq_true rfl) (Nat.le_of_ble_eq_true rfl) ?_
    exact ⟨_, rfl, ⟨rfl, hS, hC.at 0 rfl⟩, mz3 (hC.at 3 rfl) (hC.at 4 rfl) (hC.at 5 rfl) z1 z2 z3, hC.sub [1, 2] (by decide) rfl⟩
  · have h66 : 65 < pd F := by
      rcases h with h | h
      · exact absurd (by rw [h]) c126
      · exact h
    refine bw_aload_n 130 dX10_multiply_129 rfl rfl ?_
    refine bw_get 133 dX10_multiply_130 rfl lX10_48 (hC.at 0 rfl) rfl ?_
    refine bw_cSi 136 dX10_multiply_133 rfl sX10_165 (m_high g (hC.sub [5] (by decide) rfl) hl31) rfl rfl (Nat.le_of_ble_eq_true rfl) ⟨(Nat.le_of_ble_eq_true rfl), (Nat.le_of_ble_eq_true rfl)⟩ (Nat.le_of_ble_eq_true rfl) (Nat.le_of_ble_eq_true rfl) ?_
    refine bw_bipush (65) 138 dX10_multiply_136 (by decide) rfl ?_
    refine bw_eqi (y := nI 65) rfl ?_
    refine bw_icmp_lt 147 141 dX10_multiply_138 rfl rfl (fun c138 => ?_) (fun c138 => ?_)
    · exact absurd ((tI_ltk (k := 65) (by have := gtp_le F 200; unfold pd; omega) (by omega)).mp c138) (by omega)
    · skip
      refine bw_aload_n 142 dX10_multiply_141 rfl rfl ?_
      refine bw_iconst (2) 143 dX10_multiply_142 (by decide) rfl ?_
      refine bw_eqi (y := nI 2) rfl ?_
      refine bw_cVm 146 dX10_multiply_143 rfl vX10_118 (m_fail g (hC.sub [0] (by decide) rfl)) (hC.at 0 rfl) rfl rfl (Nat.le_of_ble_eq_true rfl) ⟨(Nat.le_of_ble_eq_true rfl), (Nat.le_of_ble_eq_true rfl)⟩ (Nat.le_of_ble_eq_true rfl) (Nat.le_of_ble_eq_true rfl) (fun x A hP => ?_)
      obtain ⟨h4, h5⟩ := hP
      subst h4
      have hC := hC.upd 0 rfl h5
      have hS := hS.upd h5 (by simp)
      refine bw_iret dX10_multiply_146 rfl (Nat.le_of_ble_eq_true rfl) (Nat.le_of_ble_eq_true rfl) ?_
      exact ⟨_, rfl, ⟨rfl, hS, hC.at 0 rfl⟩, mz3 (hC.at 3 rfl) (hC.at 4 rfl) (hC.at 5 rfl) z1 z2 z3, hC.sub [1, 2] (by decide) rfl⟩
set_option maxHeartbeats 4000000 in
theorem m_multiply_G (g : bw_G) {A : bw_H} {M n p gg th rn mn pn rd rs pt sn a b : Nat} {dd C f1 f2 f3 : Nat → Nat} {Q : bw_O → bw_H → Prop} (hG : GFg n p gg) (hC : bw_has A ((M, mdo M n p gg th rn mn pn rd rs pt sn) :: (mpc g M dd C ++ [(M + 10, bw_an g 200 f1), (M + 11, bw_an g 200 f2), (M + 12, bw_an g 200 f3)]))) (hCl : ∀ i, C i < 2 ^ n) (hz1 : ∀ i, 200 ≤ i → f1 i = 0) (hz2 : ∀ i, 200 ≤ i → f2 i = 0) (hz3 : ∀ i, 200 ≤ i → f3 i = 0) (hp : pn ≤ 40) (ha : a < pn) (hb : b < pn)
    (kk : ∀ A' : bw_H, bw_has A' ((M, mdo M n p gg 0 rn mn pn rd rs pt sn) :: (mpc g M dd C ++ [(M + 10, bw_an g 200 (gcf C a)), (M + 11, bw_an g 200 (gcf C b)), (M + 12, bw_an g 200 (gmu n (2 ^ n ||| p) (gcf C a) (gcf C b) 65 65))])) → bw_sm (M :: ([M + 10, M + 11, M + 12] ++ mpl M)) A A' → bw_W g (bw_rm 8 0 0) mX10_multiply Q 0 0 120 [(0, .ref M)] [] A') : bw_C g (bw_rm 8 0 0) mX10_multiply [.ref M, .int (nI a), .int (nI b)] A Q := by
  have hfa := gcf_ok hCl a
  have hfb := gcf_ok hCl b
  have hS : bw_sm (M :: ([M + 10, M + 11, M + 12] ++ mpl M)) A A := bw_sm.rf
  refine bw_C.of (by decide) (Nat.le_of_ble_eq_true rfl) rfl ?_
  refine bw_aload_n 1 dX10_multiply_0 rfl rfl ?_
  refine bw_iconst (0) 2 dX10_multiply_1 (by decide) rfl ?_
  refine bw_eqi (y := nI 0) rfl ?_
  refine bw_putU 5 dX10_multiply_2 rfl pX10_1 (hC.at 0 rfl) rfl rfl (Nat.le_of_ble_eq_true rfl) (fun A hU => ?_)
  have hC := hC.upd 0 rfl hU
  have hS := hS.upd hU (by simp)
  clear hU
  refine bw_aload_n 6 dX10_multiply_5 rfl rfl ?_
  refine bw_iload_n 7 dX10_multiply_6 rfl rfl ?_
  refine bw_cVi 10 dX10_multiply_7 rfl vX10_182 (m_isPolynomial g (hC.sub [0] (by decide) rfl) (kI_nI (by omega) ha)) (hC.at 0 rfl) rfl rfl (Nat.le_of_ble_eq_true rfl) ⟨(Nat.le_of_ble_eq_true rfl), (Nat.le_of_ble_eq_true rfl)⟩ (Nat.le_of_ble_eq_true rfl) (Nat.le_of_ble_eq_true rfl) ?_
  refine bw_if_eq 21 13 dX10_multiply_10 rfl rfl (fun c10 => ?_) (fun c10 => ?_)
  · exact absurd c10 (by decide)
  · refine bw_aload_n 14 dX10_multiply_13 rfl rfl ?_
    refine bw_iload_n 15 dX10_multiply_14 rfl rfl ?_
    refine bw_cVi 18 dX10_multiply_15 rfl vX10_182 (m_isPolynomial g (hC.sub [0] (by decide) rfl) (kI_nI (by omega) hb)) (hC.at 0 rfl) rfl rfl (Nat.le_of_ble_eq_true rfl) ⟨(Nat.le_of_ble_eq_true rfl), (Nat.le_of_ble_eq_true rfl)⟩ (Nat.le_of_ble_eq_true rfl) (Nat.le_of_ble_eq_true rfl) ?_
    refine bw_if_ne 27 21 dX10_multiply_18 rfl rfl (fun c18 => ?_) (fun c18 => ?_)
    · refine bw_aload_n 28 dX10_multiply_27 rfl rfl ?_
      refine bw_aload_n 29 dX10_multiply_28 rfl rfl ?_
      refine bw_get 32 dX10_multiply_29 rfl lX10_42 (hC.at 0 rfl) rfl ?_
      refine bw_iload_n 33 dX10_multiply_32 rfl rfl ?_
      refine bw_cVv 36 dX10_multiply_33 rfl vX10_185 (m_load g (hC.sub [3, 0, 2] (by decide) rfl) hz1 (by omega)) (hC.at 0 rfl) rfl rfl (Nat.le_of_ble_eq_true rfl) ⟨(Nat.le_of_ble_eq_true rfl), (Nat.le_of_ble_eq_true rfl)⟩ (Nat.le_of_ble_eq_true rfl) (Nat.le_of_ble_eq_true rfl) (fun A hP => ?_)
      obtain ⟨hs1, hs2⟩ := hP
      have hU := sm_up hs1 hs2
      have hC := hC.upd 3 rfl hU
      have hS := hS.upd hU (by simp)
      clear hU
      refine bw_aload_n 37 dX10_multiply_36 rfl rfl ?_
      refine bw_aload_n 38 dX10_multiply_37 rfl rfl ?_
      refine bw_get 41 dX10_multiply_38 rfl lX10_45 (hC.at 0 rfl) rfl ?_
      refine bw_iload_n 42 dX10_multiply_41 rfl rfl ?_
      refine bw_cVv 45 dX10_multiply_42 rfl vX10_185 (m_load g (hC.sub [4, 0, 2] (by decide) rfl) hz2 (by omega)) (hC.at 0 rfl) rfl rfl (Nat.le_of_ble_eq_true rfl) ⟨(Nat.le_of_ble_eq_true rfl), (Nat.le_of_ble_eq_true rfl)⟩ (Nat.le_of_ble_eq_true rfl) (Nat.le_of_ble_eq_true rfl) (fun A hP => ?_)
      obtain ⟨hs1, hs2⟩ := hP
      have hU := sm_up hs1 hs2
      have hC := hC.upd 4 rfl hU
      have hS := hS.upd hU (by simp)
      clear hU
      refine bw_aload_n 46 dX10_multiply_45 rfl rfl ?_
      refine bw_get 49 dX10_multiply_46 rfl lX10_48 (hC.at 0 rfl) rfl ?_
      refine bw_cSv 52 dX10_multiply_49 rfl sX10_161 (m_nothing g (hC.sub [5] (by decide) rfl) hz3) rfl rfl (Nat.le_of_ble_eq_true rfl) ⟨(Nat.le_of_ble_eq_true rfl), (Nat.le_of_ble_eq_true rfl)⟩ (Nat.le_of_ble_eq_true rfl) (Nat.le_of_ble_eq_true rfl) (fun A hP => ?_)
      obtain ⟨hs1, hs2⟩ := hP
      have hU := sm_up hs1 hs2
      have hC := hC.upd 5 rfl hU
      have hS := hS.upd hU (by simp)
      clear hU
      refine bw_iconst (0) 53 dX10_multiply_52 (by decide) rfl ?_
      refine bw_eqi (y := nI 0) rfl ?_
      refine bw_istore_n 54 dX10_multiply_53 rfl (by decide) ?_
      refine bw_loc _ ?_ (m_multiply_out g hG hfa hfb kk 65 0 (by omega) A hC hS)
      exact ⟨rfl, rfl, trivial⟩
    · exact absurd c18 (by decide)
theorem gmu_31 {n p gg : Nat} (hG : GFg n p gg) {C : Nat → Nat} (hCl : ∀ i, C i < 2 ^ n) (a b i : Nat) : gmu n (2 ^ n ||| p) (gcf C a) (gcf C b) 65 65 i < 2 ^ 31 := by
  have := gmu_lt (h := gcf C b) (m := 65) hG.2.2.1 (gcf_ok hCl a).2 65 i
  have := hG.p16
  omega
theorem m_multiply (g : bw_G) {A : bw_H} {M n p gg th rn mn pn rd rs pt sn a b : Nat} {dd C f1 f2 f3 : Nat → Nat} (hG : GFg n p gg) (hC : bw_has A ((M, mdo M n p gg th rn mn pn rd rs pt sn) :: (mpc g M dd C ++ [(M + 10, bw_an g 200 f1), (M + 11, bw_an g 200 f2), (M + 12, bw_an g 200 f3)]))) (hCl : ∀ i, C i < 2 ^ n) (hz1 : ∀ i, 200 ≤ i → f1 i = 0) (hz2 : ∀ i, 200 ≤ i → f2 i = 0) (hz3 : ∀ i, 200 ≤ i → f3 i = 0) (hp : pn < 40) (ha : a < pn) (hb : b < pn) (h65 : pd (gmu n (2 ^ n ||| p) (gcf C a) (gcf C b) 65 65) ≤ 65) : bw_C g (bw_rm 8 0 0) mX10_multiply [.ref M, .int (nI a), .int (nI b)] A (bw_pm (mKP g M [M + 10, M + 11, M + 12] (mdo M n p gg 0 rn mn (pn + 1) rd rs pt sn) (nI pn) (fun i => if i = pn then pd (gmu n (2 ^ n ||| p) (gcf C a) (gcf C b) 65 65) else dd i) (gck (gmu n (2 ^ n ||| p) (gcf C a) (gcf C b) 65 65) C pn 65) A)) :=
  m_multiply_G g hG hC hCl hz1 hz2 hz3 (by omega) ha hb (fun A' hC' hS' => m_multiply_fin g hC' hS' (gmu_31 hG hCl a b) (fun i hi => gcf_z i (by omega)) (fun i hi => gcf_z i (by omega)) (fun i hi => gmu_z 65 i (by omega)) hp h65)
theorem m_multiplyY (g : bw_G) {A : bw_H} {M n p gg th rn mn pn rd rs pt sn a b : Nat} {dd C f1 f2 f3 : Nat → Nat} (hG : GFg n p gg) (hC : bw_has A ((M, mdo M n p gg th rn mn pn rd rs pt sn) :: (mpc g M dd C ++ [(M + 10, bw_an g 200 f1), (M + 11, bw_an g 200 f2), (M + 12, bw_an g 200 f3)]))) (hCl : ∀ i, C i < 2 ^ n) (hz1 : ∀ i, 200 ≤ i → f1 i = 0) (hz2 : ∀ i, 200 ≤ i → f2 i = 0) (hz3 : ∀ i, 200 ≤ i → f3 i = 0) (hp : pn ≤ 40) (ha : a < pn) (hb : b < pn) (h : pn = 40 ∨ 65 < pd (gmu n (2 ^ n ||| p) (gcf C a) (gcf C b) 65 65)) : bw_C g (bw_rm 8 0 0) mX10_multiply [.ref M, .int (nI a), .int (nI b)] A (bw_pm (fun y A' => maR M ([M + 10, M + 11, M + 12] ++ mpl M) (mdo M n p gg 2 rn mn pn rd rs pt sn) (nI 0) A y A' ∧ (∀ X ∈ [M + 10, M + 11, M + 12], mzz g A' X) ∧ bw_has A' (mpc g M dd C))) :=
  m_multiply_G g hG hC hCl hz1 hz2 hz3 hp ha hb (fun A' hC' hS' => m_multiply_finY g hC' hS' (gmu_31 hG hCl a b) (fun i hi => gcf_z i (by omega)) (fun i hi => gcf_z i (by omega)) (fun i hi => gmu_z 65 i (by omega)) hp h)
theorem m_multiplyX (g : bw_G) {A : bw_H} {M n p gg th rn mn pn rd rs pt sn : Nat} {a b : Int32} (hC : bw_has A [(M, mdo M n p gg th rn mn pn rd rs pt sn)]) (h : ¬ (kI pn a ∧ kI pn b)) : bw_C g (bw_rm 8 0 0) mX10_multiply [.ref M, .int a, .int b] A (bw_pm (maR M [] (mdo M n p gg 1 rn mn pn rd rs pt sn) (nI 0) A)) := by
  have hS : bw_sm [M] A A := bw_sm.rf
  refine bw_C.of (by decide) (Nat.le_of_ble_eq_true rfl) rfl ?_
  by_cases ha : kI pn a
  · skip
    refine bw_aload_n 1 dX10_multiply_0 rfl rfl ?_
    refine bw_iconst (0) 2 dX10_multiply_1 (by decide) rfl ?_
    refine bw_eqi (y := nI 0) rfl ?_
    refine bw_putU 5 dX10_multiply_2 rfl pX10_1 (hC.at 0 rfl) rfl rfl (Nat.le_of_ble_eq_true rfl) (fun A hU => ?_)
    have hC := hC.upd 0 rfl hU
    have hS := hS.upd hU (by simp)
    clear hU
    refine bw_aload_n 6 dX10_multiply_5 rfl rfl ?_
    refine bw_iload_n 7 dX10_multiply_6 rfl rfl ?_
    refine bw_cVi 10 dX10_multiply_7 rfl vX10_182 (m_isPolynomial g hC ha) (hC.at 0 rfl) rfl rfl (Nat.le_of_ble_eq_true rfl) ⟨(Nat.le_of_ble_eq_true rfl), (Nat.le_of_ble_eq_true rfl)⟩ (Nat.le_of_ble_eq_true rfl) (Nat.le_of_ble_eq_true rfl) ?_
    refine bw_if_eq 21 13 dX10_multiply_10 rfl rfl (fun c10 => ?_) (fun c10 => ?_)
    · exact absurd c10 (by decide)
    · refine bw_aload_n 14 dX10_multiply_13 rfl rfl ?_
      refine bw_iload_n 15 dX10_multiply_14 rfl rfl ?_
      refine bw_cVi 18 dX10_multiply_15 rfl vX10_182 (m_isPolynomialX g hC (fun hb => h ⟨ha, hb⟩)) (hC.at 0 rfl) rfl rfl (Nat.le_of_ble_eq_true rfl) ⟨(Nat.le_of_ble_eq_true rfl), (Nat.le_of_ble_eq_true rfl)⟩ (Nat.le_of_ble_eq_true rfl) (Nat.le_of_ble_eq_true rfl) ?_
      refine bw_if_ne 27 21 dX10_multiply_18 rfl rfl (fun c18 => ?_) (fun c18 => ?_)
      · exact absurd rfl c18
      · refine bw_aload_n 22 dX10_multiply_21 rfl rfl ?_
        refine bw_iconst (1) 23 dX10_multiply_22 (by decide) rfl ?_
        refine bw_eqi (y := nI 1) rfl ?_
        refine bw_cVm 26 dX10_multiply_23 rfl vX10_118 (m_fail g hC) (hC.at 0 rfl) rfl rfl (Nat.le_of_ble_eq_true rfl) ⟨(Nat.le_of_ble_eq_true rfl), (Nat.le_of_ble_eq_true rfl)⟩ (Nat.le_of_ble_eq_true rfl) (Nat.le_of_ble_eq_true rfl) (fun x A hP => ?_)
        obtain ⟨h4, h5⟩ := hP
        subst h4
        have hC := hC.upd 0 rfl h5
        have hS := hS.upd h5 (by simp)
        refine bw_iret dX10_multiply_26 rfl (Nat.le_of_ble_eq_true rfl) (Nat.le_of_ble_eq_true rfl) ?_
        exact ⟨_, rfl, rfl, hS, hC.at 0 rfl⟩
  · skip
    refine bw_aload_n 1 dX10_multiply_0 rfl rfl ?_
    refine bw_iconst (0) 2 dX10_multiply_1 (by decide) rfl ?_
    refine bw_eqi (y := nI 0) rfl ?_
    refine bw_putU 5 dX10_multiply_2 rfl pX10_1 (hC.at 0 rfl) rfl rfl (Nat.le_of_ble_eq_true rfl) (fun A hU => ?_)
    have hC := hC.upd 0 rfl hU
    have hS := hS.upd hU (by simp)
    clear hU
    refine bw_aload_n 6 dX10_multiply_5 rfl rfl ?_
    refine bw_iload_n 7 dX10_multiply_6 rfl rfl ?_
    refine bw_cVi 10 dX10_multiply_7 rfl vX10_182 (m_isPolynomialX g hC ha) (hC.at 0 rfl) rfl rfl (Nat.le_of_ble_eq_true rfl) ⟨(Nat.le_of_ble_eq_true rfl), (Nat.le_of_ble_eq_true rfl)⟩ (Nat.le_of_ble_eq_true rfl) (Nat.le_of_ble_eq_true rfl) ?_
    refine bw_if_eq 21 13 dX10_multiply_10 rfl rfl (fun c10 => ?_) (fun c10 => ?_)
    · skip
      refine bw_aload_n 22 dX10_multiply_21 rfl rfl ?_
      refine bw_iconst (1) 23 dX10_multiply_22 (by decide) rfl ?_
      refine bw_eqi (y := nI 1) rfl ?_
      refine bw_cVm 26 dX10_multiply_23 rfl vX10_118 (m_fail g hC) (hC.at 0 rfl) rfl rfl (Nat.le_of_ble_eq_true rfl) ⟨(Nat.le_of_ble_eq_true rfl), (Nat.le_of_ble_eq_true rfl)⟩ (Nat.le_of_ble_eq_true rfl) (Nat.le_of_ble_eq_true rfl) (fun x A hP => ?_)
      obtain ⟨h4, h5⟩ := hP
      subst h4
      have hC := hC.upd 0 rfl h5
      have hS := hS.upd h5 (by simp)
      refine bw_iret dX10_multiply_26 rfl (Nat.le_of_ble_eq_true rfl) (Nat.le_of_ble_eq_true rfl) ?_
      exact ⟨_, rfl, rfl, hS, hC.at 0 rfl⟩
    · exact absurd rfl c10
