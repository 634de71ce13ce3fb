/-! the reference: value, plus, polynomial, multiply -/
/-- an array that is worked in: nothing beyond its end -/
def mzz (g : bw_G) (A : bw_H) (X : Nat) : Prop := ∃ f, (∀ i, 200 ≤ i → f i = 0) ∧ A.2 X = some (bw_an g 200 f)
theorem gcf_z {C : Nat → Nat} {p : Nat} (i : Nat) (hi : 65 ≤ i) : gcf C p i = 0 := if_neg (by omega)
theorem gcf_ok {n : Nat} {C : Nat → Nat} (hC : ∀ i, C i < 2 ^ n) (p : Nat) : pok n 65 (gcf C p) := ⟨gcf_z, fun i => by
  unfold gcf
  split
  · exact hC _
  · exact Nat.two_pow_pos n⟩
theorem m_value (g : bw_G) {A : bw_H} {M n p gg th rn mn pn rd rs pt sn k v : Nat} {C f1 : Nat → Nat} (hG : GFg n p gg) (hC : bw_has A [(M, mdo M n p gg th rn mn pn rd rs pt sn), (M + 9, bw_an g 2600 C), (M + 10, bw_an g 200 f1)]) (hCl : ∀ i, C i < 2 ^ n) (hz : ∀ i, 200 ≤ i → f1 i = 0) (hm : pn ≤ 40) (hk : k < pn) (hv : v < 2 ^ n) : bw_C g (bw_rm 8 0 0) mX10_value [.ref M, .int (nI k), .int (nI v)] A (bw_pm (fun y A' => maR M [M + 10] (mdo M n p gg 0 rn mn pn rd rs pt sn) (nI (gvl n (2 ^ n ||| p) (gcf C k) v)) A y A' ∧ mzz g A' (M + 10))) := by
  have hS : bw_sm [M, M + 10] A A := bw_sm.rf
  refine bw_C.of (by decide) (Nat.le_of_ble_eq_true rfl) rfl ?_
  refine bw_aload_n 1 dX10_value_0 rfl rfl ?_
  refine bw_iconst (0) 2 dX10_value_1 (by decide) rfl ?_
  refine bw_eqi (y := nI 0) rfl ?_
  refine bw_putU 5 dX10_value_2 rfl pX10_1 (hC.at 0 rfl) rfl rfl (Nat.le_of_ble_eq_true rfl) (fun A hU => ?_)
  have hC := hC.upd 0 rfl hU
  have hS := hS.upd hU (by simp)
  clear hU
  refine bw_aload_n 6 dX10_value_5 rfl rfl ?_
  refine bw_iload_n 7 dX10_value_6 rfl rfl ?_
  refine bw_cVi 10 dX10_value_7 rfl vX10_182 (m_isPolynomial g (hC.sub [0] (by decide) rfl) (kI_nI (by omega) hk)) (hC.at 0 rfl) rfl rfl (Nat.le_of_ble_eq_true rfl) ⟨(Nat.le_of_ble_eq_true rfl), (Nat.le_of_ble_eq_true rfl)⟩ (Nat.le_of_ble_eq_true rfl) (Nat.le_of_ble_eq_true rfl) ?_
  refine bw_if_ne 19 13 dX10_value_10 rfl rfl (fun c10 => ?_) (fun c10 => ?_)
  · refine bw_aload_n 20 dX10_value_19 rfl rfl ?_
    refine bw_iload_n 21 dX10_value_20 rfl rfl ?_
    refine bw_cVi 24 dX10_value_21 rfl vX10_115 (m_isMember g (hC.sub [0] (by decide) rfl) (mI_nI hG.p16 hv)) (hC.at 0 rfl) rfl rfl (Nat.le_of_ble_eq_true rfl) ⟨(Nat.le_of_ble_eq_true rfl), (Nat.le_of_ble_eq_true rfl)⟩ (Nat.le_of_ble_eq_true rfl) (Nat.le_of_ble_eq_true rfl) ?_
    refine bw_if_ne 33 27 dX10_value_24 rfl rfl (fun c24 => ?_) (fun c24 => ?_)
    · refine bw_aload_n 34 dX10_value_33 rfl rfl ?_
      refine bw_aload_n 35 dX10_value_34 rfl rfl ?_
      refine bw_get 38 dX10_value_35 rfl lX10_42 (hC.at 0 rfl) rfl ?_
      refine bw_iload_n 39 dX10_value_38 rfl rfl ?_
      refine bw_cVv 42 dX10_value_39 rfl vX10_185 (m_load g (hC.sub [2, 0, 1] (by decide) rfl) hz (by omega)) (hC.at 0 rfl) rfl rfl (Nat.le_of_ble_eq_true rfl) ⟨(Nat.le_of_ble_eq_true rfl), (Nat.le_of_ble_eq_true rfl)⟩ (Nat.le_of_ble_eq_true rfl) (Nat.le_of_ble_eq_true rfl) (fun A hP => ?_)
      obtain ⟨hs1, hs2⟩ := hP
      have hU := sm_up hs1 hs2
      have hC := hC.upd 2 rfl hU
      have hS := hS.upd hU (by simp)
      clear hU
      refine bw_aload_n 43 dX10_value_42 rfl rfl ?_
      refine bw_aload_n 44 dX10_value_43 rfl rfl ?_
      refine bw_get 47 dX10_value_44 rfl lX10_42 (hC.at 0 rfl) rfl ?_
      refine bw_iload_n 48 dX10_value_47 rfl rfl ?_
      refine bw_cVi 51 dX10_value_48 rfl vX10_172 (m_atX g hG (hC.sub [0, 2] (by decide) rfl) (gcf_ok hCl k).2 hv) (hC.at 0 rfl) rfl rfl (Nat.le_of_ble_eq_true rfl) ⟨(Nat.le_of_ble_eq_true rfl), (Nat.le_of_ble_eq_true rfl)⟩ (Nat.le_of_ble_eq_true rfl) (Nat.le_of_ble_eq_true rfl) ?_
      refine bw_iret dX10_value_51 rfl (Nat.le_of_ble_eq_true rfl) (Nat.le_of_ble_eq_true rfl) ?_
      exact ⟨_, rfl, ⟨rfl, hS, hC.at 0 rfl⟩, _, fun i hi => gcf_z i (by omega), hC.at 2 rfl⟩
    · exact absurd c24 (by decide)
  · exact absurd c10 (by decide)
theorem m_valueY (g : bw_G) {A : bw_H} {M n p gg th rn mn pn rd rs pt sn k : Nat} {v : Int32} (hC : bw_has A [(M, mdo M n p gg th rn mn pn rd rs pt sn)]) (hm : pn ≤ 40) (hk : k < pn) (h : ¬ mI n v) : bw_C g (bw_rm 8 0 0) mX10_value [.ref M, .int (nI k), .int v] A (bw_pm (maR M [] (mdo M n p gg 2 rn mn pn rd rs pt sn) (nI 0) A)) := by
  have hS : bw_sm [M] A A := bw_sm.rf
  refine bw_C.of (by decide) (Nat.le_of_ble_eq_true rfl) rfl ?_
  refine bw_aload_n 1 dX10_value_0 rfl rfl ?_
  refine bw_iconst (0) 2 dX10_value_1 (by decide) rfl ?_
  refine bw_eqi (y := nI 0) rfl ?_
  refine bw_putU 5 dX10_value_2 rfl pX10_1 (hC.at 0 rfl) rfl rfl (Nat.le_of_ble_eq_true rfl) (fun A hU => ?_)
  have hC := hC.upd 0 rfl hU
  have hS := hS.upd hU (by simp)
  clear hU
  refine bw_aload_n 6 dX10_value_5 rfl rfl ?_
  refine bw_iload_n 7 dX10_value_6 rfl rfl ?_
  refine bw_cVi 10 dX10_value_7 rfl vX10_182 (m_isPolynomial g hC (kI_nI (by omega) hk)) (hC.at 0 rfl) rfl rfl (Nat.le_of_ble_eq_true rfl) ⟨(Nat.le_of_ble_eq_true rfl), (Nat.le_of_ble_eq_true rfl)⟩ (Nat.le_of_ble_eq_true rfl) (Nat.le_of_ble_eq_true rfl) ?_
  refine bw_if_ne 19 13 dX10_value_10 rfl rfl (fun c10 => ?_) (fun c10 => ?_)
  · refine bw_aload_n 20 dX10_value_19 rfl rfl ?_
    refine bw_iload_n 21 dX10_value_20 rfl rfl ?_
    refine bw_cVi 24 dX10_value_21 rfl vX10_115 (m_isMemberX g hC h) (hC.at 0 rfl) rfl rfl (Nat.le_of_ble_eq_true rfl) ⟨(Nat.le_of_ble_eq_true rfl), (Nat.le_of_ble_eq_true rfl)⟩ (Nat.le_of_ble_eq_true rfl) (Nat.le_of_ble_eq_true rfl) ?_
    refine bw_if_ne 33 27 dX10_value_24 rfl rfl (fun c24 => ?_) (fun c24 => ?_)
    · exact absurd rfl c24
    · refine bw_aload_n 28 dX10_value_27 rfl rfl ?_
      refine bw_iconst (2) 29 dX10_value_28 (by decide) rfl ?_
      refine bw_eqi (y := nI 2) rfl ?_
      refine bw_cVm 32 dX10_value_29 rfl vX10_118 (m_fail g hC) (hC.at 0 rfl) rfl rfl (Nat.le_of_ble_eq_true rfl) ⟨(Nat.le_of_ble_eq_true rfl), (Nat.le_of_ble_eq_true rfl)⟩ (Nat.le_of_ble_eq_true rfl) (Nat.le_of_ble_eq_true rfl) (fun x A hP => ?_)
      obtain ⟨h4, h5⟩ := hP
      subst h4
      have hC := hC.upd 0 rfl h5
      have hS := hS.upd h5 (by simp)
      refine bw_iret dX10_value_32 rfl (Nat.le_of_ble_eq_true rfl) (Nat.le_of_ble_eq_true rfl) ?_
      exact ⟨_, rfl, rfl, hS, hC.at 0 rfl⟩
  · exact absurd c10 (by decide)
theorem m_valueX (g : bw_G) {A : bw_H} {M n p gg th rn mn pn rd rs pt sn : Nat} {a v : Int32} (hC : bw_has A [(M, mdo M n p gg th rn mn pn rd rs pt sn)]) (h : ¬ kI pn a) : bw_C g (bw_rm 8 0 0) mX10_value [.ref M, .int a, .int v] A (bw_pm (maR M [] (mdo M n p gg 1 rn mn pn rd rs pt sn) (nI 0) A)) := by
  have hS : bw_sm [M] A A := bw_sm.rf
  refine bw_C.of (by decide) (Nat.le_of_ble_eq_true rfl) rfl ?_
  refine bw_aload_n 1 dX10_value_0 rfl rfl ?_
  refine bw_iconst (0) 2 dX10_value_1 (by decide) rfl ?_
  refine bw_eqi (y := nI 0) rfl ?_
  refine bw_putU 5 dX10_value_2 rfl pX10_1 (hC.at 0 rfl) rfl rfl (Nat.le_of_ble_eq_true rfl) (fun A hU => ?_)
  have hC := hC.upd 0 rfl hU
  have hS := hS.upd hU (by simp)
  clear hU
  refine bw_aload_n 6 dX10_value_5 rfl rfl ?_
  refine bw_iload_n 7 dX10_value_6 rfl rfl ?_
  refine bw_cVi 10 dX10_value_7 rfl vX10_182 (m_isPolynomialX g hC h) (hC.at 0 rfl) rfl rfl (Nat.le_of_ble_eq_true rfl) ⟨(Nat.le_of_ble_eq_true rfl), (Nat.le_of_ble_eq_true rfl)⟩ (Nat.le_of_ble_eq_true rfl) (Nat.le_of_ble_eq_true rfl) ?_
  refine bw_if_ne 19 13 dX10_value_10 rfl rfl (fun c10 => ?_) (fun c10 => ?_)
  · exact absurd rfl c10
  · refine bw_aload_n 14 dX10_value_13 rfl rfl ?_
    refine bw_iconst (1) 15 dX10_value_14 (by decide) rfl ?_
    refine bw_eqi (y := nI 1) rfl ?_
    refine bw_cVm 18 dX10_value_15 rfl vX10_118 (m_fail g hC) (hC.at 0 rfl) rfl rfl (Nat.le_of_ble_eq_true rfl) ⟨(Nat.le_of_ble_eq_true rfl), (Nat.le_of_ble_eq_true rfl)⟩ (Nat.le_of_ble_eq_true rfl) (Nat.le_of_ble_eq_true rfl) (fun x A hP => ?_)
    obtain ⟨h4, h5⟩ := hP
    subst h4
    have hC := hC.upd 0 rfl h5
    have hS := hS.upd h5 (by simp)
    refine bw_iret dX10_value_18 rfl (Nat.le_of_ble_eq_true rfl) (Nat.le_of_ble_eq_true rfl) ?_
    exact ⟨_, rfl, rfl, hS, hC.at 0 rfl⟩
/-- a polynomial is kept, arrays L were worked in -/
def mKP (g : bw_G) (M : Nat) (W : List Nat) (e : va_E) (v : Int32) (dd C : Nat → Nat) (A0 : bw_H) (y : Int32) (A' : bw_H) : Prop := y = v ∧ bw_sm (M :: (W ++ mpl M)) A0 A' ∧ A'.2 M = some e ∧ bw_has A' (mpc g M dd C) ∧ ∀ X ∈ W, mzz g A' X
/-- the first k sums -/
def gxk (f h : Nat → Nat) (k i : Nat) : Nat := if i < k then f i ^^^ h i else f i
theorem gxk_s {f h : Nat → Nat} {k : Nat} : (fun i => if i = k then f k ^^^ h k else gxk f h k i) = gxk f h (k + 1) := by
  funext i
  unfold gxk
  by_cases e : i = k
  · rw [if_pos e, if_pos (by omega), e]
  · rw [if_neg e]
    by_cases h2 : i < k
    · rw [if_pos h2, if_pos (by omega)]
    · rw [if_neg h2, if_neg (by omega)]
theorem gxk_at {f h : Nat → Nat} {k : Nat} : gxk f h k k = f k := if_neg (by omega)
theorem gxk_gps {n p gg : Nat} (hG : GFg n p gg) {f h : Nat → Nat} (hf : pok n 65 f) (hh : pok n 65 h) : gxk f h 65 = gps n (2 ^ n ||| p) f h 1 := by
  funext i
  unfold gxk gps
  rw [gm_1 (hh.2 i)]
  split
  · rfl
  · rw [hh.1 i (by omega), Nat.xor_zero]
set_option maxHeartbeats 4000000 in
theorem m_plus_loop (g : bw_G) {A0 : bw_H} {M n p gg rn mn pn rd rs pt sn : Nat} {dd C f h : Nat → Nat} (hG : GFg n p gg) (hf : pok n 65 f) (hh : pok n 65 h) (hp : pn < 40) :
    ∀ (d k : Nat), k + d = 65 → ∀ A : bw_H, bw_has A ((M, mdo M n p gg 0 rn mn pn rd rs pt sn) :: (mpc g M dd C ++ [(M + 10, bw_an g 200 (gxk f h k)), (M + 11, bw_an g 200 h)])) → bw_sm (M :: ([M + 10, M + 11] ++ mpl M)) A0 A →
      bw_W g (bw_rm 8 0 0) mX10_plus (bw_pm (mKP g M [M + 10, M + 11] (mdo M n p gg 0 rn mn (pn + 1) rd rs pt sn) (nI pn) (fun i => if i = pn then pd (gps n (2 ^ n ||| p) f h 1) else dd i) (gck (gps n (2 ^ n ||| p) f h 1) C pn 65) A0)) 0 0 62 [(0, .ref M), (3, .int (nI k))] [] A := by
  intro d
  induction d with
  | zero =>
    intro k hk A hC hS
    have hk : k = 65 := by omega
    subst hk
    refine bw_iload_n 63 dX10_plus_62 rfl rfl ?_
    refine bw_bipush (65) 65 dX10_plus_63 (by decide) rfl ?_
    refine bw_eqi (y := nI 65) rfl ?_
    refine bw_icmp_ge 89 68 dX10_plus_65 rfl rfl (fun c65 => ?_) (fun c65 => ?_)
    · refine bw_aload_n 90 dX10_plus_89 rfl rfl ?_
      refine bw_aload_n 91 dX10_plus_90 rfl rfl ?_
      refine bw_get 94 dX10_plus_91 rfl lX10_42 (hC.at 0 rfl) rfl ?_
      refine bw_cVm 97 dX10_plus_94 rfl vX10_169 (m_kept g (hC.sub [0, 1, 2, 3] (by decide) rfl) (fun i => by rw [gxk_gps hG hf hh]; have := (gps_ok hG.2.2.1 hf hh hG.2.2.1.one).2 i; have := hG.p16; omega) hp) (hC.at 0 rfl) rfl rfl (Nat.le_of_ble_eq_true rfl) ⟨(Nat.le_of_ble_eq_true rfl), (Nat.le_of_ble_eq_true rfl)⟩ (Nat.le_of_ble_eq_true rfl) (Nat.le_of_ble_eq_true rfl) (fun x A hP => ?_)
      obtain ⟨⟨h4, h5, h6⟩, h7⟩ := hP
      subst h4
      have hW := (hC.sub [3, 4] (by decide) rfl).frm h5 (by simp <;> omega)
      have hS := hS.trans h5 (by simp <;> omega)
      refine bw_iret dX10_plus_97 rfl (Nat.le_of_ble_eq_true rfl) (Nat.le_of_ble_eq_true rfl) ?_
      refine ⟨_, rfl, rfl, hS, h6, by rw [← gxk_gps hG hf hh]; exact h7, ?_⟩
      intro X hX
      rcases List.mem_cons.mp hX with e | hX
      · rw [e]; exact ⟨_, fun i hi => by rw [gxk_gps hG hf hh]; exact (gps_ok hG.2.2.1 hf hh hG.2.2.1.one).1 i (by omega), hW.at 0 rfl⟩
      · rw [List.mem_singleton.mp hX]; exact ⟨_, fun i hi => hh.1 i (by omega), hW.at 1 rfl⟩
    · exact absurd (Int32.le_refl _) c65
  | succ d ih =>
    intro k hk A hC hS
    refine bw_iload_n 63 dX10_plus_62 rfl rfl ?_
    refine bw_bipush (65) 65 dX10_plus_63 (by decide) rfl ?_
    refine bw_eqi (y := nI 65) rfl ?_
    refine bw_icmp_ge 89 68 dX10_plus_65 rfl rfl (fun c65 => ?_) (fun c65 => ?_)
    · exact absurd c65 (nI_ge (b := 65) (by omega) (by omega))
    · skip
      refine bw_aload_n 69 dX10_plus_68 rfl rfl ?_
      refine bw_get 72 dX10_plus_69 rfl lX10_42 (hC.at 0 rfl) rfl ?_
      refine bw_iload_n 73 dX10_plus_72 rfl rfl ?_
      refine bw_dup2 74 dX10_plus_73 rfl rfl rfl ?_
      refine bw_ialdN 75 dX10_plus_74 rfl (hC.at 3 rfl) (by omega) (by omega) ?_
      refine bw_eqi (congrArg nI gxk_at) ?_
      refine bw_aload_n 76 dX10_plus_75 rfl rfl ?_
      refine bw_get 79 dX10_plus_76 rfl lX10_45 (hC.at 0 rfl) rfl ?_
      refine bw_iload_n 80 dX10_plus_79 rfl rfl ?_
      refine bw_ialdN 81 dX10_plus_80 rfl (hC.at 4 rfl) (by omega) (by omega) ?_
      refine bw_ixor 82 dX10_plus_81 rfl ?_
      refine bw_eqi (xn_xor (f k) (h k)) ?_
      refine bw_iastN 83 dX10_plus_82 rfl (hC.at 3 rfl) (by omega) (by omega) (G := gxk f h (k + 1)) (gxk_s) (fun A hU => ?_)
      have hC := hC.upd 3 rfl hU
      have hS := hS.upd hU (by simp)
      clear hU
      refine bw_iincN (1) 86 dX10_plus_83 rfl rfl (by decide) (by decide) ?_
      refine bw_goto 62 dX10_plus_86 rfl ?_
      refine bw_loc _ ?_ (ih (k + 1) (by omega) A hC hS)
      exact ⟨rfl, congrArg (fun x => some (Value.int x)) (nI_1 ( k )), trivial⟩
set_option maxHeartbeats 4000000 in
theorem m_plus (g : bw_G) {A : bw_H} {M n p gg th rn mn pn rd rs pt sn a b : Nat} {dd C f1 f2 : Nat → Nat} (hG : GFg n p gg) (hC : bw_has A ((M, mdo M n p gg th rn mn pn rd rs pt sn) :: (mpc g M dd C ++ [(M + 10, bw_an g 200 f1), (M + 11, bw_an g 200 f2)]))) (hCl : ∀ i, C i < 2 ^ n) (hz1 : ∀ i, 200 ≤ i → f1 i = 0) (hz2 : ∀ i, 200 ≤ i → f2 i = 0) (hp : pn < 40) (ha : a < pn) (hb : b < pn) : bw_C g (bw_rm 8 0 0) mX10_plus [.ref M, .int (nI a), .int (nI b)] A (bw_pm (mKP g M [M + 10, M + 11] (mdo M n p gg 0 rn mn (pn + 1) rd rs pt sn) (nI pn) (fun i => if i = pn then pd (gps n (2 ^ n ||| p) (gcf C a) (gcf C b) 1) else dd i) (gck (gps n (2 ^ n ||| p) (gcf C a) (gcf C b) 1) C pn 65) A)) := by
  have hS : bw_sm (M :: ([M + 10, M + 11] ++ mpl M)) A A := bw_sm.rf
  refine bw_C.of (by decide) (Nat.le_of_ble_eq_true rfl) rfl ?_
  refine bw_aload_n 1 dX10_plus_0 rfl rfl ?_
  refine bw_iconst (0) 2 dX10_plus_1 (by decide) rfl ?_
  refine bw_eqi (y := nI 0) rfl ?_
  refine bw_putU 5 dX10_plus_2 rfl pX10_1 (hC.at 0 rfl) rfl rfl (Nat.le_of_ble_eq_true rfl) (fun A hU => ?_)
  have hC := hC.upd 0 rfl hU
  have hS := hS.upd hU (by simp)
  clear hU
  refine bw_aload_n 6 dX10_plus_5 rfl rfl ?_
  refine bw_iload_n 7 dX10_plus_6 rfl rfl ?_
  refine bw_cVi 10 dX10_plus_7 rfl vX10_182 (m_isPolynomial g (hC.sub [0] (by decide) rfl) (kI_nI (by omega) ha)) (hC.at 0 rfl) rfl rfl (Nat.le_of_ble_eq_true rfl) ⟨(Nat.le_of_ble_eq_true rfl), (Nat.le_of_ble_eq_true rfl)⟩ (Nat.le_of_ble_eq_true rfl) (Nat.le_of_ble_eq_true rfl) ?_
  refine bw_if_eq 21 13 dX10_plus_10 rfl rfl (fun c10 => ?_) (fun c10 => ?_)
  · exact absurd c10 (by decide)
  · refine bw_aload_n 14 dX10_plus_13 rfl rfl ?_
    refine bw_iload_n 15 dX10_plus_14 rfl rfl ?_
    refine bw_cVi 18 dX10_plus_15 rfl vX10_182 (m_isPolynomial g (hC.sub [0] (by decide) rfl) (kI_nI (by omega) hb)) (hC.at 0 rfl) rfl rfl (Nat.le_of_ble_eq_true rfl) ⟨(Nat.le_of_ble_eq_true rfl), (Nat.le_of_ble_eq_true rfl)⟩ (Nat.le_of_ble_eq_true rfl) (Nat.le_of_ble_eq_true rfl) ?_
    refine bw_if_ne 27 21 dX10_plus_18 rfl rfl (fun c18 => ?_) (fun c18 => ?_)
    · refine bw_aload_n 28 dX10_plus_27 rfl rfl ?_
      refine bw_get 31 dX10_plus_28 rfl lX10_158 (hC.at 0 rfl) rfl ?_
      refine bw_bipush (40) 33 dX10_plus_31 (by decide) rfl ?_
      refine bw_eqi (y := nI 40) rfl ?_
      refine bw_icmp_ne 42 36 dX10_plus_33 rfl rfl (fun c33 => ?_) (fun c33 => ?_)
      · refine bw_aload_n 43 dX10_plus_42 rfl rfl ?_
        refine bw_aload_n 44 dX10_plus_43 rfl rfl ?_
        refine bw_get 47 dX10_plus_44 rfl lX10_42 (hC.at 0 rfl) rfl ?_
        refine bw_iload_n 48 dX10_plus_47 rfl rfl ?_
        refine bw_cVv 51 dX10_plus_48 rfl vX10_185 (m_load g (hC.sub [3, 0, 2] (by decide) rfl) hz1 (by omega)) (hC.at 0 rfl) rfl rfl (Nat.le_of_ble_eq_true rfl) ⟨(Nat.le_of_ble_eq_true rfl), (Nat.le_of_ble_eq_true rfl)⟩ (Nat.le_of_ble_eq_true rfl) (Nat.le_of_ble_eq_true rfl) (fun A hP => ?_)
        obtain ⟨hs1, hs2⟩ := hP
        have hU := sm_up hs1 hs2
        have hC := hC.upd 3 rfl hU
        have hS := hS.upd hU (by simp)
        clear hU
        refine bw_aload_n 52 dX10_plus_51 rfl rfl ?_
        refine bw_aload_n 53 dX10_plus_52 rfl rfl ?_
        refine bw_get 56 dX10_plus_53 rfl lX10_45 (hC.at 0 rfl) rfl ?_
        refine bw_iload_n 57 dX10_plus_56 rfl rfl ?_
        refine bw_cVv 60 dX10_plus_57 rfl vX10_185 (m_load g (hC.sub [4, 0, 2] (by decide) rfl) hz2 (by omega)) (hC.at 0 rfl) rfl rfl (Nat.le_of_ble_eq_true rfl) ⟨(Nat.le_of_ble_eq_true rfl), (Nat.le_of_ble_eq_true rfl)⟩ (Nat.le_of_ble_eq_true rfl) (Nat.le_of_ble_eq_true rfl) (fun A hP => ?_)
        obtain ⟨hs1, hs2⟩ := hP
        have hU := sm_up hs1 hs2
        have hC := hC.upd 4 rfl hU
        have hS := hS.upd hU (by simp)
        clear hU
        refine bw_iconst (0) 61 dX10_plus_60 (by decide) rfl ?_
        refine bw_eqi (y := nI 0) rfl ?_
        refine bw_istore_n 62 dX10_plus_61 rfl (by decide) ?_
        refine bw_loc _ ?_ (m_plus_loop g hG (gcf_ok hCl a) (gcf_ok hCl b) hp 65 0 (by omega) A (by rw [show gxk (gcf C a) (gcf C b) 0 = gcf C a from funext (fun i => if_neg (by omega))]; exact hC) hS)
        exact ⟨rfl, rfl, trivial⟩
      · exact absurd ((nI_eq (b := 40) (by omega) (by omega)).mp c33) (by omega)
    · exact absurd c18 (by decide)
theorem m_plusY (g : bw_G) {A : bw_H} {M n p gg th rn mn rd rs pt sn a b : Nat} (hC : bw_has A [(M, mdo M n p gg th rn mn 40 rd rs pt sn)]) (ha : a < 40) (hb : b < 40) : bw_C g (bw_rm 8 0 0) mX10_plus [.ref M, .int (nI a), .int (nI b)] A (bw_pm (maR M [] (mdo M n p gg 2 rn mn 40 rd rs pt sn) (nI 0) A)) := by
  have hS : bw_sm [M] A A := bw_sm.rf
  refine bw_C.of (by decide) (Nat.le_of_ble_eq_true rfl) rfl ?_
  refine bw_aload_n 1 dX10_plus_0 rfl rfl ?_
  refine bw_iconst (0) 2 dX10_plus_1 (by decide) rfl ?_
  refine bw_eqi (y := nI 0) rfl ?_
  refine bw_putU 5 dX10_plus_2 rfl pX10_1 (hC.at 0 rfl) rfl rfl (Nat.le_of_ble_eq_true rfl) (fun A hU => ?_)
  have hC := hC.upd 0 rfl hU
  have hS := hS.upd hU (by simp)
  clear hU
  refine bw_aload_n 6 dX10_plus_5 rfl rfl ?_
  refine bw_iload_n 7 dX10_plus_6 rfl rfl ?_
  refine bw_cVi 10 dX10_plus_7 rfl vX10_182 (m_isPolynomial g hC (kI_nI (by omega) ha)) (hC.at 0 rfl) rfl rfl (Nat.le_of_ble_eq_true rfl) ⟨(Nat.le_of_ble_eq_true rfl), (Nat.le_of_ble_eq_true rfl)⟩ (Nat.le_of_ble_eq_true rfl) (Nat.le_of_ble_eq_true rfl) ?_
  refine bw_if_eq 21 13 dX10_plus_10 rfl rfl (fun c10 => ?_) (fun c10 => ?_)
  · exact absurd c10 (by decide)
  · refine bw_aload_n 14 dX10_plus_13 rfl rfl ?_
    refine bw_iload_n 15 dX10_plus_14 rfl rfl ?_
    refine bw_cVi 18 dX10_plus_15 rfl vX10_182 (m_isPolynomial g hC (kI_nI (by omega) hb)) (hC.at 0 rfl) rfl rfl (Nat.le_of_ble_eq_true rfl) ⟨(Nat.le_of_ble_eq_true rfl), (Nat.le_of_ble_eq_true rfl)⟩ (Nat.le_of_ble_eq_true rfl) (Nat.le_of_ble_eq_true rfl) ?_
    refine bw_if_ne 27 21 dX10_plus_18 rfl rfl (fun c18 => ?_) (fun c18 => ?_)
    · refine bw_aload_n 28 dX10_plus_27 rfl rfl ?_
      refine bw_get 31 dX10_plus_28 rfl lX10_158 (hC.at 0 rfl) rfl ?_
      refine bw_bipush (40) 33 dX10_plus_31 (by decide) rfl ?_
      refine bw_eqi (y := nI 40) rfl ?_
      refine bw_icmp_ne 42 36 dX10_plus_33 rfl rfl (fun c33 => ?_) (fun c33 => ?_)
      · exact absurd rfl c33
      · refine bw_aload_n 37 dX10_plus_36 rfl rfl ?_
        refine bw_iconst (2) 38 dX10_plus_37 (by decide) rfl ?_
        refine bw_eqi (y := nI 2) rfl ?_
        refine bw_cVm 41 dX10_plus_38 rfl vX10_118 (m_fail g hC) (hC.at 0 rfl) rfl rfl (Nat.le_of_ble_eq_true rfl) ⟨(Nat.le_of_ble_eq_true rfl), (Nat.le_of_ble_eq_true rfl)⟩ (Nat.le_of_ble_eq_true rfl) (Nat.le_of_ble_eq_true rfl) (fun x A hP => ?_)
        obtain ⟨h4, h5⟩ := hP
        subst h4
        have hC := hC.upd 0 rfl h5
        have hS := hS.upd h5 (by simp)
        refine bw_iret dX10_plus_41 rfl (Nat.le_of_ble_eq_true rfl) (Nat.le_of_ble_eq_true rfl) ?_
        exact ⟨_, rfl, rfl, hS, hC.at 0 rfl⟩
    · exact absurd c18 (by decide)
theorem m_plusX (g : bw_G) {A : bw_H} {M n p gg th rn mn pn rd rs pt sn : Nat} {a b : Int32} (hC : bw_has A [(M, mdo M n p gg th rn mn pn rd rs pt sn)]) (h : ¬ (kI pn a ∧ kI pn b)) : bw_C g (bw_rm 8 0 0) mX10_plus [.ref M, .int a, .int b] A (bw_pm (maR M [] (mdo M n p gg 1 rn mn pn rd rs pt sn) (nI 0) A)) := by
  have hS : bw_sm [M] A A := bw_sm.rf
  refine bw_C.of (by decide) (Nat.le_of_ble_eq_true rfl) rfl ?_
  by_cases ha : kI pn a
  · skip
    refine bw_aload_n 1 dX10_plus_0 rfl rfl ?_
    refine bw_iconst (0) 2 dX10_plus_1 (by decide) rfl ?_
    refine bw_eqi (y := nI 0) rfl ?_
    refine bw_putU 5 dX10_plus_2 rfl pX10_1 (hC.at 0 rfl) rfl rfl (Nat.le_of_ble_eq_true rfl) (fun A hU => ?_)
    have hC := hC.upd 0 rfl hU
    have hS := hS.upd hU (by simp)
    clear hU
    refine bw_aload_n 6 dX10_plus_5 rfl rfl ?_
    refine bw_iload_n 7 dX10_plus_6 rfl rfl ?_
    refine bw_cVi 10 dX10_plus_7 rfl vX10_182 (m_isPolynomial g hC ha) (hC.at 0 rfl) rfl rfl (Nat.le_of_ble_eq_true rfl) ⟨(Nat.le_of_ble_eq_true rfl), (Nat.le_of_ble_eq_true rfl)⟩ (Nat.le_of_ble_eq_true rfl) (Nat.le_of_ble_eq_true rfl) ?_
    refine bw_if_eq 21 13 dX10_plus_10 rfl rfl (fun c10 => ?_) (fun c10 => ?_)
    · exact absurd c10 (by decide)
    · refine bw_aload_n 14 dX10_plus_13 rfl rfl ?_
      refine bw_iload_n 15 dX10_plus_14 rfl rfl ?_
      refine bw_cVi 18 dX10_plus_15 rfl vX10_182 (m_isPolynomialX g hC (fun hb => h ⟨ha, hb⟩)) (hC.at 0 rfl) rfl rfl (Nat.le_of_ble_eq_true rfl) ⟨(Nat.le_of_ble_eq_true rfl), (Nat.le_of_ble_eq_true rfl)⟩ (Nat.le_of_ble_eq_true rfl) (Nat.le_of_ble_eq_true rfl) ?_
      refine bw_if_ne 27 21 dX10_plus_18 rfl rfl (fun c18 => ?_) (fun c18 => ?_)
      · exact absurd rfl c18
      · refine bw_aload_n 22 dX10_plus_21 rfl rfl ?_
        refine bw_iconst (1) 23 dX10_plus_22 (by decide) rfl ?_
        refine bw_eqi (y := nI 1) rfl ?_
        refine bw_cVm 26 dX10_plus_23 rfl vX10_118 (m_fail g hC) (hC.at 0 rfl) rfl rfl (Nat.le_of_ble_eq_true rfl) ⟨(Nat.le_of_ble_eq_true rfl), (Nat.le_of_ble_eq_true rfl)⟩ (Nat.le_of_ble_eq_true rfl) (Nat.le_of_ble_eq_true rfl) (fun x A hP => ?_)
        obtain ⟨h4, h5⟩ := hP
        subst h4
        have hC := hC.upd 0 rfl h5
        have hS := hS.upd h5 (by simp)
        refine bw_iret dX10_plus_26 rfl (Nat.le_of_ble_eq_true rfl) (Nat.le_of_ble_eq_true rfl) ?_
        exact ⟨_, rfl, rfl, hS, hC.at 0 rfl⟩
  · skip
    refine bw_aload_n 1 dX10_plus_0 rfl rfl ?_
    refine bw_iconst (0) 2 dX10_plus_1 (by decide) rfl ?_
    refine bw_eqi (y := nI 0) rfl ?_
    refine bw_putU 5 dX10_plus_2 rfl pX10_1 (hC.at 0 rfl) rfl rfl (Nat.le_of_ble_eq_true rfl) (fun A hU => ?_)
    have hC := hC.upd 0 rfl hU
    have hS := hS.upd hU (by simp)
    clear hU
    refine bw_aload_n 6 dX10_plus_5 rfl rfl ?_
    refine bw_iload_n 7 dX10_plus_6 rfl rfl ?_
    refine bw_cVi 10 dX10_plus_7 rfl vX10_182 (m_isPolynomialX g hC ha) (hC.at 0 rfl) rfl rfl (Nat.le_of_ble_eq_true rfl) ⟨(Nat.le_of_ble_eq_true rfl), (Nat.le_of_ble_eq_true rfl)⟩ (Nat.le_of_ble_eq_true rfl) (Nat.le_of_ble_eq_true rfl) ?_
    refine bw_if_eq 21 13 dX10_plus_10 rfl rfl (fun c10 => ?_) (fun c10 => ?_)
    · skip
      refine bw_aload_n 22 dX10_plus_21 rfl rfl ?_
      refine bw_iconst (1) 23 dX10_plus_22 (by decide) rfl ?_
      refine bw_eqi (y := nI 1) rfl ?_
      refine bw_cVm 26 dX10_plus_23 rfl vX10_118 (m_fail g hC) (hC.at 0 rfl) rfl rfl (Nat.le_of_ble_eq_true rfl) ⟨(Nat.le_of_ble_eq_true rfl), (Nat.le_of_ble_eq_true rfl)⟩ (Nat.le_of_ble_eq_true rfl) (Nat.le_of_ble_eq_true rfl) (fun x A hP => ?_)
      obtain ⟨h4, h5⟩ := hP
      subst h4
      have hC := hC.upd 0 rfl h5
      have hS := hS.upd h5 (by simp)
      refine bw_iret dX10_plus_26 rfl (Nat.le_of_ble_eq_true rfl) (Nat.le_of_ble_eq_true rfl) ?_
      exact ⟨_, rfl, rfl, hS, hC.at 0 rfl⟩
    · exact absurd rfl c10
