/-! the reference: polynomials, one by one -/
def tO (m : Nat) : Option Nat := if m = 0 then none else some (m - 1)
theorem tO_I (m : Nat) : tI m = oI (tO m) := by
  unfold tO
  by_cases h : m = 0
  · rw [if_pos h, h]
    exact tI_0
  · rw [if_neg h]
    exact tI_p h
/-- degrees and coefficients -/
abbrev mpc (g : bw_G) (M : Nat) (dd C : Nat → Nat) : List (Nat × va_E) := [(M + 8, bw_ao g 40 (fun i => tO (dd i))), (M + 9, bw_an g 2600 C)]
abbrev mpl (M : Nat) : List Nat := [M + 8, M + 9]
/-- the coefficients, the first k of polynomial p told anew -/
def gck (f C : Nat → Nat) (p k t : Nat) : Nat := if 65 * p ≤ t ∧ t < 65 * p + k then f (t - 65 * p) else C t
theorem gck_s {f C : Nat → Nat} {p k : Nat} : (fun t => if t = 65 * p + k then f k else gck f C p k t) = gck f C p (k + 1) := by
  funext t
  unfold gck
  by_cases h : t = 65 * p + k
  · rw [if_pos h, if_pos (by omega), h, show 65 * p + k - 65 * p = k by omega]
  · rw [if_neg h]
    by_cases h2 : 65 * p ≤ t ∧ t < 65 * p + k
    · rw [if_pos h2, if_pos (by omega)]
    · rw [if_neg h2, if_neg (by omega)]
theorem gck_0 {f C : Nat → Nat} {p : Nat} : gck f C p 0 = C := by
  funext t
  unfold gck
  rw [if_neg (by omega)]
def mkR (g : bw_G) (M : Nat) (L : List Nat) (e : va_E) (v : Int32) (dd C : Nat → Nat) (A0 : bw_H) (y : Int32) (A' : bw_H) : Prop := maR M L e v A0 y A' ∧ bw_has A' (mpc g M dd C)
set_option maxHeartbeats 4000000 in
theorem m_kept_loop (g : bw_G) {A0 : bw_H} {M n p gg th rn mn pn rd rs pt sn X : Nat} {dd C f : Nat → Nat} (hp : pn < 40) :
    ∀ (d k : Nat), k + d = 65 → ∀ A : bw_H, bw_has A ((M, mdo M n p gg th rn mn pn rd rs pt sn) :: (mpc g M dd (gck f C pn k) ++ [(X, bw_an g 200 f)])) → bw_sm (M :: mpl M) A0 A →
      bw_W g (bw_rm 1 0 0) mX10_kept (bw_pm (mkR g M (mpl M) (mdo M n p gg th rn mn (pn + 1) rd rs pt sn) (nI pn) dd (gck f C pn 65) A0)) 0 0 15 [(0, .ref M), (1, .ref X), (2, .int (nI k))] [] A := by
  intro d
  induction d with
  | zero =>
    intro k hk A hC hS
    have hk : k = 65 := by omega
    subst hk
    refine bw_iload_n 16 dX10_kept_15 rfl rfl ?_
    refine bw_bipush (65) 18 dX10_kept_16 (by decide) rfl ?_
    refine bw_eqi (y := nI 65) rfl ?_
    refine bw_icmp_ge 44 21 dX10_kept_18 rfl rfl (fun c18 => ?_) (fun c18 => ?_)
    · refine bw_aload_n 45 dX10_kept_44 rfl rfl ?_
      refine bw_dup 46 dX10_kept_45 rfl rfl ?_
      refine bw_get 49 dX10_kept_46 rfl lX10_158 (hC.at 0 rfl) rfl ?_
      refine bw_iconst (1) 50 dX10_kept_49 (by decide) rfl ?_
      refine bw_iadd 51 dX10_kept_50 rfl ?_
      refine bw_eqi (show nI pn + 1 = nI (pn + 1) from nI_1 pn) ?_
      refine bw_putU 54 dX10_kept_51 rfl pX10_158 (hC.at 0 rfl) rfl rfl (Nat.le_of_ble_eq_true rfl) (fun A hU => ?_)
      have hC := hC.upd 0 rfl hU
      have hS := hS.upd hU (by simp)
      clear hU
      refine bw_aload_n 55 dX10_kept_54 rfl rfl ?_
      refine bw_get 58 dX10_kept_55 rfl lX10_158 (hC.at 0 rfl) rfl ?_
      refine bw_iconst (1) 59 dX10_kept_58 (by decide) rfl ?_
      refine bw_isub 60 dX10_kept_59 rfl ?_
      refine bw_eqi (show nI (pn + 1) - 1 = nI pn by rw [tI_sub, tI_s]) ?_
      refine bw_iret dX10_kept_60 rfl (Nat.le_of_ble_eq_true rfl) (Nat.le_of_ble_eq_true rfl) ?_
      exact ⟨_, rfl, ⟨rfl, hS, hC.at 0 rfl⟩, hC.sub [1, 2] (by decide) rfl⟩
    · exact absurd (Int32.le_refl _) c18
  | succ d ih =>
    intro k hk A hC hS
    refine bw_iload_n 16 dX10_kept_15 rfl rfl ?_
    refine bw_bipush (65) 18 dX10_kept_16 (by decide) rfl ?_
    refine bw_eqi (y := nI 65) rfl ?_
    refine bw_icmp_ge 44 21 dX10_kept_18 rfl rfl (fun c18 => ?_) (fun c18 => ?_)
    · exact absurd c18 (nI_ge (b := 65) (by omega) (by omega))
    · skip
      refine bw_aload_n 22 dX10_kept_21 rfl rfl ?_
      refine bw_get 25 dX10_kept_22 rfl lX10_39 (hC.at 0 rfl) rfl ?_
      refine bw_bipush (65) 27 dX10_kept_25 (by decide) rfl ?_
      refine bw_eqi (y := nI 65) rfl ?_
      refine bw_aload_n 28 dX10_kept_27 rfl rfl ?_
      refine bw_get 31 dX10_kept_28 rfl lX10_158 (hC.at 0 rfl) rfl ?_
      refine bw_imul 32 dX10_kept_31 rfl ?_
      refine bw_eqi (pk_mul 65 pn) ?_
      refine bw_iload_n 33 dX10_kept_32 rfl rfl ?_
      refine bw_iadd 34 dX10_kept_33 rfl ?_
      refine bw_eqi (nI_add (65 * pn) k) ?_
      refine bw_aload_n 35 dX10_kept_34 rfl rfl ?_
      refine bw_iload_n 36 dX10_kept_35 rfl rfl ?_
      refine bw_ialdN 37 dX10_kept_36 rfl (hC.at 3 rfl) (by omega) (by omega) ?_
      refine bw_iastN 38 dX10_kept_37 rfl (hC.at 2 rfl) (by omega) (by omega) (G := gck f C pn (k + 1)) (gck_s) (fun A hU => ?_)
      have hC := hC.upd 2 rfl hU
      have hS := hS.upd hU (by simp)
      clear hU
      refine bw_iincN (1) 41 dX10_kept_38 rfl rfl (by decide) (by decide) ?_
      refine bw_goto 15 dX10_kept_41 rfl ?_
      refine bw_loc _ ?_ (ih (k + 1) (by omega) A hC hS)
      exact ⟨rfl, rfl, congrArg (fun x => some (Value.int x)) (nI_1 ( k )), trivial⟩
set_option maxHeartbeats 4000000 in
theorem m_kept (g : bw_G) {A : bw_H} {M n p gg th rn mn pn rd rs pt sn X : Nat} {dd C f : Nat → Nat} (hC : bw_has A ((M, mdo M n p gg th rn mn pn rd rs pt sn) :: (mpc g M dd C ++ [(X, bw_an g 200 f)]))) (hf : ∀ i, f i < 2 ^ 31) (hp : pn < 40) : bw_C g (bw_rm 1 0 0) mX10_kept [.ref M, .ref X] A (bw_pm (mkR g M (mpl M) (mdo M n p gg th rn mn (pn + 1) rd rs pt sn) (nI pn) (fun i => if i = pn then pd f else dd i) (gck f C pn 65) A)) := by
  have hS : bw_sm (M :: mpl M) A A := bw_sm.rf
  refine bw_C.of (by decide) (Nat.le_of_ble_eq_true rfl) rfl ?_
  refine bw_aload_n 1 dX10_kept_0 rfl rfl ?_
  refine bw_get 4 dX10_kept_1 rfl lX10_36 (hC.at 0 rfl) rfl ?_
  refine bw_aload_n 5 dX10_kept_4 rfl rfl ?_
  refine bw_get 8 dX10_kept_5 rfl lX10_158 (hC.at 0 rfl) rfl ?_
  refine bw_aload_n 9 dX10_kept_8 rfl rfl ?_
  refine bw_cSi 12 dX10_kept_9 rfl sX10_165 (m_high g (hC.sub [3] (by decide) rfl) hf) rfl rfl (Nat.le_of_ble_eq_true rfl) ⟨(Nat.le_of_ble_eq_true rfl), (Nat.le_of_ble_eq_true rfl)⟩ (Nat.le_of_ble_eq_true rfl) (Nat.le_of_ble_eq_true rfl) ?_
  refine bw_eqi (tO_I (pd f)) ?_
  refine bw_iastO 13 dX10_kept_12 rfl (hC.at 1 rfl) (by omega) (by omega) (G := fun i => tO (if i = pn then pd f else dd i)) (funext (fun i => by by_cases h : i = pn <;> simp [h])) (fun A hU => ?_)
  have hC := hC.upd 1 rfl hU
  have hS := hS.upd hU (by simp)
  clear hU
  refine bw_iconst (0) 14 dX10_kept_13 (by decide) rfl ?_
  refine bw_eqi (y := nI 0) rfl ?_
  refine bw_istore_n 15 dX10_kept_14 rfl (by decide) ?_
  refine bw_loc _ ?_ (m_kept_loop g hp 65 0 (by omega) A (by rw [gck_0]; exact hC) hS)
  exact ⟨rfl, rfl, rfl, trivial⟩
theorem m_atX_loop (g : bw_G) {A : bw_H} {M n p gg th rn mn pn rd rs pt sn X v : Nat} {f : Nat → Nat} (hG : GFg n p gg) (hC : bw_has A [(M, mdo M n p gg th rn mn pn rd rs pt sn), (X, bw_an g 200 f)]) (hf : ∀ i, f i < 2 ^ n) (hv : v < 2 ^ n) :
    ∀ (j y : Nat), j ≤ 200 → y < 2 ^ n → gho n (2 ^ n ||| p) f v j y = gvl n (2 ^ n ||| p) f v → bw_W g (bw_rm 1 0 0) mX10_at_ (bw_pi (nI (gvl n (2 ^ n ||| p) f v)) A) 0 0 8 [(0, .ref M), (1, .ref X), (2, .int (nI v)), (3, .int (nI y)), (4, .int (tI j))] [] A := by
  intro j
  induction j with
  | zero =>
    intro y _ _ he
    rw [← he]
    refine bw_iload 10 dX10_at__8 rfl rfl ?_
    refine bw_if_lt 31 13 dX10_at__10 rfl rfl (fun c10 => ?_) (fun c10 => ?_)
    · refine bw_iload_n 32 dX10_at__31 rfl rfl ?_
      refine bw_iret dX10_at__32 rfl (Nat.le_of_ble_eq_true rfl) (Nat.le_of_ble_eq_true rfl) ?_
      exact ⟨rfl, rfl⟩
    · exact absurd ((tI_lt0 (by omega)).mpr rfl) c10
  | succ j ih =>
    intro y hj hy he
    refine bw_iload 10 dX10_at__8 rfl rfl ?_
    refine bw_if_lt 31 13 dX10_at__10 rfl rfl (fun c10 => ?_) (fun c10 => ?_)
    · exact absurd ((tI_lt0 (by omega)).mp c10) (by omega)
    · skip
      refine bw_aload_n 14 dX10_at__13 rfl rfl ?_
      refine bw_iload_n 15 dX10_at__14 rfl rfl ?_
      refine bw_iload_n 16 dX10_at__15 rfl rfl ?_
      refine bw_cVi 19 dX10_at__16 rfl vX10_102 (m_mul g hG (hC.sub [0] (by decide) rfl) hy hv) (hC.at 0 rfl) rfl rfl (Nat.le_of_ble_eq_true rfl) ⟨(Nat.le_of_ble_eq_true rfl), (Nat.le_of_ble_eq_true rfl)⟩ (Nat.le_of_ble_eq_true rfl) (Nat.le_of_ble_eq_true rfl) ?_
      refine bw_aload_n 20 dX10_at__19 rfl rfl ?_
      refine bw_iload 22 dX10_at__20 rfl rfl ?_
      refine bw_eqi (tI_s j) ?_
      refine bw_ialdN 23 dX10_at__22 rfl (hC.at 1 rfl) (by omega) (by omega) ?_
      refine bw_ixor 24 dX10_at__23 rfl ?_
      refine bw_eqi (xn_xor (gm n (2 ^ n ||| p) y v) (f j)) ?_
      refine bw_istore_n 25 dX10_at__24 rfl (by decide) ?_
      refine bw_iincN (-1) 28 dX10_at__25 rfl rfl (by decide) (by decide) ?_
      refine bw_goto 8 dX10_at__28 rfl ?_
      refine bw_loc _ ?_ (ih (gm n (2 ^ n ||| p) y v ^^^ f j) (by omega) (xor_lt (hG.2.2.1.lt hy) (hf j)) he)
      exact ⟨rfl, rfl, rfl, rfl, congrArg (fun x => some (Value.int x)) (show tI (j + 1) + -1 = tI j by rw [tI_s]; rfl), trivial⟩
theorem m_atX (g : bw_G) {A : bw_H} {M n p gg th rn mn pn rd rs pt sn X v : Nat} {f : Nat → Nat} (hG : GFg n p gg) (hC : bw_has A [(M, mdo M n p gg th rn mn pn rd rs pt sn), (X, bw_an g 200 f)]) (hf : ∀ i, f i < 2 ^ n) (hv : v < 2 ^ n) : bw_C g (bw_rm 1 0 0) mX10_at_ [.ref M, .ref X, .int (nI v)] A (bw_pi (nI (gvl n (2 ^ n ||| p) f v)) A) := by
  refine bw_C.of (by decide) (Nat.le_of_ble_eq_true rfl) rfl ?_
  refine bw_iconst (0) 1 dX10_at__0 (by decide) rfl ?_
  refine bw_eqi (y := nI 0) rfl ?_
  refine bw_istore_n 2 dX10_at__1 rfl (by decide) ?_
  refine bw_aload_n 3 dX10_at__2 rfl rfl ?_
  refine bw_cSi 6 dX10_at__3 rfl sX10_165 (m_high g (hC.sub [1] (by decide) rfl) (fun i => by have := hf i; have := hG.p16; omega)) rfl rfl (Nat.le_of_ble_eq_true rfl) ⟨(Nat.le_of_ble_eq_true rfl), (Nat.le_of_ble_eq_true rfl)⟩ (Nat.le_of_ble_eq_true rfl) (Nat.le_of_ble_eq_true rfl) ?_
  refine bw_istore 8 dX10_at__6 rfl (by decide) ?_
  refine bw_loc _ ?_ (m_atX_loop g hG hC hf hv (pd f) 0 (gtp_le f 200) (Nat.two_pow_pos n) rfl)
  exact ⟨rfl, rfl, rfl, rfl, rfl, trivial⟩
theorem m_degree (g : bw_G) {A : bw_H} {M n p gg th rn mn pn rd rs pt sn k : Nat} {dd : Nat → Nat} (hC : bw_has A [(M, mdo M n p gg th rn mn pn rd rs pt sn), (M + 8, bw_ao g 40 (fun i => tO (dd i)))]) (hm : pn ≤ 40) (hk : k < pn) : bw_C g (bw_rm 8 0 0) mX10_degree [.ref M, .int (nI k)] A (bw_pm (maR M [] (mdo M n p gg 0 rn mn pn rd rs pt sn) (tI (dd k)) A)) := by
  have hS : bw_sm [M] A A := bw_sm.rf
  refine bw_C.of (by decide) (Nat.le_of_ble_eq_true rfl) rfl ?_
  refine bw_aload_n 1 dX10_degree_0 rfl rfl ?_
  refine bw_iconst (0) 2 dX10_degree_1 (by decide) rfl ?_
  refine bw_eqi (y := nI 0) rfl ?_
  refine bw_putU 5 dX10_degree_2 rfl pX10_1 (hC.at 0 rfl) rfl rfl (Nat.le_of_ble_eq_true rfl) (fun A hU => ?_)
  have hC := hC.upd 0 rfl hU
  have hS := hS.upd hU (by simp)
  clear hU
  refine bw_aload_n 6 dX10_degree_5 rfl rfl ?_
  refine bw_iload_n 7 dX10_degree_6 rfl rfl ?_
  refine bw_cVi 10 dX10_degree_7 rfl vX10_182 (m_isPolynomial g (hC.sub [0] (by decide) rfl) (kI_nI (by omega) hk)) (hC.at 0 rfl) rfl rfl (Nat.le_of_ble_eq_true rfl) ⟨(Nat.le_of_ble_eq_true rfl), (Nat.le_of_ble_eq_true rfl)⟩ (Nat.le_of_ble_eq_true rfl) (Nat.le_of_ble_eq_true rfl) ?_
  refine bw_if_eq 22 13 dX10_degree_10 rfl rfl (fun c10 => ?_) (fun c10 => ?_)
  · exact absurd c10 (by decide)
  · refine bw_aload_n 14 dX10_degree_13 rfl rfl ?_
    refine bw_get 17 dX10_degree_14 rfl lX10_36 (hC.at 0 rfl) rfl ?_
    refine bw_iload_n 18 dX10_degree_17 rfl rfl ?_
    refine bw_ialdO 19 dX10_degree_18 rfl (hC.at 1 rfl) (by omega) (by omega) ?_
    refine bw_goto 27 dX10_degree_19 rfl ?_
    refine bw_iret dX10_degree_27 rfl (Nat.le_of_ble_eq_true rfl) (Nat.le_of_ble_eq_true rfl) ?_
    exact ⟨_, rfl, (tO_I _).symm, hS, hC.at 0 rfl⟩
theorem m_degreeX (g : bw_G) {A : bw_H} {M n p gg th rn mn pn rd rs pt sn : Nat} {a : Int32} (hC : bw_has A [(M, mdo M n p gg th rn mn pn rd rs pt sn)]) (h : ¬ kI pn a) : bw_C g (bw_rm 8 0 0) mX10_degree [.ref M, .int a] A (bw_pm (maR M [] (mdo M n p gg 1 rn mn pn rd rs pt sn) (nI 0) A)) := by
  have hS : bw_sm [M] A A := bw_sm.rf
  refine bw_C.of (by decide) (Nat.le_of_ble_eq_true rfl) rfl ?_
  refine bw_aload_n 1 dX10_degree_0 rfl rfl ?_
  refine bw_iconst (0) 2 dX10_degree_1 (by decide) rfl ?_
  refine bw_eqi (y := nI 0) rfl ?_
  refine bw_putU 5 dX10_degree_2 rfl pX10_1 (hC.at 0 rfl) rfl rfl (Nat.le_of_ble_eq_true rfl) (fun A hU => ?_)
  have hC := hC.upd 0 rfl hU
  have hS := hS.upd hU (by simp)
  clear hU
  refine bw_aload_n 6 dX10_degree_5 rfl rfl ?_
  refine bw_iload_n 7 dX10_degree_6 rfl rfl ?_
  refine bw_cVi 10 dX10_degree_7 rfl vX10_182 (m_isPolynomialX g hC h) (hC.at 0 rfl) rfl rfl (Nat.le_of_ble_eq_true rfl) ⟨(Nat.le_of_ble_eq_true rfl), (Nat.le_of_ble_eq_true rfl)⟩ (Nat.le_of_ble_eq_true rfl) (Nat.le_of_ble_eq_true rfl) ?_
  refine bw_if_eq 22 13 dX10_degree_10 rfl rfl (fun c10 => ?_) (fun c10 => ?_)
  · refine bw_aload_n 23 dX10_degree_22 rfl rfl ?_
    refine bw_iconst (1) 24 dX10_degree_23 (by decide) rfl ?_
    refine bw_eqi (y := nI 1) rfl ?_
    refine bw_cVm 27 dX10_degree_24 rfl vX10_118 (m_fail g hC) (hC.at 0 rfl) rfl rfl (Nat.le_of_ble_eq_true rfl) ⟨(Nat.le_of_ble_eq_true rfl), (Nat.le_of_ble_eq_true rfl)⟩ (Nat.le_of_ble_eq_true rfl) (Nat.le_of_ble_eq_true rfl) (fun x A hP => ?_)
    obtain ⟨h4, h5⟩ := hP
    subst h4
    have hC := hC.upd 0 rfl h5
    have hS := hS.upd h5 (by simp)
    refine bw_iret dX10_degree_27 rfl (Nat.le_of_ble_eq_true rfl) (Nat.le_of_ble_eq_true rfl) ?_
    exact ⟨_, rfl, rfl, hS, hC.at 0 rfl⟩
  · exact absurd rfl c10
theorem m_coefficient (g : bw_G) {A : bw_H} {M n p gg th rn mn pn rd rs pt sn k j : Nat} {C : Nat → Nat} (hC : bw_has A [(M, mdo M n p gg th rn mn pn rd rs pt sn), (M + 9, bw_an g 2600 C)]) (hm : pn ≤ 40) (hk : k < pn) (hj : j < 2 ^ 31) : bw_C g (bw_rm 8 0 0) mX10_coefficient [.ref M, .int (nI k), .int (nI j)] A (bw_pm (maR M [] (mdo M n p gg 0 rn mn pn rd rs pt sn) (nI (gcf C k j)) A)) := by
  have hS : bw_sm [M] A A := bw_sm.rf
  refine bw_C.of (by decide) (Nat.le_of_ble_eq_true rfl) rfl ?_
  refine bw_aload_n 1 dX10_coefficient_0 rfl rfl ?_
  refine bw_iconst (0) 2 dX10_coefficient_1 (by decide) rfl ?_
  refine bw_eqi (y := nI 0) rfl ?_
  refine bw_putU 5 dX10_coefficient_2 rfl pX10_1 (hC.at 0 rfl) rfl rfl (Nat.le_of_ble_eq_true rfl) (fun A hU => ?_)
  have hC := hC.upd 0 rfl hU
  have hS := hS.upd hU (by simp)
  clear hU
  refine bw_aload_n 6 dX10_coefficient_5 rfl rfl ?_
  refine bw_iload_n 7 dX10_coefficient_6 rfl rfl ?_
  refine bw_cVi 10 dX10_coefficient_7 rfl vX10_182 (m_isPolynomial g (hC.sub [0] (by decide) rfl) (kI_nI (by omega) hk)) (hC.at 0 rfl) rfl rfl (Nat.le_of_ble_eq_true rfl) ⟨(Nat.le_of_ble_eq_true rfl), (Nat.le_of_ble_eq_true rfl)⟩ (Nat.le_of_ble_eq_true rfl) (Nat.le_of_ble_eq_true rfl) ?_
  refine bw_if_eq 17 13 dX10_coefficient_10 rfl rfl (fun c10 => ?_) (fun c10 => ?_)
  · exact absurd c10 (by decide)
  · refine bw_iload_n 14 dX10_coefficient_13 rfl rfl ?_
    refine bw_if_ge 23 17 dX10_coefficient_14 rfl rfl (fun c14 => ?_) (fun c14 => ?_)
    · refine bw_iload_n 24 dX10_coefficient_23 rfl rfl ?_
      refine bw_bipush (65) 26 dX10_coefficient_24 (by decide) rfl ?_
      refine bw_eqi (y := nI 65) rfl ?_
      refine bw_icmp_ge 43 29 dX10_coefficient_26 rfl rfl (fun c26 => ?_) (fun c26 => ?_)
      · have hge : ¬ j < 65 := Nat.not_lt.mpr ((nI_leI (a := 65) (by omega) hj).mp c26)
        refine bw_iconst (0) 44 dX10_coefficient_43 (by decide) rfl ?_
        refine bw_eqi (y := nI 0) rfl ?_
        refine bw_iret dX10_coefficient_44 rfl (Nat.le_of_ble_eq_true rfl) (Nat.le_of_ble_eq_true rfl) ?_
        exact ⟨_, rfl, by first | exact congrArg nI (if_pos hlt).symm | exact congrArg nI (if_neg hge).symm, hS, hC.at 0 rfl⟩
      · have hlt : j < 65 := Nat.not_le.mp (fun h => c26 (nI_le (a := 65) h hj))
        refine bw_aload_n 30 dX10_coefficient_29 rfl rfl ?_
        refine bw_get 33 dX10_coefficient_30 rfl lX10_39 (hC.at 0 rfl) rfl ?_
        refine bw_bipush (65) 35 dX10_coefficient_33 (by decide) rfl ?_
        refine bw_eqi (y := nI 65) rfl ?_
        refine bw_iload_n 36 dX10_coefficient_35 rfl rfl ?_
        refine bw_imul 37 dX10_coefficient_36 rfl ?_
        refine bw_eqi (pk_mul 65 k) ?_
        refine bw_iload_n 38 dX10_coefficient_37 rfl rfl ?_
        refine bw_iadd 39 dX10_coefficient_38 rfl ?_
        refine bw_eqi (nI_add (65 * k) j) ?_
        refine bw_ialdN 40 dX10_coefficient_39 rfl (hC.at 1 rfl) (by omega) (by omega) ?_
        refine bw_goto 44 dX10_coefficient_40 rfl ?_
        refine bw_iret dX10_coefficient_44 rfl (Nat.le_of_ble_eq_true rfl) (Nat.le_of_ble_eq_true rfl) ?_
        exact ⟨_, rfl, by first | exact congrArg nI (if_pos hlt).symm | exact congrArg nI (if_neg hge).symm, hS, hC.at 0 rfl⟩
    · exact absurd (Int32.not_lt.mp (nI_pos hj)) c14
theorem m_coefficientX (g : bw_G) {A : bw_H} {M n p gg th rn mn pn rd rs pt sn : Nat} {a j : Int32} (hC : bw_has A [(M, mdo M n p gg th rn mn pn rd rs pt sn)]) (h : ¬ (kI pn a ∧ ¬ j < 0)) : bw_C g (bw_rm 8 0 0) mX10_coefficient [.ref M, .int a, .int j] A (bw_pm (maR M [] (mdo M n p gg 1 rn mn pn rd rs pt sn) (nI 0) A)) := by
  have hS : bw_sm [M] A A := bw_sm.rf
  refine bw_C.of (by decide) (Nat.le_of_ble_eq_true rfl) rfl ?_
  by_cases ha : kI pn a
  · skip
    refine bw_aload_n 1 dX10_coefficient_0 rfl rfl ?_
    refine bw_iconst (0) 2 dX10_coefficient_1 (by decide) rfl ?_
    refine bw_eqi (y := nI 0) rfl ?_
    refine bw_putU 5 dX10_coefficient_2 rfl pX10_1 (hC.at 0 rfl) rfl rfl (Nat.le_of_ble_eq_true rfl) (fun A hU => ?_)
    have hC := hC.upd 0 rfl hU
    have hS := hS.upd hU (by simp)
    clear hU
    refine bw_aload_n 6 dX10_coefficient_5 rfl rfl ?_
    refine bw_iload_n 7 dX10_coefficient_6 rfl rfl ?_
    refine bw_cVi 10 dX10_coefficient_7 rfl vX10_182 (m_isPolynomial g hC ha) (hC.at 0 rfl) rfl rfl (Nat.le_of_ble_eq_true rfl) ⟨(Nat.le_of_ble_eq_true rfl), (Nat.le_of_ble_eq_true rfl)⟩ (Nat.le_of_ble_eq_true rfl) (Nat.le_of_ble_eq_true rfl) ?_
    refine bw_if_eq 17 13 dX10_coefficient_10 rfl rfl (fun c10 => ?_) (fun c10 => ?_)
    · exact absurd c10 (by decide)
    · refine bw_iload_n 14 dX10_coefficient_13 rfl rfl ?_
      refine bw_if_ge 23 17 dX10_coefficient_14 rfl rfl (fun c14 => ?_) (fun c14 => ?_)
      · exact absurd ⟨ha, Int32.not_lt.mpr c14⟩ h
      · refine bw_aload_n 18 dX10_coefficient_17 rfl rfl ?_
        refine bw_iconst (1) 19 dX10_coefficient_18 (by decide) rfl ?_
        refine bw_eqi (y := nI 1) rfl ?_
        refine bw_cVm 22 dX10_coefficient_19 rfl vX10_118 (m_fail g hC) (hC.at 0 rfl) rfl rfl (Nat.le_of_ble_eq_true rfl) ⟨(Nat.le_of_ble_eq_true rfl), (Nat.le_of_ble_eq_true rfl)⟩ (Nat.le_of_ble_eq_true rfl) (Nat.le_of_ble_eq_true rfl) (fun x A hP => ?_)
        obtain ⟨h4, h5⟩ := hP
        subst h4
        have hC := hC.upd 0 rfl h5
        have hS := hS.upd h5 (by simp)
        refine bw_iret dX10_coefficient_22 rfl (Nat.le_of_ble_eq_true rfl) (Nat.le_of_ble_eq_true rfl) ?_
        exact ⟨_, rfl, rfl, hS, hC.at 0 rfl⟩
  · skip
    refine bw_aload_n 1 dX10_coefficient_0 rfl rfl ?_
    refine bw_iconst (0) 2 dX10_coefficient_1 (by decide) rfl ?_
    refine bw_eqi (y := nI 0) rfl ?_
    refine bw_putU 5 dX10_coefficient_2 rfl pX10_1 (hC.at 0 rfl) rfl rfl (Nat.le_of_ble_eq_true rfl) (fun A hU => ?_)
    have hC := hC.upd 0 rfl hU
    have hS := hS.upd hU (by simp)
    clear hU
    refine bw_aload_n 6 dX10_coefficient_5 rfl rfl ?_
    refine bw_iload_n 7 dX10_coefficient_6 rfl rfl ?_
    refine bw_cVi 10 dX10_coefficient_7 rfl vX10_182 (m_isPolynomialX g hC ha) (hC.at 0 rfl) rfl rfl (Nat.le_of_ble_eq_true rfl) ⟨(Nat.le_of_ble_eq_true rfl), (Nat.le_of_ble_eq_true rfl)⟩ (Nat.le_of_ble_eq_true rfl) (Nat.le_of_ble_eq_true rfl) ?_
    refine bw_if_eq 17 13 dX10_coefficient_10 rfl rfl (fun c10 => ?_) (fun c10 => ?_)
    · skip
      refine bw_aload_n 18 dX10_coefficient_17 rfl rfl ?_
      refine bw_iconst (1) 19 dX10_coefficient_18 (by decide) rfl ?_
      refine bw_eqi (y := nI 1) rfl ?_
      refine bw_cVm 22 dX10_coefficient_19 rfl vX10_118 (m_fail g hC) (hC.at 0 rfl) rfl rfl (Nat.le_of_ble_eq_true rfl) ⟨(Nat.le_of_ble_eq_true rfl), (Nat.le_of_ble_eq_true rfl)⟩ (Nat.le_of_ble_eq_true rfl) (Nat.le_of_ble_eq_true rfl) (fun x A hP => ?_)
      obtain ⟨h4, h5⟩ := hP
      subst h4
      have hC := hC.upd 0 rfl h5
      have hS := hS.upd h5 (by simp)
      refine bw_iret dX10_coefficient_22 rfl (Nat.le_of_ble_eq_true rfl) (Nat.le_of_ble_eq_true rfl) ?_
      exact ⟨_, rfl, rfl, hS, hC.at 0 rfl⟩
    · exact absurd rfl c10
