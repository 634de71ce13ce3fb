/-! the class's calls: multiply -/
/-- the sum of the first k rows of a product -/
def gmu (n q : Nat) (f h : Nat → Nat) (m : Nat) : Nat → Nat → Nat
  | 0 => fun _ => 0
  | k + 1 => gam n q (gmu n q f h m k) h k 0 (f k) m
theorem gmu_lt {n q : Nat} (hG : GFp n q) {f h : Nat → Nat} {m : Nat} (hf : ∀ i, f i < 2 ^ n) : ∀ k i, gmu n q f h m k i < 2 ^ n
  | 0, _ => Nat.two_pow_pos n
  | k + 1, i => gam_lt hG (gmu_lt hG hf k) (hf k) i
theorem gmu_z {n q : Nat} {f h : Nat → Nat} {m : Nat} : ∀ k i, k + m ≤ i + 1 → gmu n q f h m k i = 0
  | 0, _, _ => rfl
  | k + 1, i, hi => by
    show gam n q (gmu n q f h m k) h k 0 (f k) m i = 0
    unfold gam
    rw [if_neg (by omega)]
    exact gmu_z k i (by omega)
theorem tI_tI {a b : Nat} (h : a + b ≠ 0) : tI a + tI b = tI (a + b - 1) := by
  have e : nI a + nI b = nI (a + b - 1) + 1 := by
    rw [nI_add]
    have : nI (a + b - 1) + nI 1 = nI (a + b - 1 + 1) := nI_add _ _
    rw [show a + b - 1 + 1 = a + b by omega] at this
    exact this.symm
  unfold tI
  grind
theorem tI_00 : tI 0 + tI 0 = -2 := by decide
theorem tI_sum {a b : Nat} (ha : a ≤ 65) (hb : b ≤ 65) : tI a + tI b ≤ 64 ↔ a + b ≤ 66 := by
  by_cases h : a + b = 0
  · rw [show a = 0 by omega, show b = 0 by omega, tI_00]
    exact ⟨fun _ => by omega, fun _ => by decide⟩
  · rw [tI_tI h]
    have := tI_le (a := a + b - 1) (b := 65) (by omega) (by omega)
    rw [show tI 65 = 64 by decide] at this
    rw [this]
    omega
theorem c7_settle2 (g : bw_G) {A : bw_H} {a m0 : Nat} {v : Value} (hC : bw_has A [(a, pob a m0 v)]) : bw_C g (bw_rm 0 0 0) mX7_settle [.ref a, .int (-2)] A (bw_pv (fun A' => A' = bw_up A a (pob a 0 v))) := by
  refine bw_C.of (by decide) (Nat.le_of_ble_eq_true rfl) rfl ?_
  refine bw_iload_n 1 dX7_settle_0 rfl rfl ?_
  refine bw_istore_n 2 dX7_settle_1 rfl (by decide) ?_
  refine bw_iload_n 3 dX7_settle_2 rfl rfl ?_
  refine bw_if_lt 21 6 dX7_settle_3 rfl rfl (fun c3 => ?_) (fun c3 => ?_)
  · refine bw_aload_n 22 dX7_settle_21 rfl rfl ?_
    refine bw_iload_n 23 dX7_settle_22 rfl rfl ?_
    refine bw_if_ge 30 26 dX7_settle_23 rfl rfl (fun c23 => ?_) (fun c23 => ?_)
    · exact absurd c23 (by decide)
    · refine bw_iconst (-1) 27 dX7_settle_26 (by decide) rfl ?_
      refine bw_goto 31 dX7_settle_27 rfl ?_
      refine bw_putU 34 dX7_settle_31 rfl pX7_9 (hC.at 0 rfl) rfl rfl (Nat.le_of_ble_eq_true rfl) (fun A hU => ?_)
      skip
      refine bw_vret dX7_settle_34 rfl (Nat.le_of_ble_eq_true rfl) (Nat.le_of_ble_eq_true rfl) ?_
      exact ⟨rfl, hU⟩
  · exact absurd (show (-2 : Int32) < 0 by decide) c3
set_option maxHeartbeats 4000000 in
set_option maxRecDepth 100000 in
theorem k9_multiply_loop (g : bw_G) {A0 : bw_H} {x n p gg rn mn pn sn a b b' cu su : Nat} {PA : Nat → Option Nat} {f f' : Nat → Nat} {w w' : Value} {Q : bw_O → bw_H → Prop} (hG : GFg n p gg) (hp : bw_has A0 (ppl g b 65 f w)) (hp' : bw_has A0 (ppl g b' 65 f' w')) (hf : pok n 65 f) (hf' : pok n 65 f') (hb : x + 34 ≤ b) (hb' : x + 34 ≤ b') (hba : b + 1 < a) (hba' : b' + 1 < a) (hcu : cu ≤ 20) (hsu : su ≤ 200)
    (kk : ∀ A : bw_H, bw_has A ((x, xob x n rn mn pn sn) :: (x + 7, bw_aq g 4 40 PA) :: (pcl g (x + 1) 129 (gmu n (2 ^ n ||| p) f f' (pd f') (pd f)) 0 .null ++ fcl g n p gg (x + 9))) → bw_ff a [x, x + 7, x + 1, x + 2] A0 A → A.1 = a → bw_W g (bw_rm 8 20 200) mX9_multiply Q cu su 103 [(0, .ref x), (3, .ref b), (4, .ref b')] [] A) :
    ∀ (d k : Nat), k + d = pd f → ∀ A : bw_H, bw_has A ((x, xob x n rn mn pn sn) :: (x + 7, bw_aq g 4 40 PA) :: (pcl g (x + 1) 129 (gmu n (2 ^ n ||| p) f f' (pd f') k) 0 .null ++ fcl g n p gg (x + 9))) → bw_ff a [x, x + 7, x + 1, x + 2] A0 A → A.1 = a →
      bw_W g (bw_rm 8 20 200) mX9_multiply Q cu su 52 [(0, .ref x), (3, .ref b), (4, .ref b'), (5, .int (nI k))] [] A := by
  have h1 := hf.le (by omega)
  have h2 := hf'.le (by omega)
  intro d
  induction d with
  | zero =>
    intro k hk A hC hW hz
    have hk : k = pd f := by omega
    refine bw_iload 54 dX9_multiply_52 rfl rfl ?_
    refine bw_aload_n 55 dX9_multiply_54 rfl rfl ?_
    refine bw_get 58 dX9_multiply_55 rfl lX9_261 (((hW.has hp (by simp <;> omega)).at 0 rfl)) rfl ?_
    refine bw_icmp_gt 103 61 dX9_multiply_58 rfl rfl (fun c58 => ?_) (fun c58 => ?_)
    · rw [hk] at hC
      exact bw_loc [(0, .ref x), (3, .ref b), (4, .ref b')] ⟨rfl, rfl, rfl, trivial⟩ (kk A hC hW hz)
    · exact absurd ((tI_ltk (by omega) (by omega)).mpr (by omega)) c58
  | succ d ih =>
    intro k hk A hC hW hz
    refine bw_iload 54 dX9_multiply_52 rfl rfl ?_
    refine bw_aload_n 55 dX9_multiply_54 rfl rfl ?_
    refine bw_get 58 dX9_multiply_55 rfl lX9_261 (((hW.has hp (by simp <;> omega)).at 0 rfl)) rfl ?_
    refine bw_icmp_gt 103 61 dX9_multiply_58 rfl rfl (fun c58 => ?_) (fun c58 => ?_)
    · exact absurd ((tI_ltk (by omega) (by omega)).mp c58) (by omega)
    · skip
      refine bw_aload_n 62 dX9_multiply_61 rfl rfl ?_
      refine bw_get 65 dX9_multiply_62 rfl lX9_43 (hC.at 0 rfl) rfl ?_
      refine bw_aload_n 66 dX9_multiply_65 rfl rfl ?_
      refine bw_get 69 dX9_multiply_66 rfl lX9_14 (hC.at 0 rfl) rfl ?_
      refine bw_get 72 dX9_multiply_69 rfl lX9_266 (hC.at 2 rfl) rfl ?_
      refine bw_iload 74 dX9_multiply_72 rfl rfl ?_
      refine bw_aload 76 dX9_multiply_74 rfl rfl ?_
      refine bw_get 79 dX9_multiply_76 rfl lX9_266 (((hW.has hp' (by simp <;> omega)).at 0 rfl)) rfl ?_
      refine bw_iconst (0) 80 dX9_multiply_79 (by decide) rfl ?_
      refine bw_eqi (y := nI 0) rfl ?_
      refine bw_aload 82 dX9_multiply_80 rfl rfl ?_
      refine bw_get 85 dX9_multiply_82 rfl lX9_261 (((hW.has hp' (by simp <;> omega)).at 0 rfl)) rfl ?_
      refine bw_iconst (1) 86 dX9_multiply_85 (by decide) rfl ?_
      refine bw_iadd 87 dX9_multiply_86 rfl ?_
      refine bw_eqi (tI_add (pd f')) ?_
      refine bw_aload_n 88 dX9_multiply_87 rfl rfl ?_
      refine bw_get 91 dX9_multiply_88 rfl lX9_266 (((hW.has hp (by simp <;> omega)).at 0 rfl)) rfl ?_
      refine bw_iload 93 dX9_multiply_91 rfl rfl ?_
      refine bw_ialdN 94 dX9_multiply_93 rfl (((hW.has hp (by simp <;> omega)).at 1 rfl)) (by omega) (by omega) ?_
      refine bw_cVv 97 dX9_multiply_94 rfl vX9_197 (c3_addMultiple g hG (bw_has.ap (ws := fcl g n p gg (x + 9) ++ [(x + 2, bw_an g 129 (gmu n (2 ^ n ||| p) f f' (pd f') k))]) (hC.sub [4, 5, 3] (by decide) rfl) ((hW.has hp' (by simp <;> omega)).sub [1] (by decide) rfl) (by simp <;> omega)) (gmu_lt hG.2.2.1 hf.2 k) hf'.2 (by omega) (by omega) (by omega) (by omega) (hf.2 k)) (hC.at 4 rfl) rfl rfl (Nat.le_of_ble_eq_true rfl) ⟨(Nat.le_of_ble_eq_true rfl), (Nat.le_of_ble_eq_true rfl)⟩ (show cu ≤ 20 by omega) (show su ≤ 200 by omega) (fun A hP => ?_)
      have hC := hC.upd 3 rfl hP
      have hW := hW.upd hP (Or.inr (by simp))
      have hz := (congrArg Prod.fst hP).trans hz
      refine bw_iincN (1) 100 dX9_multiply_97 rfl rfl (by decide) (by decide) ?_
      refine bw_goto 52 dX9_multiply_100 rfl ?_
      refine bw_loc _ ?_ (ih (k + 1) (by omega) A hC hW hz)
      exact ⟨rfl, rfl, rfl, congrArg (fun x => some (Value.int x)) (nI_1 ( k )), trivial⟩
set_option maxHeartbeats 4000000 in
set_option maxRecDepth 100000 in
theorem k9_multiply_fin (g : bw_G) {A0 A : bw_H} {x n p gg rn mn pn sn a b b' cu su : Nat} {PA : Nat → Option Nat} {f f' : Nat → Nat} {w w' : Value} (hG : GFg n p gg) (hp : bw_has A0 (ppl g b 65 f w)) (hp' : bw_has A0 (ppl g b' 65 f' w')) (hf : pok n 65 f) (hf' : pok n 65 f') (hb : x + 34 ≤ b) (hb' : x + 34 ≤ b') (hba : b + 1 < a) (hba' : b' + 1 < a) (hm : pn < 40) (h66 : pd f + pd f' ≤ 66) (hcu : cu ≤ 10) (hsu : su ≤ 100) (hC : bw_has A ((x, xob x n rn mn pn sn) :: (x + 7, bw_aq g 4 40 PA) :: (pcl g (x + 1) 129 (gmu n (2 ^ n ||| p) f f' (pd f') (pd f)) 0 .null ++ fcl g n p gg (x + 9)))) (hW : bw_ff a [x, x + 7, x + 1, x + 2] A0 A) (hz : A.1 = a) : bw_W g (bw_rm 8 20 200) mX9_multiply (bw_pm (kqP g x n rn mn pn sn a PA (gmu n (2 ^ n ||| p) f f' (pd f') (pd f)) [x, x + 7, x + 1, x + 2] A0)) cu su 103 [(0, .ref x), (3, .ref b), (4, .ref b')] [] A := by
  have h1 := hf.le (by omega)
  have h2 := hf'.le (by omega)
  have hlt := gmu_lt (h := f') (m := pd f') hG.2.2.1 hf.2 (pd f)
  have hzz : ∀ i, pd f + pd f' - 1 ≤ i → gmu n (2 ^ n ||| p) f f' (pd f') (pd f) i = 0 := fun i hi => gmu_z (pd f) i (by omega)
  have hok : pok n 65 (gmu n (2 ^ n ||| p) f f' (pd f') (pd f)) := ⟨fun i hi => hzz i (by omega), hlt⟩
  by_cases h00 : pd f + pd f' = 0
  · skip
    refine bw_aload_n 104 dX9_multiply_103 rfl rfl ?_
    refine bw_get 107 dX9_multiply_104 rfl lX9_14 (hC.at 0 rfl) rfl ?_
    refine bw_aload_n 108 dX9_multiply_107 rfl rfl ?_
    refine bw_get 111 dX9_multiply_108 rfl lX9_261 (((hW.has hp (by simp <;> omega)).at 0 rfl)) rfl ?_
    refine bw_aload 113 dX9_multiply_111 rfl rfl ?_
    refine bw_get 116 dX9_multiply_113 rfl lX9_261 (((hW.has hp' (by simp <;> omega)).at 0 rfl)) rfl ?_
    refine bw_iadd 117 dX9_multiply_116 rfl ?_
    refine bw_eqi (show tI (pd f) + tI (pd f') = -2 by rw [show pd f = 0 by omega, show pd f' = 0 by omega, tI_00]) ?_
    refine bw_cVv 120 dX9_multiply_117 rfl vX9_284 (c7_settle2 g (hC.sub [2] (by decide) rfl)) (hC.at 2 rfl) rfl rfl (Nat.le_of_ble_eq_true rfl) ⟨(Nat.le_of_ble_eq_true rfl), (Nat.le_of_ble_eq_true rfl)⟩ (by first | exact (show cu ≤ 20 by omega) | exact (show cu + 2 ≤ 20 by omega)) (by first | exact (show su ≤ 200 by omega) | exact (show su + 68 ≤ 200 by omega)) (fun A hP => ?_)
    rw [show (0 : Nat) = pd (gmu n (2 ^ n ||| p) f f' (pd f') (pd f)) from (pd_eq (fun i hi => hzz i (by omega)) (fun hx => absurd rfl hx) (by omega)).symm] at hP
    have hC := hC.upd 2 rfl hP
    have hW := hW.upd hP (Or.inr (by simp))
    have hz := (congrArg Prod.fst hP).trans hz
    refine bw_aload_n 121 dX9_multiply_120 rfl rfl ?_
    refine bw_aload_n 122 dX9_multiply_121 rfl rfl ?_
    refine bw_get 125 dX9_multiply_122 rfl lX9_14 (hC.at 0 rfl) rfl ?_
    refine bw_cVm 128 dX9_multiply_125 rfl vX9_243 (c9_keepPolynomial g hG.p16 (hC.sub [0, 1, 2, 3] (by decide) rfl) (by omega) (hok.mono (by omega)) (pd_le hok.1 (by omega)) hm hz) (hC.at 0 rfl) rfl rfl (Nat.le_of_ble_eq_true rfl) ⟨(Nat.le_of_ble_eq_true rfl), (Nat.le_of_ble_eq_true rfl)⟩ (by first | exact (show cu ≤ 20 by omega) | exact (show cu + 2 ≤ 20 by omega)) (by first | exact (show su ≤ 200 by omega) | exact (show su + 68 ≤ 200 by omega)) (fun x A hP => ?_)
    refine bw_iret dX9_multiply_128 rfl (by first | exact (show cu ≤ 20 by omega) | exact (show cu + 2 ≤ 20 by omega)) (by first | exact (show su ≤ 200 by omega) | exact (show su + 68 ≤ 200 by omega)) ?_
    exact ⟨_, rfl, kq_of hP (hC.sub [2, 3] (by decide) rfl) hW (by simp) (by omega)⟩
  · skip
    refine bw_aload_n 104 dX9_multiply_103 rfl rfl ?_
    refine bw_get 107 dX9_multiply_104 rfl lX9_14 (hC.at 0 rfl) rfl ?_
    refine bw_aload_n 108 dX9_multiply_107 rfl rfl ?_
    refine bw_get 111 dX9_multiply_108 rfl lX9_261 (((hW.has hp (by simp <;> omega)).at 0 rfl)) rfl ?_
    refine bw_aload 113 dX9_multiply_111 rfl rfl ?_
    refine bw_get 116 dX9_multiply_113 rfl lX9_261 (((hW.has hp' (by simp <;> omega)).at 0 rfl)) rfl ?_
    refine bw_iadd 117 dX9_multiply_116 rfl ?_
    refine bw_eqi (tI_tI h00) ?_
    refine bw_cVv 120 dX9_multiply_117 rfl vX9_284 (c7_settle g (hC.sub [2, 3] (by decide) rfl) (by omega) (by omega) (fun i => by have := hlt i; have := hG.p16; omega)) (hC.at 2 rfl) rfl rfl (Nat.le_of_ble_eq_true rfl) ⟨(Nat.le_of_ble_eq_true rfl), (Nat.le_of_ble_eq_true rfl)⟩ (by first | exact (show cu ≤ 20 by omega) | exact (show cu + 2 ≤ 20 by omega)) (by first | exact (show su ≤ 200 by omega) | exact (show su + 68 ≤ 200 by omega)) (fun A hP => ?_)
    rw [gtp_pd hzz (by omega)] at hP
    have hC := hC.upd 2 rfl hP
    have hW := hW.upd hP (Or.inr (by simp))
    have hz := (congrArg Prod.fst hP).trans hz
    refine bw_aload_n 121 dX9_multiply_120 rfl rfl ?_
    refine bw_aload_n 122 dX9_multiply_121 rfl rfl ?_
    refine bw_get 125 dX9_multiply_122 rfl lX9_14 (hC.at 0 rfl) rfl ?_
    refine bw_cVm 128 dX9_multiply_125 rfl vX9_243 (c9_keepPolynomial g hG.p16 (hC.sub [0, 1, 2, 3] (by decide) rfl) (by omega) (hok.mono (by omega)) (pd_le hok.1 (by omega)) hm hz) (hC.at 0 rfl) rfl rfl (Nat.le_of_ble_eq_true rfl) ⟨(Nat.le_of_ble_eq_true rfl), (Nat.le_of_ble_eq_true rfl)⟩ (by first | exact (show cu ≤ 20 by omega) | exact (show cu + 2 ≤ 20 by omega)) (by first | exact (show su ≤ 200 by omega) | exact (show su + 68 ≤ 200 by omega)) (fun x A hP => ?_)
    refine bw_iret dX9_multiply_128 rfl (by first | exact (show cu ≤ 20 by omega) | exact (show cu + 2 ≤ 20 by omega)) (by first | exact (show su ≤ 200 by omega) | exact (show su + 68 ≤ 200 by omega)) ?_
    exact ⟨_, rfl, kq_of hP (hC.sub [2, 3] (by decide) rfl) hW (by simp) (by omega)⟩
set_option maxHeartbeats 4000000 in
set_option maxRecDepth 100000 in
theorem k9_multiply (g : bw_G) {A0 : bw_H} {x n p gg rn mn pn sn a b b' k k' mw : Nat} {PA : Nat → Option Nat} {f f' fw : Nat → Nat} {w w' : Value} (hG : GFg n p gg) (hC : bw_has A0 ((x, xob x n rn mn pn sn) :: (x + 7, bw_aq g 4 40 PA) :: (pcl g (x + 1) 129 fw mw .null ++ fcl g n p gg (x + 9)))) (hww : pwk 129 fw mw) (hp : bw_has A0 (ppl g b 65 f w)) (hp' : bw_has A0 (ppl g b' 65 f' w')) (hz : A0.1 = a) (hf : pok n 65 f) (hf' : pok n 65 f') (hb : x + 34 ≤ b) (hb' : x + 34 ≤ b') (hba : b + 1 < a) (hba' : b' + 1 < a) (hk : k < pn) (hk' : k' < pn) (hm : pn < 40) (ha : PA k = some b) (ha' : PA k' = some b') (h66 : pd f + pd f' ≤ 66) : bw_C g (bw_rm 8 20 200) mX9_multiply [.ref x, .int (nI k), .int (nI k')] A0 (bw_pm (kqP g x n rn mn pn sn a PA (gmu n (2 ^ n ||| p) f f' (pd f') (pd f)) [x, x + 7, x + 1, x + 2] A0)) := by
  have h1 := hf.le (by omega)
  have h2 := hf'.le (by omega)
  have hW : bw_ff a [x, x + 7, x + 1, x + 2] A0 A0 := bw_ff.rf
  refine bw_C.of (by decide) (Nat.le_of_ble_eq_true rfl) rfl ?_
  refine bw_aload_n 1 dX9_multiply_0 rfl rfl ?_
  refine bw_iload_n 2 dX9_multiply_1 rfl rfl ?_
  refine bw_cVr 5 dX9_multiply_2 rfl vX9_257 (c9_pa g (hC.sub [0, 1] (by decide) rfl) hk (by omega) ha) (hC.at 0 rfl) rfl rfl (Nat.le_of_ble_eq_true rfl) ⟨(Nat.le_of_ble_eq_true rfl), (Nat.le_of_ble_eq_true rfl)⟩ (Nat.le_of_ble_eq_true rfl) (Nat.le_of_ble_eq_true rfl) ?_
  refine bw_astore_n 6 dX9_multiply_5 rfl (by decide) ?_
  refine bw_aload_n 7 dX9_multiply_6 rfl rfl ?_
  refine bw_iload_n 8 dX9_multiply_7 rfl rfl ?_
  refine bw_cVr 11 dX9_multiply_8 rfl vX9_257 (c9_pa g (hC.sub [0, 1] (by decide) rfl) hk' (by omega) ha') (hC.at 0 rfl) rfl rfl (Nat.le_of_ble_eq_true rfl) ⟨(Nat.le_of_ble_eq_true rfl), (Nat.le_of_ble_eq_true rfl)⟩ (Nat.le_of_ble_eq_true rfl) (Nat.le_of_ble_eq_true rfl) ?_
  refine bw_astore 13 dX9_multiply_11 rfl (by decide) ?_
  refine bw_aload_n 14 dX9_multiply_13 rfl rfl ?_
  refine bw_get 17 dX9_multiply_14 rfl lX9_261 (((hW.has hp (by simp <;> omega)).at 0 rfl)) rfl ?_
  refine bw_aload 19 dX9_multiply_17 rfl rfl ?_
  refine bw_get 22 dX9_multiply_19 rfl lX9_261 (((hW.has hp' (by simp <;> omega)).at 0 rfl)) rfl ?_
  refine bw_iadd 23 dX9_multiply_22 rfl ?_
  refine bw_bipush (64) 25 dX9_multiply_23 (by decide) rfl ?_
  refine bw_icmp_le 38 28 dX9_multiply_25 rfl rfl (fun c25 => ?_) (fun c25 => ?_)
  · refine bw_aload_n 39 dX9_multiply_38 rfl rfl ?_
    refine bw_cVv 42 dX9_multiply_39 rfl vX9_237 (c9_np g (hC.sub [0] (by decide) rfl) hm) (hC.at 0 rfl) rfl rfl (Nat.le_of_ble_eq_true rfl) ⟨(Nat.le_of_ble_eq_true rfl), (Nat.le_of_ble_eq_true rfl)⟩ (Nat.le_of_ble_eq_true rfl) (Nat.le_of_ble_eq_true rfl) (fun A hP => ?_)
    subst hP
    refine bw_aload_n 43 dX9_multiply_42 rfl rfl ?_
    refine bw_get 46 dX9_multiply_43 rfl lX9_14 (hC.at 0 rfl) rfl ?_
    refine bw_cVv 49 dX9_multiply_46 rfl vX9_281 (c7_clear g (hC.sub [2, 3] (by decide) rfl) (by omega) hww.1 hww.2) (hC.at 2 rfl) rfl rfl (Nat.le_of_ble_eq_true rfl) ⟨(Nat.le_of_ble_eq_true rfl), (Nat.le_of_ble_eq_true rfl)⟩ (Nat.le_of_ble_eq_true rfl) (Nat.le_of_ble_eq_true rfl) (fun A hP => ?_)
    have hW := hW.po hP (Or.inr (by simp)) (Or.inr (by simp))
    have hz := (congrArg Prod.fst hP).trans hz
    have hC := hC.po 2 3 rfl rfl hP
    refine bw_iconst (0) 50 dX9_multiply_49 (by decide) rfl ?_
    refine bw_eqi (y := nI 0) rfl ?_
    refine bw_istore 52 dX9_multiply_50 rfl (by decide) ?_
    refine bw_loc _ ?_ (k9_multiply_loop g hG hp hp' hf hf' hb hb' hba hba' ?_ ?_ (fun A hC hW hz => k9_multiply_fin g hG hp hp' hf hf' hb hb' hba hba' hm h66 (Nat.le_of_ble_eq_true rfl) (Nat.le_of_ble_eq_true rfl) hC hW hz) (pd f) 0 (by omega) A hC hW hz)
    · exact ⟨rfl, rfl, rfl, rfl, trivial⟩
    · exact Nat.le_of_ble_eq_true rfl
    · exact Nat.le_of_ble_eq_true rfl
  · exact absurd ((tI_sum h1 h2).mpr h66) c25
theorem k9_multiplyY (g : bw_G) {A : bw_H} {x n rn mn pn sn b b' k k' : Nat} {PA : Nat → Option Nat} {f f' : Nat → Nat} {w w' : Value} (hC : bw_has A [(x, xob x n rn mn pn sn), (x + 7, bw_aq g 4 40 PA)]) (hp : bw_has A (ppl g b 65 f w)) (hp' : bw_has A (ppl g b' 65 f' w')) (hf : pok n 65 f) (hf' : pok n 65 f') (hk : k < pn) (hk' : k' < pn) (hm : pn ≤ 40) (ha : PA k = some b) (ha' : PA k' = some b') (h : 66 < pd f + pd f' ∨ pn = 40) : bw_C g (bw_rm 8 20 200) mX9_multiply [.ref x, .int (nI k), .int (nI k')] A (bw_pz eUO A) := by
  have h1 := hf.le (by omega)
  have h2 := hf'.le (by omega)
  refine bw_C.of (by decide) (Nat.le_of_ble_eq_true rfl) rfl ?_
  refine bw_aload_n 1 dX9_multiply_0 rfl rfl ?_
  refine bw_iload_n 2 dX9_multiply_1 rfl rfl ?_
  refine bw_cVr 5 dX9_multiply_2 rfl vX9_257 (c9_pa g (hC.sub [0, 1] (by decide) rfl) hk (by omega) ha) (hC.at 0 rfl) rfl rfl (Nat.le_of_ble_eq_true rfl) ⟨(Nat.le_of_ble_eq_true rfl), (Nat.le_of_ble_eq_true rfl)⟩ (Nat.le_of_ble_eq_true rfl) (Nat.le_of_ble_eq_true rfl) ?_
  refine bw_astore_n 6 dX9_multiply_5 rfl (by decide) ?_
  refine bw_aload_n 7 dX9_multiply_6 rfl rfl ?_
  refine bw_iload_n 8 dX9_multiply_7 rfl rfl ?_
  refine bw_cVr 11 dX9_multiply_8 rfl vX9_257 (c9_pa g (hC.sub [0, 1] (by decide) rfl) hk' (by omega) ha') (hC.at 0 rfl) rfl rfl (Nat.le_of_ble_eq_true rfl) ⟨(Nat.le_of_ble_eq_true rfl), (Nat.le_of_ble_eq_true rfl)⟩ (Nat.le_of_ble_eq_true rfl) (Nat.le_of_ble_eq_true rfl) ?_
  refine bw_astore 13 dX9_multiply_11 rfl (by decide) ?_
  refine bw_aload_n 14 dX9_multiply_13 rfl rfl ?_
  refine bw_get 17 dX9_multiply_14 rfl lX9_261 ((hp.at 0 rfl)) rfl ?_
  refine bw_aload 19 dX9_multiply_17 rfl rfl ?_
  refine bw_get 22 dX9_multiply_19 rfl lX9_261 ((hp'.at 0 rfl)) rfl ?_
  refine bw_iadd 23 dX9_multiply_22 rfl ?_
  refine bw_bipush (64) 25 dX9_multiply_23 (by decide) rfl ?_
  refine bw_icmp_le 38 28 dX9_multiply_25 rfl rfl (fun c25 => ?_) (fun c25 => ?_)
  · have h66 : pd f + pd f' ≤ 66 := (tI_sum h1 h2).mp c25
    have hm40 : pn = 40 := by omega
    refine bw_aload_n 39 dX9_multiply_38 rfl rfl ?_
    refine bw_cVz 42 dX9_multiply_39 rfl vX9_237 (c9_npX g (hC.sub [0] (by decide) rfl) hm40) (hC.at 0 rfl) rfl rfl (Nat.le_of_ble_eq_true rfl) ⟨(Nat.le_of_ble_eq_true rfl), (Nat.le_of_ble_eq_true rfl)⟩ (Nat.le_of_ble_eq_true rfl) (Nat.le_of_ble_eq_true rfl) rfl ?_
    exact fun m hm => ⟨rfl, m, hm, rfl⟩
  · refine bw_throw "the degree is too high" dX9_multiply_28 dX9_multiply_31 dX9_multiply_32 dX9_multiply_34 dX9_multiply_37 tX9_138 (by decide +kernel) rfl (Nat.le_of_ble_eq_true rfl) (Nat.le_of_ble_eq_true rfl) (Nat.le_of_ble_eq_true rfl) (Nat.le_of_ble_eq_true rfl) ?_
    exact fun m hm => ⟨rfl, m, hm, rfl⟩
theorem k9_multiplyX (g : bw_G) {A : bw_H} {x n rn mn pn sn : Nat} {a b : Int32} {PA : Nat → Option Nat} (hC : bw_has A [(x, xob x n rn mn pn sn), (x + 7, bw_aq g 4 40 PA)]) (hm : pn ≤ 40) (hs : ∀ k, k < pn → ∃ P, PA k = some P) (h : ¬ (kI pn a ∧ kI pn b)) : bw_C g (bw_rm 8 20 200) mX9_multiply [.ref x, .int a, .int b] A (bw_pz eIO A) := by
  refine bw_C.of (by decide) (Nat.le_of_ble_eq_true rfl) rfl ?_
  by_cases ha : kI pn a
  · obtain ⟨k, hk, rfl⟩ := kI_of (by omega) ha
    obtain ⟨P, haL⟩ := hs k hk
    refine bw_aload_n 1 dX9_multiply_0 rfl rfl ?_
    refine bw_iload_n 2 dX9_multiply_1 rfl rfl ?_
    refine bw_cVr 5 dX9_multiply_2 rfl vX9_257 (c9_pa g (hC.sub [0, 1] (by decide) rfl) hk hm haL) (hC.at 0 rfl) rfl rfl (Nat.le_of_ble_eq_true rfl) ⟨(Nat.le_of_ble_eq_true rfl), (Nat.le_of_ble_eq_true rfl)⟩ (Nat.le_of_ble_eq_true rfl) (Nat.le_of_ble_eq_true rfl) ?_
    refine bw_astore_n 6 dX9_multiply_5 rfl (by decide) ?_
    refine bw_aload_n 7 dX9_multiply_6 rfl rfl ?_
    refine bw_iload_n 8 dX9_multiply_7 rfl rfl ?_
    refine bw_cVz 11 dX9_multiply_8 rfl vX9_257 (c9_paX g (hC.sub [0] (by decide) rfl) (fun hb => h ⟨ha, hb⟩)) (hC.at 0 rfl) rfl rfl (Nat.le_of_ble_eq_true rfl) ⟨(Nat.le_of_ble_eq_true rfl), (Nat.le_of_ble_eq_true rfl)⟩ (Nat.le_of_ble_eq_true rfl) (Nat.le_of_ble_eq_true rfl) rfl ?_
    exact fun m hm => ⟨rfl, m, hm, rfl⟩
  · skip
    refine bw_aload_n 1 dX9_multiply_0 rfl rfl ?_
    refine bw_iload_n 2 dX9_multiply_1 rfl rfl ?_
    refine bw_cVz 5 dX9_multiply_2 rfl vX9_257 (c9_paX g (hC.sub [0] (by decide) rfl) ha) (hC.at 0 rfl) rfl rfl (Nat.le_of_ble_eq_true rfl) ⟨(Nat.le_of_ble_eq_true rfl), (Nat.le_of_ble_eq_true rfl)⟩ (Nat.le_of_ble_eq_true rfl) (Nat.le_of_ble_eq_true rfl) rfl ?_
    exact fun m hm => ⟨rfl, m, hm, rfl⟩
