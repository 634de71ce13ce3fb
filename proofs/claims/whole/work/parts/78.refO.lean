/-! the reference: begin, point, through, back -/
/-- one and two behind a point -/
def gpt1 (n q : Nat) (F T : Nat → Nat) (x y : Nat) : Nat → Nat := gps n q F T (gm n q (y ^^^ gvl n q F x) (ginv n q (gvl n q T x)))
theorem gmk_s2 {n q : Nat} (hG : GFp n q) {f : Nat → Nat} {v j b : Nat} (hv : v < 2 ^ n) (hf : ∀ i, f i < 2 ^ n) (hb : b = if 0 < j then f (j - 1) else 0) : (fun i => if i = j then b ^^^ gm n q v (f j) else gmk n q f v 0 (j + 1) i) = gmk n q f v 0 j := by
  rw [hG.comm hv (hf j), Nat.xor_comm]
  exact gmk_s hb
theorem gam_at' (n q : Nat) (f h : Nat → Nat) (c k : Nat) : gam n q f h 0 0 c k k = f k := by
  have := gam_at n q f h 0 0 c k
  rwa [Nat.zero_add] at this
theorem gam_s' (n q : Nat) (f h : Nat → Nat) (c k : Nat) : (fun i => if i = k then f k ^^^ gm n q c (h k) else gam n q f h 0 0 c k i) = gam n q f h 0 0 c (k + 1) := by
  have := gam_s n q f h 0 0 c k
  rwa [Nat.zero_add] at this
theorem m_begin (g : bw_G) {A : bw_H} {M n p gg th rn mn pn rd rs pt sn : Nat} {f1 f2 : Nat → Nat} (hC : bw_has A [(M, mdo M n p gg th rn mn pn rd rs pt sn), (M + 10, bw_an g 200 f1), (M + 11, bw_an g 200 f2)]) (hz1 : ∀ i, 200 ≤ i → f1 i = 0) (hz2 : ∀ i, 200 ≤ i → f2 i = 0) : bw_C g (bw_rm 1 0 0) mX10_begin [.ref M] A (bw_pv (fun A' => bw_sm [M + 10, M + 11] A A' ∧ bw_has A' [(M + 10, bw_an g 200 (fun _ => 0)), (M + 11, bw_an g 200 (fun i => if i = 0 then 1 else 0))])) := by
  have hS : bw_sm [M + 10, M + 11] A A := bw_sm.rf
  refine bw_C.of (by decide) (Nat.le_of_ble_eq_true rfl) rfl ?_
  refine bw_aload_n 1 dX10_begin_0 rfl rfl ?_
  refine bw_get 4 dX10_begin_1 rfl lX10_42 (hC.at 0 rfl) rfl ?_
  refine bw_cSv 7 dX10_begin_4 rfl sX10_161 (m_nothing g (hC.sub [1] (by decide) rfl) hz1) rfl rfl (Nat.le_of_ble_eq_true rfl) ⟨(Nat.le_of_ble_eq_true rfl), (Nat.le_of_ble_eq_true rfl)⟩ (Nat.le_of_ble_eq_true rfl) (Nat.le_of_ble_eq_true rfl) (fun A hP => ?_)
  obtain ⟨hs1, hs2⟩ := hP
  have hU := sm_up hs1 hs2
  have hC := hC.upd 1 rfl hU
  have hS := hS.upd hU (by simp)
  clear hU
  refine bw_aload_n 8 dX10_begin_7 rfl rfl ?_
  refine bw_get 11 dX10_begin_8 rfl lX10_45 (hC.at 0 rfl) rfl ?_
  refine bw_cSv 14 dX10_begin_11 rfl sX10_161 (m_nothing g (hC.sub [2] (by decide) rfl) hz2) rfl rfl (Nat.le_of_ble_eq_true rfl) ⟨(Nat.le_of_ble_eq_true rfl), (Nat.le_of_ble_eq_true rfl)⟩ (Nat.le_of_ble_eq_true rfl) (Nat.le_of_ble_eq_true rfl) (fun A hP => ?_)
  obtain ⟨hs1, hs2⟩ := hP
  have hU := sm_up hs1 hs2
  have hC := hC.upd 2 rfl hU
  have hS := hS.upd hU (by simp)
  clear hU
  refine bw_aload_n 15 dX10_begin_14 rfl rfl ?_
  refine bw_get 18 dX10_begin_15 rfl lX10_45 (hC.at 0 rfl) rfl ?_
  refine bw_iconst (0) 19 dX10_begin_18 (by decide) rfl ?_
  refine bw_eqi (y := nI 0) rfl ?_
  refine bw_iconst (1) 20 dX10_begin_19 (by decide) rfl ?_
  refine bw_eqi (y := nI 1) rfl ?_
  refine bw_iastN 21 dX10_begin_20 rfl (hC.at 2 rfl) (by omega) (by omega) (G := _) (rfl) (fun A hU => ?_)
  have hC := hC.upd 2 rfl hU
  have hS := hS.upd hU (by simp)
  clear hU
  refine bw_vret dX10_begin_21 rfl (Nat.le_of_ble_eq_true rfl) (Nat.le_of_ble_eq_true rfl) ?_
  exact ⟨rfl, hS, hC.sub [1, 2] (by decide) rfl⟩
set_option maxHeartbeats 4000000 in
theorem m_point_two (g : bw_G) {A0 : bw_H} {M n p gg th rn mn pn rd rs pt sn x : Nat} {F T : Nat → Nat} (hG : GFg n p gg) (hT : pok n 150 T) (hx : x < 2 ^ n) :
    ∀ (j : Nat), j ≤ pd T + 1 → ∀ A : bw_H, bw_has A [(M, mdo M n p gg th rn mn pn rd rs pt sn), (M + 10, bw_an g 200 F), (M + 11, bw_an g 200 (gmk n (2 ^ n ||| p) T x 0 j))] → bw_sm [M + 10, M + 11] A0 A →
      bw_W g (bw_rm 3 0 0) mX10_point (bw_pv (fun A' => bw_sm [M + 10, M + 11] A0 A' ∧ bw_has A' [(M + 10, bw_an g 200 F), (M + 11, bw_an g 200 (gma n (2 ^ n ||| p) T x 0))])) 0 0 82 [(0, .ref M), (1, .int (nI x)), (5, .int (tI j))] [] A := by
  have h16 := hG.p16
  have hpT := hT.le (by omega)
  intro j
  induction j with
  | zero =>
    intro hj A hC hS
    rw [gmk_0] at hC
    refine bw_iload 84 dX10_point_82 rfl rfl ?_
    refine bw_if_lt 131 87 dX10_point_84 rfl rfl (fun c84 => ?_) (fun c84 => ?_)
    · refine bw_vret dX10_point_131 rfl (Nat.le_of_ble_eq_true rfl) (Nat.le_of_ble_eq_true rfl) ?_
      exact ⟨rfl, hS, hC.sub [1, 2] (by decide) rfl⟩
    · exact absurd ((tI_lt0 (m := 0) (by omega)).mpr rfl) c84
  | succ j ih =>
    intro hj A hC hS
    rw [tI_s]
    refine bw_iload 84 dX10_point_82 rfl rfl ?_
    refine bw_if_lt 131 87 dX10_point_84 rfl rfl (fun c84 => ?_) (fun c84 => ?_)
    · exact absurd c84 (nI_pos (by omega))
    · skip
      refine bw_aload_n 88 dX10_point_87 rfl rfl ?_
      refine bw_get 91 dX10_point_88 rfl lX10_45 (hC.at 0 rfl) rfl ?_
      refine bw_iload 93 dX10_point_91 rfl rfl ?_
      refine bw_iload 95 dX10_point_93 rfl rfl ?_
      refine bw_if_le 110 98 dX10_point_95 rfl rfl (fun c95 => ?_) (fun c95 => ?_)
      · have hj0 : j = 0 := (xn_le0 (by omega)).mp c95
        have hb : 0 = if 0 < j then T (j - 1) else 0 := by rw [if_neg (by omega)]
        refine bw_iconst (0) 111 dX10_point_110 (by decide) rfl ?_
        refine bw_eqi (y := nI 0) rfl ?_
        refine bw_aload_n 112 dX10_point_111 rfl rfl ?_
        refine bw_iload_n 113 dX10_point_112 rfl rfl ?_
        refine bw_aload_n 114 dX10_point_113 rfl rfl ?_
        refine bw_get 117 dX10_point_114 rfl lX10_45 (hC.at 0 rfl) rfl ?_
        refine bw_iload 119 dX10_point_117 rfl rfl ?_
        refine bw_ialdN 120 dX10_point_119 rfl (hC.at 2 rfl) (by omega) (by omega) ?_
        refine bw_eqi (congrArg nI (gmk_at (Nat.lt_succ_self j))) ?_
        refine bw_cVi 123 dX10_point_120 rfl vX10_102 (m_mul g hG (hC.sub [0] (by decide) rfl) hx (hT.2 j)) (hC.at 0 rfl) rfl rfl (Nat.le_of_ble_eq_true rfl) ⟨(Nat.le_of_ble_eq_true rfl), (Nat.le_of_ble_eq_true rfl)⟩ (Nat.le_of_ble_eq_true rfl) (Nat.le_of_ble_eq_true rfl) ?_
        refine bw_ixor 124 dX10_point_123 rfl ?_
        refine bw_eqi (xn_xor _ _) ?_
        refine bw_iastN 125 dX10_point_124 rfl (hC.at 2 rfl) (by omega) (by omega) (G := gmk n (2 ^ n ||| p) T x 0 j) (gmk_s2 hG.2.2.1 hx hT.2 hb) (fun A hU => ?_)
        have hC := hC.upd 2 rfl hU
        have hS := hS.upd hU (by simp)
        clear hU
        refine bw_iincN (-1) 128 dX10_point_125 rfl rfl (by decide) (by decide) ?_
        refine bw_goto 82 dX10_point_128 rfl ?_
        refine bw_loc _ ?_ (ih (by omega) A hC hS)
        exact ⟨rfl, rfl, rfl, trivial⟩
      · have hj0 : 0 < j := Nat.pos_of_ne_zero (fun h => c95 ((xn_le0 (by omega)).mpr h))
        have hb : T (j - 1) = if 0 < j then T (j - 1) else 0 := by rw [if_pos hj0]
        refine bw_aload_n 99 dX10_point_98 rfl rfl ?_
        refine bw_get 102 dX10_point_99 rfl lX10_45 (hC.at 0 rfl) rfl ?_
        refine bw_iload 104 dX10_point_102 rfl rfl ?_
        refine bw_iconst (1) 105 dX10_point_104 (by decide) rfl ?_
        refine bw_isub 106 dX10_point_105 rfl ?_
        refine bw_eqi (pk_sub hj0) ?_
        refine bw_ialdN 107 dX10_point_106 rfl (hC.at 2 rfl) (by omega) (by omega) ?_
        refine bw_eqi (congrArg nI (gmk_at (show j - 1 < j + 1 by omega))) ?_
        refine bw_goto 111 dX10_point_107 rfl ?_
        refine bw_aload_n 112 dX10_point_111 rfl rfl ?_
        refine bw_iload_n 113 dX10_point_112 rfl rfl ?_
        refine bw_aload_n 114 dX10_point_113 rfl rfl ?_
        refine bw_get 117 dX10_point_114 rfl lX10_45 (hC.at 0 rfl) rfl ?_
        refine bw_iload 119 dX10_point_117 rfl rfl ?_
        refine bw_ialdN 120 dX10_point_119 rfl (hC.at 2 rfl) (by omega) (by omega) ?_
        refine bw_eqi (congrArg nI (gmk_at (Nat.lt_succ_self j))) ?_
        refine bw_cVi 123 dX10_point_120 rfl vX10_102 (m_mul g hG (hC.sub [0] (by decide) rfl) hx (hT.2 j)) (hC.at 0 rfl) rfl rfl (Nat.le_of_ble_eq_true rfl) ⟨(Nat.le_of_ble_eq_true rfl), (Nat.le_of_ble_eq_true rfl)⟩ (Nat.le_of_ble_eq_true rfl) (Nat.le_of_ble_eq_true rfl) ?_
        refine bw_ixor 124 dX10_point_123 rfl ?_
        refine bw_eqi (xn_xor _ _) ?_
        refine bw_iastN 125 dX10_point_124 rfl (hC.at 2 rfl) (by omega) (by omega) (G := gmk n (2 ^ n ||| p) T x 0 j) (gmk_s2 hG.2.2.1 hx hT.2 hb) (fun A hU => ?_)
        have hC := hC.upd 2 rfl hU
        have hS := hS.upd hU (by simp)
        clear hU
        refine bw_iincN (-1) 128 dX10_point_125 rfl rfl (by decide) (by decide) ?_
        refine bw_goto 82 dX10_point_128 rfl ?_
        refine bw_loc _ ?_ (ih (by omega) A hC hS)
        exact ⟨rfl, rfl, rfl, trivial⟩
set_option maxHeartbeats 4000000 in
theorem m_point_one (g : bw_G) {A0 : bw_H} {M n p gg th rn mn pn rd rs pt sn x c : Nat} {F T : Nat → Nat} (hG : GFg n p gg) (hT : pok n 150 T) (hF : ∀ i, F i < 2 ^ n) (hx : x < 2 ^ n) (hc : c < 2 ^ n) :
    ∀ (d k : Nat), k + d = pd T → ∀ A : bw_H, bw_has A [(M, mdo M n p gg th rn mn pn rd rs pt sn), (M + 10, bw_an g 200 (gam n (2 ^ n ||| p) F T 0 0 c k)), (M + 11, bw_an g 200 T)] → bw_sm [M + 10, M + 11] A0 A →
      bw_W g (bw_rm 3 0 0) mX10_point (bw_pv (fun A' => bw_sm [M + 10, M + 11] A0 A' ∧ bw_has A' [(M + 10, bw_an g 200 (gps n (2 ^ n ||| p) F T c)), (M + 11, bw_an g 200 (gma n (2 ^ n ||| p) T x 0))])) 0 0 41 [(0, .ref M), (1, .int (nI x)), (3, .int (nI c)), (4, .int (tI (pd T))), (5, .int (nI k))] [] A := by
  have h16 := hG.p16
  have hpT := hT.le (by omega)
  intro d
  induction d with
  | zero =>
    intro k hk A hC hS
    have hk : k = pd T := by omega
    subst hk
    rw [gam_gps F c (hT.z (by omega))] at hC
    refine bw_iload 43 dX10_point_41 rfl rfl ?_
    refine bw_iload 45 dX10_point_43 rfl rfl ?_
    refine bw_icmp_gt 76 48 dX10_point_45 rfl rfl (fun c45 => ?_) (fun c45 => ?_)
    · refine bw_iload 78 dX10_point_76 rfl rfl ?_
      refine bw_iconst (1) 79 dX10_point_78 (by decide) rfl ?_
      refine bw_iadd 80 dX10_point_79 rfl ?_
      refine bw_eqi (tI_add (pd T)) ?_
      refine bw_istore 82 dX10_point_80 rfl (by decide) ?_
      refine bw_loc _ ?_ (m_point_two g hG hT hx (pd T + 1) (by omega) A (by rw [gmk_m (hT.z (by omega))]; exact hC) hS)
      exact ⟨rfl, rfl, congrArg (fun x => some (Value.int x)) (tI_s (pd T)).symm, trivial⟩
    · exact absurd ((tI_ltk (by omega) (by omega)).mpr (Nat.le_refl _)) c45
  | succ d ih =>
    intro k hk A hC hS
    refine bw_iload 43 dX10_point_41 rfl rfl ?_
    refine bw_iload 45 dX10_point_43 rfl rfl ?_
    refine bw_icmp_gt 76 48 dX10_point_45 rfl rfl (fun c45 => ?_) (fun c45 => ?_)
    · exact absurd ((tI_ltk (by omega) (by omega)).mp c45) (by omega)
    · skip
      refine bw_aload_n 49 dX10_point_48 rfl rfl ?_
      refine bw_get 52 dX10_point_49 rfl lX10_42 (hC.at 0 rfl) rfl ?_
      refine bw_iload 54 dX10_point_52 rfl rfl ?_
      refine bw_dup2 55 dX10_point_54 rfl rfl rfl ?_
      refine bw_ialdN 56 dX10_point_55 rfl (hC.at 1 rfl) (by omega) (by omega) ?_
      refine bw_eqi (congrArg nI (gam_at' n (2 ^ n ||| p) F T c k)) ?_
      refine bw_aload_n 57 dX10_point_56 rfl rfl ?_
      refine bw_iload_n 58 dX10_point_57 rfl rfl ?_
      refine bw_aload_n 59 dX10_point_58 rfl rfl ?_
      refine bw_get 62 dX10_point_59 rfl lX10_45 (hC.at 0 rfl) rfl ?_
      refine bw_iload 64 dX10_point_62 rfl rfl ?_
      refine bw_ialdN 65 dX10_point_64 rfl (hC.at 2 rfl) (by omega) (by omega) ?_
      refine bw_cVi 68 dX10_point_65 rfl vX10_102 (m_mul g hG (hC.sub [0] (by decide) rfl) hc (hT.2 k)) (hC.at 0 rfl) rfl rfl (Nat.le_of_ble_eq_true rfl) ⟨(Nat.le_of_ble_eq_true rfl), (Nat.le_of_ble_eq_true rfl)⟩ (Nat.le_of_ble_eq_true rfl) (Nat.le_of_ble_eq_true rfl) ?_
      refine bw_ixor 69 dX10_point_68 rfl ?_
      refine bw_eqi (xn_xor _ _) ?_
      refine bw_iastN 70 dX10_point_69 rfl (hC.at 1 rfl) (by omega) (by omega) (G := gam n (2 ^ n ||| p) F T 0 0 c (k + 1)) (gam_s' n (2 ^ n ||| p) F T c k) (fun A hU => ?_)
      have hC := hC.upd 1 rfl hU
      have hS := hS.upd hU (by simp)
      clear hU
      refine bw_iincN (1) 73 dX10_point_70 rfl rfl (by decide) (by decide) ?_
      refine bw_goto 41 dX10_point_73 rfl ?_
      refine bw_loc _ ?_ (ih (k + 1) (by omega) A hC hS)
      exact ⟨rfl, rfl, rfl, rfl, congrArg (fun x => some (Value.int x)) (nI_1 ( k )), trivial⟩
set_option maxHeartbeats 4000000 in
theorem m_point (g : bw_G) {A : bw_H} {M n p gg th rn mn pn rd rs pt sn x y : Nat} {F T : Nat → Nat} (hG : GFg n p gg) (hC : bw_has A [(M, mdo M n p gg th rn mn pn rd rs pt sn), (M + 10, bw_an g 200 F), (M + 11, bw_an g 200 T)]) (hF : pok n 150 F) (hT : pok n 150 T) (hx : x < 2 ^ n) (hy : y < 2 ^ n) : bw_C g (bw_rm 3 0 0) mX10_point [.ref M, .int (nI x), .int (nI y)] A (bw_pv (fun A' => bw_sm [M + 10, M + 11] A A' ∧ bw_has A' [(M + 10, bw_an g 200 (gpt1 n (2 ^ n ||| p) F T x y)), (M + 11, bw_an g 200 (gma n (2 ^ n ||| p) T x 0))])) := by
  have h16 := hG.p16
  have hS : bw_sm [M + 10, M + 11] A A := bw_sm.rf
  refine bw_C.of (by decide) (Nat.le_of_ble_eq_true rfl) rfl ?_
  refine bw_aload_n 1 dX10_point_0 rfl rfl ?_
  refine bw_iload_n 2 dX10_point_1 rfl rfl ?_
  refine bw_aload_n 3 dX10_point_2 rfl rfl ?_
  refine bw_aload_n 4 dX10_point_3 rfl rfl ?_
  refine bw_get 7 dX10_point_4 rfl lX10_42 (hC.at 0 rfl) rfl ?_
  refine bw_iload_n 8 dX10_point_7 rfl rfl ?_
  refine bw_cVi 11 dX10_point_8 rfl vX10_172 (m_atX g hG (hC.sub [0, 1] (by decide) rfl) hF.2 hx) (hC.at 0 rfl) rfl rfl (Nat.le_of_ble_eq_true rfl) ⟨(Nat.le_of_ble_eq_true rfl), (Nat.le_of_ble_eq_true rfl)⟩ (Nat.le_of_ble_eq_true rfl) (Nat.le_of_ble_eq_true rfl) ?_
  refine bw_ixor 12 dX10_point_11 rfl ?_
  refine bw_eqi (xn_xor _ _) ?_
  refine bw_aload_n 13 dX10_point_12 rfl rfl ?_
  refine bw_aload_n 14 dX10_point_13 rfl rfl ?_
  refine bw_aload_n 15 dX10_point_14 rfl rfl ?_
  refine bw_get 18 dX10_point_15 rfl lX10_45 (hC.at 0 rfl) rfl ?_
  refine bw_iload_n 19 dX10_point_18 rfl rfl ?_
  refine bw_cVi 22 dX10_point_19 rfl vX10_172 (m_atX g hG (hC.sub [0, 2] (by decide) rfl) hT.2 hx) (hC.at 0 rfl) rfl rfl (Nat.le_of_ble_eq_true rfl) ⟨(Nat.le_of_ble_eq_true rfl), (Nat.le_of_ble_eq_true rfl)⟩ (Nat.le_of_ble_eq_true rfl) (Nat.le_of_ble_eq_true rfl) ?_
  refine bw_cVi 25 dX10_point_22 rfl vX10_121 (m_inverse g hG (hC.sub [0] (by decide) rfl) (gvl_lt hG.2.2.1 hT x)) (hC.at 0 rfl) rfl rfl (Nat.le_of_ble_eq_true rfl) ⟨(Nat.le_of_ble_eq_true rfl), (Nat.le_of_ble_eq_true rfl)⟩ (Nat.le_of_ble_eq_true rfl) (Nat.le_of_ble_eq_true rfl) ?_
  refine bw_cVi 28 dX10_point_25 rfl vX10_102 (m_mul g hG (hC.sub [0] (by decide) rfl) (xor_lt hy (gvl_lt hG.2.2.1 hF x)) (ginv_lt hG _)) (hC.at 0 rfl) rfl rfl (Nat.le_of_ble_eq_true rfl) ⟨(Nat.le_of_ble_eq_true rfl), (Nat.le_of_ble_eq_true rfl)⟩ (Nat.le_of_ble_eq_true rfl) (Nat.le_of_ble_eq_true rfl) ?_
  refine bw_istore_n 29 dX10_point_28 rfl (by decide) ?_
  refine bw_aload_n 30 dX10_point_29 rfl rfl ?_
  refine bw_get 33 dX10_point_30 rfl lX10_45 (hC.at 0 rfl) rfl ?_
  refine bw_cSi 36 dX10_point_33 rfl sX10_165 (m_high g (hC.sub [2] (by decide) rfl) (fun i => by have := hT.2 i; omega)) rfl rfl (Nat.le_of_ble_eq_true rfl) ⟨(Nat.le_of_ble_eq_true rfl), (Nat.le_of_ble_eq_true rfl)⟩ (Nat.le_of_ble_eq_true rfl) (Nat.le_of_ble_eq_true rfl) ?_
  refine bw_istore 38 dX10_point_36 rfl (by decide) ?_
  refine bw_iconst (0) 39 dX10_point_38 (by decide) rfl ?_
  refine bw_eqi (y := nI 0) rfl ?_
  refine bw_istore 41 dX10_point_39 rfl (by decide) ?_
  refine bw_loc _ ?_ (m_point_one g hG hT hF.2 hx (hG.2.2.1.lt (xor_lt hy (gvl_lt hG.2.2.1 hF x))) (pd T) 0 (by omega) A (by rw [gam_0]; exact hC) hS)
  exact ⟨rfl, rfl, rfl, rfl, rfl, trivial⟩
