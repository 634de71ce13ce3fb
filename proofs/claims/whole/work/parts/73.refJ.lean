/-! the reference: invert -/
/-- a cell of the inverse -/
def giv {n q : Nat} (hG : GFp n q) (A : Nat → Nat → Nat) (h i j : Nat) : Nat := gm n q (ginv n q (mnv hG A h (2 ^ h - 1) (2 ^ h - 1))) (mnv hG A h ((2 ^ h - 1) ^^^ 2 ^ j) ((2 ^ h - 1) ^^^ 2 ^ i))
theorem all_x : ∀ h, h ≤ 8 → ∀ i, i < h → (2 ^ h - 1) ^^^ 2 ^ i < 2 ^ h := by decide +kernel
set_option maxHeartbeats 4000000 in
theorem m_invert_j (g : bw_G) {A0 : bw_H} {M n p gg rn mn pn rd rs pt sn h i m : Nat} {rr cc B V : Nat → Nat} {D : Nat → Nat → Nat} {Q : bw_O → bw_H → Prop} (hG : GFg n p gg) (hh : h ≤ 8) (hi : i < h) (hm : m < 40) (hV : mnI hG.2.2.1 D h (2 ^ h) 0 V)
    (kk : ∀ A : bw_H, bw_has A ((M, mdo M n p gg 0 rn mn pn rd rs pt sn) :: (mmc g M rr cc (gfl B m (giv hG.2.2.1 D h) h i h) ++ [(M + 5, bw_an g 65536 V)])) → bw_sm (M :: (M + 5) :: mml M) A0 A → bw_W g (bw_rm 8 0 0) mX10_invert Q 0 0 171 [(0, .ref M), (2, .int (nI h)), (3, .int (nI (2 ^ h - 1))), (4, .int (nI (mnv hG.2.2.1 D h (2 ^ h - 1) (2 ^ h - 1)))), (5, .int (nI m)), (6, .int (nI i))] [] A) :
    ∀ (d j : Nat), j + d = h → ∀ A : bw_H, bw_has A ((M, mdo M n p gg 0 rn mn pn rd rs pt sn) :: (mmc g M rr cc (gfl B m (giv hG.2.2.1 D h) h i j) ++ [(M + 5, bw_an g 65536 V)])) → bw_sm (M :: (M + 5) :: mml M) A0 A →
      bw_W g (bw_rm 8 0 0) mX10_invert Q 0 0 113 [(0, .ref M), (2, .int (nI h)), (3, .int (nI (2 ^ h - 1))), (4, .int (nI (mnv hG.2.2.1 D h (2 ^ h - 1) (2 ^ h - 1)))), (5, .int (nI m)), (6, .int (nI i)), (7, .int (nI j))] [] A := by
  have h256 : 2 ^ h ≤ 2 ^ 8 := Nat.pow_le_pow_right (by omega) hh
  have hix := all_x h hh i hi
  have h2i : 2 ^ i ≤ 2 ^ 7 := Nat.pow_le_pow_right (by omega) (by omega)
  intro d
  induction d with
  | zero =>
    intro j hj A hC hS
    have hj : h = j := by omega
    subst hj
    refine bw_iload 115 dX10_invert_113 rfl rfl ?_
    refine bw_iload_n 116 dX10_invert_115 rfl rfl ?_
    refine bw_icmp_ge 171 119 dX10_invert_116 rfl rfl (fun c116 => ?_) (fun c116 => ?_)
    · exact bw_loc [(0, .ref M), (2, .int (nI h)), (3, .int (nI (2 ^ h - 1))), (4, .int (nI (mnv hG.2.2.1 D h (2 ^ h - 1) (2 ^ h - 1)))), (5, .int (nI m)), (6, .int (nI i))] ⟨rfl, rfl, rfl, rfl, rfl, rfl, trivial⟩ (kk A hC hS)
    · exact absurd (Int32.le_refl _) c116
  | succ d ih =>
    intro j hj A hC hS
    have hjx := all_x h hh j (by omega)
    have h2j : 2 ^ j ≤ 2 ^ 7 := Nat.pow_le_pow_right (by omega) (by omega)
    refine bw_iload 115 dX10_invert_113 rfl rfl ?_
    refine bw_iload_n 116 dX10_invert_115 rfl rfl ?_
    refine bw_icmp_ge 171 119 dX10_invert_116 rfl rfl (fun c116 => ?_) (fun c116 => ?_)
    · exact absurd c116 (nI_ge (by omega) (by omega))
    · skip
      refine bw_aload_n 120 dX10_invert_119 rfl rfl ?_
      refine bw_get 123 dX10_invert_120 rfl lX10_23 (hC.at 0 rfl) rfl ?_
      refine bw_aload_n 124 dX10_invert_123 rfl rfl ?_
      refine bw_iload 126 dX10_invert_124 rfl rfl ?_
      refine bw_iload 128 dX10_invert_126 rfl rfl ?_
      refine bw_iload 130 dX10_invert_128 rfl rfl ?_
      refine bw_cVi 133 dX10_invert_130 rfl vX10_140 (m_at g) (hC.at 0 rfl) rfl rfl (Nat.le_of_ble_eq_true rfl) ⟨(Nat.le_of_ble_eq_true rfl), (Nat.le_of_ble_eq_true rfl)⟩ (Nat.le_of_ble_eq_true rfl) (Nat.le_of_ble_eq_true rfl) ?_
      refine bw_aload_n 134 dX10_invert_133 rfl rfl ?_
      refine bw_aload_n 135 dX10_invert_134 rfl rfl ?_
      refine bw_iload 137 dX10_invert_135 rfl rfl ?_
      refine bw_cVi 140 dX10_invert_137 rfl vX10_121 (m_inverse g hG (hC.sub [0] (by decide) rfl) (mnv_lt hG.2.2.1 _ _ _ _)) (hC.at 0 rfl) rfl rfl (Nat.le_of_ble_eq_true rfl) ⟨(Nat.le_of_ble_eq_true rfl), (Nat.le_of_ble_eq_true rfl)⟩ (Nat.le_of_ble_eq_true rfl) (Nat.le_of_ble_eq_true rfl) ?_
      refine bw_aload_n 141 dX10_invert_140 rfl rfl ?_
      refine bw_get 144 dX10_invert_141 rfl lX10_27 (hC.at 0 rfl) rfl ?_
      refine bw_iload_n 145 dX10_invert_144 rfl rfl ?_
      refine bw_iconst (1) 146 dX10_invert_145 (by decide) rfl ?_
      refine bw_eqi (y := nI 1) rfl ?_
      refine bw_iload 148 dX10_invert_146 rfl rfl ?_
      refine bw_ishl 149 dX10_invert_148 rfl ?_
      refine bw_eqi ((xn_shl (a := 1) j (by omega) (by omega)).trans (by rw [Nat.one_mul])) ?_
      refine bw_ixor 150 dX10_invert_149 rfl ?_
      refine bw_eqi (xn_xor (2 ^ h - 1) (2 ^ j)) ?_
      refine bw_bipush (8) 152 dX10_invert_150 (by decide) rfl ?_
      refine bw_eqi (y := nI 8) rfl ?_
      refine bw_ishl 153 dX10_invert_152 rfl ?_
      refine bw_eqi (xn_shl 8 (by omega) (by omega)) ?_
      refine bw_iload_n 154 dX10_invert_153 rfl rfl ?_
      refine bw_iconst (1) 155 dX10_invert_154 (by decide) rfl ?_
      refine bw_eqi (y := nI 1) rfl ?_
      refine bw_iload 157 dX10_invert_155 rfl rfl ?_
      refine bw_ishl 158 dX10_invert_157 rfl ?_
      refine bw_eqi ((xn_shl (a := 1) i (by omega) (by omega)).trans (by rw [Nat.one_mul])) ?_
      refine bw_ixor 159 dX10_invert_158 rfl ?_
      refine bw_eqi (xn_xor (2 ^ h - 1) (2 ^ i)) ?_
      refine bw_ior 160 dX10_invert_159 rfl ?_
      refine bw_eqi ((xn_or _ _).trans (by rw [or256 (by omega)])) ?_
      refine bw_ialdN 161 dX10_invert_160 rfl (hC.at 4 rfl) (by omega) (by omega) ?_
      refine bw_eqi (congrArg nI (hV ((2 ^ h - 1) ^^^ 2 ^ j) ((2 ^ h - 1) ^^^ 2 ^ i) (Or.inl ⟨hjx, hix⟩))) ?_
      refine bw_cVi 164 dX10_invert_161 rfl vX10_102 (m_mul g hG (hC.sub [0] (by decide) rfl) (ginv_lt hG _) (mnv_lt hG.2.2.1 _ _ _ _)) (hC.at 0 rfl) rfl rfl (Nat.le_of_ble_eq_true rfl) ⟨(Nat.le_of_ble_eq_true rfl), (Nat.le_of_ble_eq_true rfl)⟩ (Nat.le_of_ble_eq_true rfl) (Nat.le_of_ble_eq_true rfl) ?_
      refine bw_iastN 165 dX10_invert_164 rfl (hC.at 3 rfl) (by omega) (by omega) (G := gfl B m (giv hG.2.2.1 D h) h i (j + 1)) (gfl_s (v := giv hG.2.2.1 D h) (i := i) (j := j) (by omega) (by omega)) (fun A hU => ?_)
      have hC := hC.upd 3 rfl hU
      have hS := hS.upd hU (by simp)
      clear hU
      refine bw_iincN (1) 168 dX10_invert_165 rfl rfl (by decide) (by decide) ?_
      refine bw_goto 113 dX10_invert_168 rfl ?_
      refine bw_loc _ ?_ (ih (j + 1) (by omega) A hC hS)
      exact ⟨rfl, rfl, rfl, rfl, rfl, rfl, congrArg (fun x => some (Value.int x)) (nI_1 ( j )), trivial⟩
set_option maxHeartbeats 4000000 in
theorem m_invert_i (g : bw_G) {A0 : bw_H} {M n p gg rn mn pn rd rs pt sn h m : Nat} {rr cc B V : Nat → Nat} {D : Nat → Nat → Nat} {Q : bw_O → bw_H → Prop} (hG : GFg n p gg) (hh : h ≤ 8) (hm : m < 40) (hV : mnI hG.2.2.1 D h (2 ^ h) 0 V)
    (hQ : ∀ A : bw_H, bw_has A ((M, mdo M n p gg 0 rn mn pn rd rs pt sn) :: (mmc g M rr cc (gfl B m (giv hG.2.2.1 D h) h h 0) ++ [(M + 5, bw_an g 65536 V)])) → bw_sm (M :: (M + 5) :: mml M) A0 A → Q (.inl (some (.int (nI m)))) A) :
    ∀ (d i : Nat), i + d = h → ∀ A : bw_H, bw_has A ((M, mdo M n p gg 0 rn mn pn rd rs pt sn) :: (mmc g M rr cc (gfl B m (giv hG.2.2.1 D h) h i 0) ++ [(M + 5, bw_an g 65536 V)])) → bw_sm (M :: (M + 5) :: mml M) A0 A →
      bw_W g (bw_rm 8 0 0) mX10_invert Q 0 0 104 [(0, .ref M), (2, .int (nI h)), (3, .int (nI (2 ^ h - 1))), (4, .int (nI (mnv hG.2.2.1 D h (2 ^ h - 1) (2 ^ h - 1)))), (5, .int (nI m)), (6, .int (nI i))] [] A := by
  intro d
  induction d with
  | zero =>
    intro i hi A hC hS
    have hi : h = i := by omega
    subst hi
    refine bw_iload 106 dX10_invert_104 rfl rfl ?_
    refine bw_iload_n 107 dX10_invert_106 rfl rfl ?_
    refine bw_icmp_ge 177 110 dX10_invert_107 rfl rfl (fun c107 => ?_) (fun c107 => ?_)
    · refine bw_iload 179 dX10_invert_177 rfl rfl ?_
      refine bw_iret dX10_invert_179 rfl (Nat.le_of_ble_eq_true rfl) (Nat.le_of_ble_eq_true rfl) ?_
      exact hQ A hC hS
    · exact absurd (Int32.le_refl _) c107
  | succ d ih =>
    intro i hi A hC hS
    refine bw_iload 106 dX10_invert_104 rfl rfl ?_
    refine bw_iload_n 107 dX10_invert_106 rfl rfl ?_
    refine bw_icmp_ge 177 110 dX10_invert_107 rfl rfl (fun c107 => ?_) (fun c107 => ?_)
    · exact absurd c107 (nI_ge (by omega) (by omega))
    · skip
      refine bw_iconst (0) 111 dX10_invert_110 (by decide) rfl ?_
      refine bw_eqi (y := nI 0) rfl ?_
      refine bw_istore 113 dX10_invert_111 rfl (by decide) ?_
      refine bw_loc _ ?_ (m_invert_j g hG hh (show i < h by omega) hm hV (fun A hC hS => ?_) h 0 (by omega) A hC hS)
      · exact ⟨rfl, rfl, rfl, rfl, rfl, rfl, rfl, trivial⟩
      refine bw_iincN (1) 174 dX10_invert_171 rfl rfl (by decide) (by decide) ?_
      refine bw_goto 104 dX10_invert_174 rfl ?_
      refine bw_loc _ ?_ (ih (i + 1) (by omega) A (by rw [← gfl_r]; exact hC) hS)
      exact ⟨rfl, rfl, rfl, rfl, rfl, congrArg (fun x => some (Value.int x)) (nI_1 ( i )), trivial⟩
/-- what invert leaves -/
def mvP (g : bw_G) {n q : Nat} (hG : GFp n q) (M m mn h : Nat) (e e' : va_E) (rr cc C : Nat → Nat) (A0 : bw_H) (y : Int32) (A' : bw_H) : Prop :=
  bw_sm (M :: (M + 5) :: mml M) A0 A' ∧ ((mnv hG (mcf C m) h (2 ^ h - 1) (2 ^ h - 1) = 0 ∧ y = -1 ∧ ∃ V, bw_has A' ((M, e) :: (mmc g M rr cc C ++ [(M + 5, bw_an g 65536 V)]))) ∨ (mnv hG (mcf C m) h (2 ^ h - 1) (2 ^ h - 1) ≠ 0 ∧ y = nI mn ∧ ∃ V, bw_has A' ((M, e') :: (mmc g M (fun i => if i = mn then h else rr i) (fun i => if i = mn then h else cc i) (gfl (gzm C mn 64) mn (giv hG (mcf C m) h) h h 0) ++ [(M + 5, bw_an g 65536 V)]))))
set_option maxHeartbeats 4000000 in
theorem m_invert (g : bw_G) {A : bw_H} {M n p gg th rn mn pn rd rs pt sn m : Nat} {rr cc C V0 : Nat → Nat} (hG : GFg n p gg) (hC : bw_has A ((M, mdo M n p gg th rn mn pn rd rs pt sn) :: (mmc g M rr cc C ++ [(M + 5, bw_an g 65536 V0)]))) (hCl : ∀ i, C i < 2 ^ n) (hm : mn < 40) (hk : m < mn) (hr : rr m ≤ 8) (hsq : rr m = cc m) : bw_C g (bw_rm 8 0 0) mX10_invert [.ref M, .int (nI m)] A (bw_pm (mvP g hG.2.2.1 M m mn (rr m) (mdo M n p gg 0 rn mn pn rd rs pt sn) (mdo M n p gg 0 rn (mn + 1) pn rd rs pt sn) rr cc C A)) := by
  have h256 : 2 ^ rr m ≤ 2 ^ 8 := Nat.pow_le_pow_right (by omega) hr
  have hp := Nat.two_pow_pos (rr m)
  have hS : bw_sm (M :: (M + 5) :: mml M) A A := bw_sm.rf
  refine bw_C.of (by decide) (Nat.le_of_ble_eq_true rfl) rfl ?_
  refine bw_aload_n 1 dX10_invert_0 rfl rfl ?_
  refine bw_iconst (0) 2 dX10_invert_1 (by decide) rfl ?_
  refine bw_eqi (y := nI 0) rfl ?_
  refine bw_putU 5 dX10_invert_2 rfl pX10_1 (hC.at 0 rfl) rfl rfl (Nat.le_of_ble_eq_true rfl) (fun A hU => ?_)
  have hC := hC.upd 0 rfl hU
  have hS := hS.upd hU (by simp)
  clear hU
  refine bw_aload_n 6 dX10_invert_5 rfl rfl ?_
  refine bw_iload_n 7 dX10_invert_6 rfl rfl ?_
  refine bw_cVi 10 dX10_invert_7 rfl vX10_144 (m_isMatrix g (hC.sub [0] (by decide) rfl) (kI_nI (by omega) hk)) (hC.at 0 rfl) rfl rfl (Nat.le_of_ble_eq_true rfl) ⟨(Nat.le_of_ble_eq_true rfl), (Nat.le_of_ble_eq_true rfl)⟩ (Nat.le_of_ble_eq_true rfl) (Nat.le_of_ble_eq_true rfl) ?_
  refine bw_if_ne 19 13 dX10_invert_10 rfl rfl (fun c10 => ?_) (fun c10 => ?_)
  · refine bw_aload_n 20 dX10_invert_19 rfl rfl ?_
    refine bw_get 23 dX10_invert_20 rfl lX10_17 (hC.at 0 rfl) rfl ?_
    refine bw_iload_n 24 dX10_invert_23 rfl rfl ?_
    refine bw_ialdN 25 dX10_invert_24 rfl (hC.at 1 rfl) (by omega) (by omega) ?_
    refine bw_aload_n 26 dX10_invert_25 rfl rfl ?_
    refine bw_get 29 dX10_invert_26 rfl lX10_20 (hC.at 0 rfl) rfl ?_
    refine bw_iload_n 30 dX10_invert_29 rfl rfl ?_
    refine bw_ialdN 31 dX10_invert_30 rfl (hC.at 2 rfl) (by omega) (by omega) ?_
    refine bw_icmp_eq 40 34 dX10_invert_31 rfl rfl (fun c31 => ?_) (fun c31 => ?_)
    · refine bw_aload_n 41 dX10_invert_40 rfl rfl ?_
      refine bw_get 44 dX10_invert_41 rfl lX10_127 (hC.at 0 rfl) rfl ?_
      refine bw_bipush (40) 46 dX10_invert_44 (by decide) rfl ?_
      refine bw_eqi (y := nI 40) rfl ?_
      refine bw_icmp_ne 55 49 dX10_invert_46 rfl rfl (fun c46 => ?_) (fun c46 => ?_)
      · refine bw_aload_n 56 dX10_invert_55 rfl rfl ?_
        refine bw_iload_n 57 dX10_invert_56 rfl rfl ?_
        refine bw_cVv 60 dX10_invert_57 rfl vX10_154 (m_minors g hG hC hCl (by omega) hr (by omega) rfl hsq.symm) (hC.at 0 rfl) rfl rfl (Nat.le_of_ble_eq_true rfl) ⟨(Nat.le_of_ble_eq_true rfl), (Nat.le_of_ble_eq_true rfl)⟩ (Nat.le_of_ble_eq_true rfl) (Nat.le_of_ble_eq_true rfl) (fun A hP => ?_)
        obtain ⟨V, hV, hs1, hC⟩ := hP
        have hS := hS.trans hs1 (by simp)
        refine bw_aload_n 61 dX10_invert_60 rfl rfl ?_
        refine bw_get 64 dX10_invert_61 rfl lX10_17 (hC.at 0 rfl) rfl ?_
        refine bw_iload_n 65 dX10_invert_64 rfl rfl ?_
        refine bw_ialdN 66 dX10_invert_65 rfl (hC.at 1 rfl) (by omega) (by omega) ?_
        refine bw_istore_n 67 dX10_invert_66 rfl (by decide) ?_
        refine bw_iconst (1) 68 dX10_invert_67 (by decide) rfl ?_
        refine bw_eqi (y := nI 1) rfl ?_
        refine bw_iload_n 69 dX10_invert_68 rfl rfl ?_
        refine bw_ishl 70 dX10_invert_69 rfl ?_
        refine bw_eqi ((xn_shl (a := 1) (rr m) (by omega) (by omega)).trans (by rw [Nat.one_mul])) ?_
        refine bw_iconst (1) 71 dX10_invert_70 (by decide) rfl ?_
        refine bw_isub 72 dX10_invert_71 rfl ?_
        refine bw_eqi ((tI_sub (2 ^ rr m)).trans (tI_p (by omega))) ?_
        refine bw_istore_n 73 dX10_invert_72 rfl (by decide) ?_
        refine bw_aload_n 74 dX10_invert_73 rfl rfl ?_
        refine bw_get 77 dX10_invert_74 rfl lX10_27 (hC.at 0 rfl) rfl ?_
        refine bw_iload_n 78 dX10_invert_77 rfl rfl ?_
        refine bw_bipush (8) 80 dX10_invert_78 (by decide) rfl ?_
        refine bw_eqi (y := nI 8) rfl ?_
        refine bw_ishl 81 dX10_invert_80 rfl ?_
        refine bw_eqi (xn_shl 8 (by omega) (by omega)) ?_
        refine bw_iload_n 82 dX10_invert_81 rfl rfl ?_
        refine bw_ior 83 dX10_invert_82 rfl ?_
        refine bw_eqi ((xn_or _ _).trans (by rw [or256 (by omega)])) ?_
        refine bw_ialdN 84 dX10_invert_83 rfl (hC.at 4 rfl) (by omega) (by omega) ?_
        refine bw_eqi (congrArg nI (hV (2 ^ rr m - 1) (2 ^ rr m - 1) (Or.inl ⟨by omega, by omega⟩))) ?_
        refine bw_istore 86 dX10_invert_84 rfl (by decide) ?_
        refine bw_iload 88 dX10_invert_86 rfl rfl ?_
        refine bw_if_ne 93 91 dX10_invert_88 rfl rfl (fun c88 => ?_) (fun c88 => ?_)
        · have h0 : mnv hG.2.2.1 (mcf C m) (rr m) (2 ^ rr m - 1) (2 ^ rr m - 1) ≠ 0 := fun h => c88 (by rw [h]; rfl)
          refine bw_aload_n 94 dX10_invert_93 rfl rfl ?_
          refine bw_iload_n 95 dX10_invert_94 rfl rfl ?_
          refine bw_iload_n 96 dX10_invert_95 rfl rfl ?_
          refine bw_cVm 99 dX10_invert_96 rfl vX10_133 (m_made g (hC.sub [0, 1, 2, 3] (by decide) rfl) hm) (hC.at 0 rfl) rfl rfl (Nat.le_of_ble_eq_true rfl) ⟨(Nat.le_of_ble_eq_true rfl), (Nat.le_of_ble_eq_true rfl)⟩ (Nat.le_of_ble_eq_true rfl) (Nat.le_of_ble_eq_true rfl) (fun x A hP => ?_)
          obtain ⟨⟨h4, h5, h6⟩, h7⟩ := hP
          subst h4
          have hMI := (hC.sub [4] (by decide) rfl).frm h5 (by simp <;> omega)
          have hS := hS.trans h5 (by simp <;> omega)
          refine bw_istore 101 dX10_invert_99 rfl (by decide) ?_
          refine bw_iconst (0) 102 dX10_invert_101 (by decide) rfl ?_
          refine bw_eqi (y := nI 0) rfl ?_
          refine bw_istore 104 dX10_invert_102 rfl (by decide) ?_
          refine bw_loc _ ?_ (m_invert_i g hG hr hm hV (fun A hC hS => ⟨_, rfl, hS, Or.inr ⟨h0, rfl, V, hC⟩⟩) (rr m) 0 (by omega) A (by rw [gfl_0]; exact (bw_has.one h6).ap (h7.ap hMI (by simp <;> omega)) (by simp <;> omega)) hS)
          exact ⟨rfl, rfl, rfl, rfl, rfl, rfl, trivial⟩
        · have h0 : mnv hG.2.2.1 (mcf C m) (rr m) (2 ^ rr m - 1) (2 ^ rr m - 1) = 0 := (xn_eq0 (by have := mnv_lt hG.2.2.1 (mcf C m) (rr m) (2 ^ rr m - 1) (2 ^ rr m - 1); have := hG.p16; omega)).mp c88
          refine bw_iconst (-1) 92 dX10_invert_91 (by decide) rfl ?_
          refine bw_iret dX10_invert_92 rfl (Nat.le_of_ble_eq_true rfl) (Nat.le_of_ble_eq_true rfl) ?_
          exact ⟨_, rfl, hS, Or.inl ⟨h0, rfl, V, hC⟩⟩
      · exact absurd ((nI_eq (b := 40) (by omega) (by omega)).mp c46) (by omega)
    · exact absurd (by rw [hsq]) c31
  · exact absurd c10 (by decide)
theorem m_invertZ (g : bw_G) {A : bw_H} {M n p gg th rn pn rd rs pt sn m : Nat} {rr cc : Nat → Nat} (hC : bw_has A [(M, mdo M n p gg th rn 40 pn rd rs pt sn), (M + 2, bw_an g 40 rr), (M + 3, bw_an g 40 cc)]) (hk : m < 40) (hsq : rr m = cc m) : bw_C g (bw_rm 8 0 0) mX10_invert [.ref M, .int (nI m)] A (bw_pm (maR M [] (mdo M n p gg 3 rn 40 pn rd rs pt sn) (nI 0) A)) := by
  have hS : bw_sm [M] A A := bw_sm.rf
  refine bw_C.of (by decide) (Nat.le_of_ble_eq_true rfl) rfl ?_
  refine bw_aload_n 1 dX10_invert_0 rfl rfl ?_
  refine bw_iconst (0) 2 dX10_invert_1 (by decide) rfl ?_
  refine bw_eqi (y := nI 0) rfl ?_
  refine bw_putU 5 dX10_invert_2 rfl pX10_1 (hC.at 0 rfl) rfl rfl (Nat.le_of_ble_eq_true rfl) (fun A hU => ?_)
  have hC := hC.upd 0 rfl hU
  have hS := hS.upd hU (by simp)
  clear hU
  refine bw_aload_n 6 dX10_invert_5 rfl rfl ?_
  refine bw_iload_n 7 dX10_invert_6 rfl rfl ?_
  refine bw_cVi 10 dX10_invert_7 rfl vX10_144 (m_isMatrix g (hC.sub [0] (by decide) rfl) (kI_nI (by omega) hk)) (hC.at 0 rfl) rfl rfl (Nat.le_of_ble_eq_true rfl) ⟨(Nat.le_of_ble_eq_true rfl), (Nat.le_of_ble_eq_true rfl)⟩ (Nat.le_of_ble_eq_true rfl) (Nat.le_of_ble_eq_true rfl) ?_
  refine bw_if_ne 19 13 dX10_invert_10 rfl rfl (fun c10 => ?_) (fun c10 => ?_)
  · refine bw_aload_n 20 dX10_invert_19 rfl rfl ?_
    refine bw_get 23 dX10_invert_20 rfl lX10_17 (hC.at 0 rfl) rfl ?_
    refine bw_iload_n 24 dX10_invert_23 rfl rfl ?_
    refine bw_ialdN 25 dX10_invert_24 rfl (hC.at 1 rfl) (by omega) (by omega) ?_
    refine bw_aload_n 26 dX10_invert_25 rfl rfl ?_
    refine bw_get 29 dX10_invert_26 rfl lX10_20 (hC.at 0 rfl) rfl ?_
    refine bw_iload_n 30 dX10_invert_29 rfl rfl ?_
    refine bw_ialdN 31 dX10_invert_30 rfl (hC.at 2 rfl) (by omega) (by omega) ?_
    refine bw_icmp_eq 40 34 dX10_invert_31 rfl rfl (fun c31 => ?_) (fun c31 => ?_)
    · refine bw_aload_n 41 dX10_invert_40 rfl rfl ?_
      refine bw_get 44 dX10_invert_41 rfl lX10_127 (hC.at 0 rfl) rfl ?_
      refine bw_bipush (40) 46 dX10_invert_44 (by decide) rfl ?_
      refine bw_eqi (y := nI 40) rfl ?_
      refine bw_icmp_ne 55 49 dX10_invert_46 rfl rfl (fun c46 => ?_) (fun c46 => ?_)
      · exact absurd rfl c46
      · refine bw_aload_n 50 dX10_invert_49 rfl rfl ?_
        refine bw_iconst (3) 51 dX10_invert_50 (by decide) rfl ?_
        refine bw_eqi (y := nI 3) rfl ?_
        refine bw_cVm 54 dX10_invert_51 rfl vX10_118 (m_fail g (hC.sub [0] (by decide) rfl)) (hC.at 0 rfl) rfl rfl (Nat.le_of_ble_eq_true rfl) ⟨(Nat.le_of_ble_eq_true rfl), (Nat.le_of_ble_eq_true rfl)⟩ (Nat.le_of_ble_eq_true rfl) (Nat.le_of_ble_eq_true rfl) (fun x A hP => ?_)
        obtain ⟨h4, h5⟩ := hP
        subst h4
        have hC := hC.upd 0 rfl h5
        have hS := hS.upd h5 (by simp)
        refine bw_iret dX10_invert_54 rfl (Nat.le_of_ble_eq_true rfl) (Nat.le_of_ble_eq_true rfl) ?_
        exact ⟨_, rfl, rfl, hS, hC.at 0 rfl⟩
    · exact absurd (by rw [hsq]) c31
  · exact absurd c10 (by decide)
theorem m_invertY (g : bw_G) {A : bw_H} {M n p gg th rn mn pn rd rs pt sn m : Nat} {rr cc : Nat → Nat} (hC : bw_has A [(M, mdo M n p gg th rn mn pn rd rs pt sn), (M + 2, bw_an g 40 rr), (M + 3, bw_an g 40 cc)]) (hm : mn ≤ 40) (hk : m < mn) (hr : rr m ≤ 8) (hc : cc m ≤ 8) (h : rr m ≠ cc m) : bw_C g (bw_rm 8 0 0) mX10_invert [.ref M, .int (nI m)] A (bw_pm (maR M [] (mdo M n p gg 2 rn mn pn rd rs pt sn) (nI 0) A)) := by
  have hS : bw_sm [M] A A := bw_sm.rf
  refine bw_C.of (by decide) (Nat.le_of_ble_eq_true rfl) rfl ?_
  refine bw_aload_n 1 dX10_invert_0 rfl rfl ?_
  refine bw_iconst (0) 2 dX10_invert_1 (by decide) rfl ?_
  refine bw_eqi (y := nI 0) rfl ?_
  refine bw_putU 5 dX10_invert_2 rfl pX10_1 (hC.at 0 rfl) rfl rfl (Nat.le_of_ble_eq_true rfl) (fun A hU => ?_)
  have hC := hC.upd 0 rfl hU
  have hS := hS.upd hU (by simp)
  clear hU
  refine bw_aload_n 6 dX10_invert_5 rfl rfl ?_
  refine bw_iload_n 7 dX10_invert_6 rfl rfl ?_
  refine bw_cVi 10 dX10_invert_7 rfl vX10_144 (m_isMatrix g (hC.sub [0] (by decide) rfl) (kI_nI (by omega) hk)) (hC.at 0 rfl) rfl rfl (Nat.le_of_ble_eq_true rfl) ⟨(Nat.le_of_ble_eq_true rfl), (Nat.le_of_ble_eq_true rfl)⟩ (Nat.le_of_ble_eq_true rfl) (Nat.le_of_ble_eq_true rfl) ?_
  refine bw_if_ne 19 13 dX10_invert_10 rfl rfl (fun c10 => ?_) (fun c10 => ?_)
  · refine bw_aload_n 20 dX10_invert_19 rfl rfl ?_
    refine bw_get 23 dX10_invert_20 rfl lX10_17 (hC.at 0 rfl) rfl ?_
    refine bw_iload_n 24 dX10_invert_23 rfl rfl ?_
    refine bw_ialdN 25 dX10_invert_24 rfl (hC.at 1 rfl) (by omega) (by omega) ?_
    refine bw_aload_n 26 dX10_invert_25 rfl rfl ?_
    refine bw_get 29 dX10_invert_26 rfl lX10_20 (hC.at 0 rfl) rfl ?_
    refine bw_iload_n 30 dX10_invert_29 rfl rfl ?_
    refine bw_ialdN 31 dX10_invert_30 rfl (hC.at 2 rfl) (by omega) (by omega) ?_
    refine bw_icmp_eq 40 34 dX10_invert_31 rfl rfl (fun c31 => ?_) (fun c31 => ?_)
    · exact absurd ((nI_eq (by omega) (by omega)).mp c31) h
    · skip
      refine bw_aload_n 35 dX10_invert_34 rfl rfl ?_
      refine bw_iconst (2) 36 dX10_invert_35 (by decide) rfl ?_
      refine bw_eqi (y := nI 2) rfl ?_
      refine bw_cVm 39 dX10_invert_36 rfl vX10_118 (m_fail g (hC.sub [0] (by decide) rfl)) (hC.at 0 rfl) rfl rfl (Nat.le_of_ble_eq_true rfl) ⟨(Nat.le_of_ble_eq_true rfl), (Nat.le_of_ble_eq_true rfl)⟩ (Nat.le_of_ble_eq_true rfl) (Nat.le_of_ble_eq_true rfl) (fun x A hP => ?_)
      obtain ⟨h4, h5⟩ := hP
      subst h4
      have hC := hC.upd 0 rfl h5
      have hS := hS.upd h5 (by simp)
      refine bw_iret dX10_invert_39 rfl (Nat.le_of_ble_eq_true rfl) (Nat.le_of_ble_eq_true rfl) ?_
      exact ⟨_, rfl, rfl, hS, hC.at 0 rfl⟩
  · exact absurd c10 (by decide)
theorem m_invertX (g : bw_G) {A : bw_H} {M n p gg th rn mn pn rd rs pt sn : Nat} {a : Int32} (hC : bw_has A [(M, mdo M n p gg th rn mn pn rd rs pt sn)]) (h : ¬ kI mn a) : bw_C g (bw_rm 8 0 0) mX10_invert [.ref M, .int a] A (bw_pm (maR M [] (mdo M n p gg 1 rn mn pn rd rs pt sn) (nI 0) A)) := by
  have hS : bw_sm [M] A A := bw_sm.rf
  refine bw_C.of (by decide) (Nat.le_of_ble_eq_true rfl) rfl ?_
  refine bw_aload_n 1 dX10_invert_0 rfl rfl ?_
  refine bw_iconst (0) 2 dX10_invert_1 (by decide) rfl ?_
  refine bw_eqi (y := nI 0) rfl ?_
  refine bw_putU 5 dX10_invert_2 rfl pX10_1 (hC.at 0 rfl) rfl rfl (Nat.le_of_ble_eq_true rfl) (fun A hU => ?_)
  have hC := hC.upd 0 rfl hU
  have hS := hS.upd hU (by simp)
  clear hU
  refine bw_aload_n 6 dX10_invert_5 rfl rfl ?_
  refine bw_iload_n 7 dX10_invert_6 rfl rfl ?_
  refine bw_cVi 10 dX10_invert_7 rfl vX10_144 (m_isMatrixX g hC h) (hC.at 0 rfl) rfl rfl (Nat.le_of_ble_eq_true rfl) ⟨(Nat.le_of_ble_eq_true rfl), (Nat.le_of_ble_eq_true rfl)⟩ (Nat.le_of_ble_eq_true rfl) (Nat.le_of_ble_eq_true rfl) ?_
  refine bw_if_ne 19 13 dX10_invert_10 rfl rfl (fun c10 => ?_) (fun c10 => ?_)
  · exact absurd rfl c10
  · refine bw_aload_n 14 dX10_invert_13 rfl rfl ?_
    refine bw_iconst (1) 15 dX10_invert_14 (by decide) rfl ?_
    refine bw_eqi (y := nI 1) rfl ?_
    refine bw_cVm 18 dX10_invert_15 rfl vX10_118 (m_fail g hC) (hC.at 0 rfl) rfl rfl (Nat.le_of_ble_eq_true rfl) ⟨(Nat.le_of_ble_eq_true rfl), (Nat.le_of_ble_eq_true rfl)⟩ (Nat.le_of_ble_eq_true rfl) (Nat.le_of_ble_eq_true rfl) (fun x A hP => ?_)
    obtain ⟨h4, h5⟩ := hP
    subst h4
    have hC := hC.upd 0 rfl h5
    have hS := hS.upd h5 (by simp)
    refine bw_iret dX10_invert_18 rfl (Nat.le_of_ble_eq_true rfl) (Nat.le_of_ble_eq_true rfl) ?_
    exact ⟨_, rfl, rfl, hS, hC.at 0 rfl⟩
