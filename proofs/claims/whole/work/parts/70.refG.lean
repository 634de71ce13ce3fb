/-! the reference: times -/
theorem gzm_no {C : Nat → Nat} {m k t : Nat} (h : t < 64 * m ∨ 64 * m + k ≤ t) : gzm C m k t = C t := by
  unfold gzm
  rw [if_neg (by omega)]
/-- a product's cell -/
def gtv (n q : Nat) (B : Nat → Nat) (a b lc i j : Nat) : Nat := gdt n q (fun k => B (64 * a + 8 * i + k)) (fun k => B (64 * b + 8 * k + j)) lc
set_option maxHeartbeats 4000000 in
theorem m_times_in (g : bw_G) {A : bw_H} {M n p gg rn mn pn rd rs pt sn a b lc i j m : Nat} {rr cc B V : Nat → Nat} {Q : bw_O → bw_H → Prop} (hG : GFg n p gg) (hB : ∀ i, B i < 2 ^ n) (hVa : ∀ t, t < 64 * m → V t = B t) (hlc : lc ≤ 8) (hi : i < 8) (hj : j < 8) (ha : a < m) (hb : b < m) (hm : m < 40) (hca : cc a = lc) (hC : bw_has A ((M, mdo M n p gg 0 rn mn pn rd rs pt sn) :: mmc g M rr cc V))
    (kk : bw_W g (bw_rm 8 0 0) mX10_times Q 0 0 168 [(0, .ref M), (1, .int (nI a)), (2, .int (nI b)), (3, .int (nI m)), (4, .int (nI i)), (5, .int (nI j)), (6, .int (nI (gtv n (2 ^ n ||| p) B a b lc i j)))] [] A) :
    ∀ (d k : Nat), k + d = lc → bw_W g (bw_rm 8 0 0) mX10_times Q 0 0 114 [(0, .ref M), (1, .int (nI a)), (2, .int (nI b)), (3, .int (nI m)), (4, .int (nI i)), (5, .int (nI j)), (6, .int (nI (gtv n (2 ^ n ||| p) B a b k i j))), (7, .int (nI k))] [] A := by
  intro d
  induction d with
  | zero =>
    intro k hk
    have hk : lc = k := by omega
    subst hk
    refine bw_iload 116 dX10_times_114 rfl rfl ?_
    refine bw_aload_n 117 dX10_times_116 rfl rfl ?_
    refine bw_get 120 dX10_times_117 rfl lX10_20 (hC.at 0 rfl) rfl ?_
    refine bw_iload_n 121 dX10_times_120 rfl rfl ?_
    refine bw_ialdN 122 dX10_times_121 rfl (hC.at 2 rfl) (by omega) (by omega) ?_
    refine bw_eqi (congrArg nI hca) ?_
    refine bw_icmp_ge 168 125 dX10_times_122 rfl rfl (fun c122 => ?_) (fun c122 => ?_)
    · exact bw_loc [(0, .ref M), (1, .int (nI a)), (2, .int (nI b)), (3, .int (nI m)), (4, .int (nI i)), (5, .int (nI j)), (6, .int (nI (gtv n (2 ^ n ||| p) B a b lc i j)))] ⟨rfl, rfl, rfl, rfl, rfl, rfl, rfl, trivial⟩ kk
    · exact absurd (Int32.le_refl _) c122
  | succ d ih =>
    intro k hk
    have e1 : V (64 * a + 8 * i + k) = B (64 * a + 8 * i + k) := hVa _ (by omega)
    have e2 : V (64 * b + 8 * k + j) = B (64 * b + 8 * k + j) := hVa _ (by omega)
    refine bw_iload 116 dX10_times_114 rfl rfl ?_
    refine bw_aload_n 117 dX10_times_116 rfl rfl ?_
    refine bw_get 120 dX10_times_117 rfl lX10_20 (hC.at 0 rfl) rfl ?_
    refine bw_iload_n 121 dX10_times_120 rfl rfl ?_
    refine bw_ialdN 122 dX10_times_121 rfl (hC.at 2 rfl) (by omega) (by omega) ?_
    refine bw_eqi (congrArg nI hca) ?_
    refine bw_icmp_ge 168 125 dX10_times_122 rfl rfl (fun c122 => ?_) (fun c122 => ?_)
    · exact absurd c122 (nI_ge (by omega) (by omega))
    · skip
      refine bw_iload 127 dX10_times_125 rfl rfl ?_
      refine bw_aload_n 128 dX10_times_127 rfl rfl ?_
      refine bw_aload_n 129 dX10_times_128 rfl rfl ?_
      refine bw_get 132 dX10_times_129 rfl lX10_23 (hC.at 0 rfl) rfl ?_
      refine bw_aload_n 133 dX10_times_132 rfl rfl ?_
      refine bw_iload_n 134 dX10_times_133 rfl rfl ?_
      refine bw_iload 136 dX10_times_134 rfl rfl ?_
      refine bw_iload 138 dX10_times_136 rfl rfl ?_
      refine bw_cVi 141 dX10_times_138 rfl vX10_140 (m_at g) (hC.at 0 rfl) rfl rfl (Nat.le_of_ble_eq_true rfl) ⟨(Nat.le_of_ble_eq_true rfl), (Nat.le_of_ble_eq_true rfl)⟩ (Nat.le_of_ble_eq_true rfl) (Nat.le_of_ble_eq_true rfl) ?_
      refine bw_ialdN 142 dX10_times_141 rfl (hC.at 3 rfl) (by omega) (by omega) ?_
      refine bw_eqi (congrArg nI e1) ?_
      refine bw_aload_n 143 dX10_times_142 rfl rfl ?_
      refine bw_get 146 dX10_times_143 rfl lX10_23 (hC.at 0 rfl) rfl ?_
      refine bw_aload_n 147 dX10_times_146 rfl rfl ?_
      refine bw_iload_n 148 dX10_times_147 rfl rfl ?_
      refine bw_iload 150 dX10_times_148 rfl rfl ?_
      refine bw_iload 152 dX10_times_150 rfl rfl ?_
      refine bw_cVi 155 dX10_times_152 rfl vX10_140 (m_at g) (hC.at 0 rfl) rfl rfl (Nat.le_of_ble_eq_true rfl) ⟨(Nat.le_of_ble_eq_true rfl), (Nat.le_of_ble_eq_true rfl)⟩ (Nat.le_of_ble_eq_true rfl) (Nat.le_of_ble_eq_true rfl) ?_
      refine bw_ialdN 156 dX10_times_155 rfl (hC.at 3 rfl) (by omega) (by omega) ?_
      refine bw_eqi (congrArg nI e2) ?_
      refine bw_cVi 159 dX10_times_156 rfl vX10_102 (m_mul g hG (hC.sub [0] (by decide) rfl) (hB _) (hB _)) (hC.at 0 rfl) rfl rfl (Nat.le_of_ble_eq_true rfl) ⟨(Nat.le_of_ble_eq_true rfl), (Nat.le_of_ble_eq_true rfl)⟩ (Nat.le_of_ble_eq_true rfl) (Nat.le_of_ble_eq_true rfl) ?_
      refine bw_ixor 160 dX10_times_159 rfl ?_
      refine bw_eqi (xn_xor _ _) ?_
      refine bw_istore 162 dX10_times_160 rfl (by decide) ?_
      refine bw_iincN (1) 165 dX10_times_162 rfl rfl (by decide) (by decide) ?_
      refine bw_goto 114 dX10_times_165 rfl ?_
      refine bw_loc _ ?_ (ih (k + 1) (by omega))
      exact ⟨rfl, rfl, rfl, rfl, rfl, rfl, rfl, congrArg (fun x => some (Value.int x)) (nI_1 ( k )), trivial⟩
set_option maxHeartbeats 4000000 in
theorem m_times_mid (g : bw_G) {A0 : bw_H} {M n p gg rn mn pn rd rs pt sn a b lc rc i m : Nat} {rr cc B : Nat → Nat} {Q : bw_O → bw_H → Prop} (hG : GFg n p gg) (hB : ∀ i, B i < 2 ^ n) (hlc : lc ≤ 8) (hrc : rc ≤ 8) (hi : i < 8) (ha : a < m) (hb : b < m) (hm : m < 40) (hca : cc a = lc) (hcb : cc b = rc)
    (kk : ∀ A : bw_H, bw_has A ((M, mdo M n p gg 0 rn mn pn rd rs pt sn) :: mmc g M rr cc (gfl B m (gtv n (2 ^ n ||| p) B a b lc) rc i rc)) → bw_sm (M :: mml M) A0 A → bw_W g (bw_rm 8 0 0) mX10_times Q 0 0 190 [(0, .ref M), (1, .int (nI a)), (2, .int (nI b)), (3, .int (nI m)), (4, .int (nI i))] [] A) :
    ∀ (d j : Nat), j + d = rc → ∀ A : bw_H, bw_has A ((M, mdo M n p gg 0 rn mn pn rd rs pt sn) :: mmc g M rr cc (gfl B m (gtv n (2 ^ n ||| p) B a b lc) rc i j)) → bw_sm (M :: mml M) A0 A →
      bw_W g (bw_rm 8 0 0) mX10_times Q 0 0 97 [(0, .ref M), (1, .int (nI a)), (2, .int (nI b)), (3, .int (nI m)), (4, .int (nI i)), (5, .int (nI j))] [] A := by
  intro d
  induction d with
  | zero =>
    intro j hj A hC hS
    have hj : rc = j := by omega
    subst hj
    refine bw_iload 99 dX10_times_97 rfl rfl ?_
    refine bw_aload_n 100 dX10_times_99 rfl rfl ?_
    refine bw_get 103 dX10_times_100 rfl lX10_20 (hC.at 0 rfl) rfl ?_
    refine bw_iload_n 104 dX10_times_103 rfl rfl ?_
    refine bw_ialdN 105 dX10_times_104 rfl (hC.at 2 rfl) (by omega) (by omega) ?_
    refine bw_eqi (congrArg nI hcb) ?_
    refine bw_icmp_ge 190 108 dX10_times_105 rfl rfl (fun c105 => ?_) (fun c105 => ?_)
    · exact bw_loc [(0, .ref M), (1, .int (nI a)), (2, .int (nI b)), (3, .int (nI m)), (4, .int (nI i))] ⟨rfl, rfl, rfl, rfl, rfl, trivial⟩ (kk A hC hS)
    · exact absurd (Int32.le_refl _) c105
  | succ d ih =>
    intro j hj A hC hS
    refine bw_iload 99 dX10_times_97 rfl rfl ?_
    refine bw_aload_n 100 dX10_times_99 rfl rfl ?_
    refine bw_get 103 dX10_times_100 rfl lX10_20 (hC.at 0 rfl) rfl ?_
    refine bw_iload_n 104 dX10_times_103 rfl rfl ?_
    refine bw_ialdN 105 dX10_times_104 rfl (hC.at 2 rfl) (by omega) (by omega) ?_
    refine bw_eqi (congrArg nI hcb) ?_
    refine bw_icmp_ge 190 108 dX10_times_105 rfl rfl (fun c105 => ?_) (fun c105 => ?_)
    · exact absurd c105 (nI_ge (by omega) (by omega))
    · skip
      refine bw_iconst (0) 109 dX10_times_108 (by decide) rfl ?_
      refine bw_eqi (y := nI 0) rfl ?_
      refine bw_istore 111 dX10_times_109 rfl (by decide) ?_
      refine bw_iconst (0) 112 dX10_times_111 (by decide) rfl ?_
      refine bw_eqi (y := nI 0) rfl ?_
      refine bw_istore 114 dX10_times_112 rfl (by decide) ?_
      refine bw_loc _ ?_ (m_times_in g hG hB (fun t ht => gfl_no (Or.inl ht)) hlc hi (show j < 8 by omega) ha hb hm hca hC ?_ lc 0 (by omega))
      · exact ⟨rfl, rfl, rfl, rfl, rfl, rfl, rfl, rfl, trivial⟩
      refine bw_aload_n 169 dX10_times_168 rfl rfl ?_
      refine bw_get 172 dX10_times_169 rfl lX10_23 (hC.at 0 rfl) rfl ?_
      refine bw_aload_n 173 dX10_times_172 rfl rfl ?_
      refine bw_iload_n 174 dX10_times_173 rfl rfl ?_
      refine bw_iload 176 dX10_times_174 rfl rfl ?_
      refine bw_iload 178 dX10_times_176 rfl rfl ?_
      refine bw_cVi 181 dX10_times_178 rfl vX10_140 (m_at g) (hC.at 0 rfl) rfl rfl (Nat.le_of_ble_eq_true rfl) ⟨(Nat.le_of_ble_eq_true rfl), (Nat.le_of_ble_eq_true rfl)⟩ (Nat.le_of_ble_eq_true rfl) (Nat.le_of_ble_eq_true rfl) ?_
      refine bw_iload 183 dX10_times_181 rfl rfl ?_
      refine bw_iastN 184 dX10_times_183 rfl (hC.at 3 rfl) (by omega) (by omega) (G := gfl B m (gtv n (2 ^ n ||| p) B a b lc) rc i (j + 1)) (gfl_s (v := gtv n (2 ^ n ||| p) B a b lc) (i := i) (j := j) (by omega) (by omega)) (fun A hU => ?_)
      have hC := hC.upd 3 rfl hU
      have hS := hS.upd hU (by simp)
      clear hU
      refine bw_iincN (1) 187 dX10_times_184 rfl rfl (by decide) (by decide) ?_
      refine bw_goto 97 dX10_times_187 rfl ?_
      refine bw_loc _ ?_ (ih (j + 1) (by omega) A hC hS)
      exact ⟨rfl, rfl, rfl, rfl, rfl, congrArg (fun x => some (Value.int x)) (nI_1 ( j )), trivial⟩
set_option maxHeartbeats 4000000 in
theorem m_times_out (g : bw_G) {A0 : bw_H} {M n p gg rn mn pn rd rs pt sn a b lr lc rc m : Nat} {rr cc B : Nat → Nat} (hG : GFg n p gg) (hB : ∀ i, B i < 2 ^ n) (hlr : lr ≤ 8) (hlc : lc ≤ 8) (hrc : rc ≤ 8) (ha : a < m) (hb : b < m) (hm : m < 40) (hra : rr a = lr) (hca : cc a = lc) (hcb : cc b = rc) :
    ∀ (d i : Nat), i + d = lr → ∀ A : bw_H, bw_has A ((M, mdo M n p gg 0 rn mn pn rd rs pt sn) :: mmc g M rr cc (gfl B m (gtv n (2 ^ n ||| p) B a b lc) rc i 0)) → bw_sm (M :: mml M) A0 A →
      bw_W g (bw_rm 8 0 0) mX10_times (bw_pm (mdP g M (mdo M n p gg 0 rn mn pn rd rs pt sn) (nI m) rr cc (gfl B m (gtv n (2 ^ n ||| p) B a b lc) rc lr 0) A0)) 0 0 83 [(0, .ref M), (1, .int (nI a)), (2, .int (nI b)), (3, .int (nI m)), (4, .int (nI i))] [] A := by
  intro d
  induction d with
  | zero =>
    intro i hi A hC hS
    have hi : lr = i := by omega
    subst hi
    refine bw_iload 85 dX10_times_83 rfl rfl ?_
    refine bw_aload_n 86 dX10_times_85 rfl rfl ?_
    refine bw_get 89 dX10_times_86 rfl lX10_17 (hC.at 0 rfl) rfl ?_
    refine bw_iload_n 90 dX10_times_89 rfl rfl ?_
    refine bw_ialdN 91 dX10_times_90 rfl (hC.at 1 rfl) (by omega) (by omega) ?_
    refine bw_eqi (congrArg nI hra) ?_
    refine bw_icmp_ge 196 94 dX10_times_91 rfl rfl (fun c91 => ?_) (fun c91 => ?_)
    · refine bw_iload_n 197 dX10_times_196 rfl rfl ?_
      refine bw_iret dX10_times_197 rfl (Nat.le_of_ble_eq_true rfl) (Nat.le_of_ble_eq_true rfl) ?_
      exact ⟨_, rfl, ⟨rfl, hS, hC.at 0 rfl⟩, hC.sub [1, 2, 3] (by decide) rfl⟩
    · exact absurd (Int32.le_refl _) c91
  | succ d ih =>
    intro i hi A hC hS
    refine bw_iload 85 dX10_times_83 rfl rfl ?_
    refine bw_aload_n 86 dX10_times_85 rfl rfl ?_
    refine bw_get 89 dX10_times_86 rfl lX10_17 (hC.at 0 rfl) rfl ?_
    refine bw_iload_n 90 dX10_times_89 rfl rfl ?_
    refine bw_ialdN 91 dX10_times_90 rfl (hC.at 1 rfl) (by omega) (by omega) ?_
    refine bw_eqi (congrArg nI hra) ?_
    refine bw_icmp_ge 196 94 dX10_times_91 rfl rfl (fun c91 => ?_) (fun c91 => ?_)
    · exact absurd c91 (nI_ge (by omega) (by omega))
    · skip
      refine bw_iconst (0) 95 dX10_times_94 (by decide) rfl ?_
      refine bw_eqi (y := nI 0) rfl ?_
      refine bw_istore 97 dX10_times_95 rfl (by decide) ?_
      refine bw_loc _ ?_ (m_times_mid g hG hB hlc hrc (show i < 8 by omega) ha hb hm hca hcb (fun A hC hS => ?_) rc 0 (by omega) A hC hS)
      · exact ⟨rfl, rfl, rfl, rfl, rfl, rfl, trivial⟩
      refine bw_iincN (1) 193 dX10_times_190 rfl rfl (by decide) (by decide) ?_
      refine bw_goto 83 dX10_times_193 rfl ?_
      refine bw_loc _ ?_ (ih (i + 1) (by omega) A (by rw [← gfl_r]; exact hC) hS)
      exact ⟨rfl, rfl, rfl, rfl, congrArg (fun x => some (Value.int x)) (nI_1 ( i )), trivial⟩
theorem gzm_lt {n : Nat} {C : Nat → Nat} (hC : ∀ i, C i < 2 ^ n) (m k t : Nat) : gzm C m k t < 2 ^ n := by
  unfold gzm
  split
  · exact Nat.two_pow_pos n
  · exact hC t
set_option maxHeartbeats 4000000 in
theorem m_times (g : bw_G) {A : bw_H} {M n p gg th rn mn pn rd rs pt sn a b : Nat} {rr cc C : Nat → Nat} (hG : GFg n p gg) (hC : bw_has A ((M, mdo M n p gg th rn mn pn rd rs pt sn) :: mmc g M rr cc C)) (hCl : ∀ i, C i < 2 ^ n) (hm : mn < 40) (ha : a < mn) (hb : b < mn) (hlr : rr a ≤ 8) (hlc : cc a ≤ 8) (hrc : cc b ≤ 8) (hfit : cc a = rr b) : bw_C g (bw_rm 8 0 0) mX10_times [.ref M, .int (nI a), .int (nI b)] A (bw_pm (mdP g M (mdo M n p gg 0 rn (mn + 1) pn rd rs pt sn) (nI mn) (fun i => if i = mn then rr a else rr i) (fun i => if i = mn then cc b else cc i) (gfl (gzm C mn 64) mn (gtv n (2 ^ n ||| p) (gzm C mn 64) a b (cc a)) (cc b) (rr a) 0) A)) := by
  have hS : bw_sm (M :: mml M) A A := bw_sm.rf
  refine bw_C.of (by decide) (Nat.le_of_ble_eq_true rfl) rfl ?_
  refine bw_aload_n 1 dX10_times_0 rfl rfl ?_
  refine bw_iconst (0) 2 dX10_times_1 (by decide) rfl ?_
  refine bw_eqi (y := nI 0) rfl ?_
  refine bw_putU 5 dX10_times_2 rfl pX10_1 (hC.at 0 rfl) rfl rfl (Nat.le_of_ble_eq_true rfl) (fun A hU => ?_)
  have hC := hC.upd 0 rfl hU
  have hS := hS.upd hU (by simp)
  clear hU
  refine bw_aload_n 6 dX10_times_5 rfl rfl ?_
  refine bw_iload_n 7 dX10_times_6 rfl rfl ?_
  refine bw_cVi 10 dX10_times_7 rfl vX10_144 (m_isMatrix g (hC.sub [0] (by decide) rfl) (kI_nI (by omega) ha)) (hC.at 0 rfl) rfl rfl (Nat.le_of_ble_eq_true rfl) ⟨(Nat.le_of_ble_eq_true rfl), (Nat.le_of_ble_eq_true rfl)⟩ (Nat.le_of_ble_eq_true rfl) (Nat.le_of_ble_eq_true rfl) ?_
  refine bw_if_eq 21 13 dX10_times_10 rfl rfl (fun c10 => ?_) (fun c10 => ?_)
  · exact absurd c10 (by decide)
  · refine bw_aload_n 14 dX10_times_13 rfl rfl ?_
    refine bw_iload_n 15 dX10_times_14 rfl rfl ?_
    refine bw_cVi 18 dX10_times_15 rfl vX10_144 (m_isMatrix g (hC.sub [0] (by decide) rfl) (kI_nI (by omega) hb)) (hC.at 0 rfl) rfl rfl (Nat.le_of_ble_eq_true rfl) ⟨(Nat.le_of_ble_eq_true rfl), (Nat.le_of_ble_eq_true rfl)⟩ (Nat.le_of_ble_eq_true rfl) (Nat.le_of_ble_eq_true rfl) ?_
    refine bw_if_ne 27 21 dX10_times_18 rfl rfl (fun c18 => ?_) (fun c18 => ?_)
    · refine bw_aload_n 28 dX10_times_27 rfl rfl ?_
      refine bw_get 31 dX10_times_28 rfl lX10_20 (hC.at 0 rfl) rfl ?_
      refine bw_iload_n 32 dX10_times_31 rfl rfl ?_
      refine bw_ialdN 33 dX10_times_32 rfl (hC.at 2 rfl) (by omega) (by omega) ?_
      refine bw_aload_n 34 dX10_times_33 rfl rfl ?_
      refine bw_get 37 dX10_times_34 rfl lX10_17 (hC.at 0 rfl) rfl ?_
      refine bw_iload_n 38 dX10_times_37 rfl rfl ?_
      refine bw_ialdN 39 dX10_times_38 rfl (hC.at 1 rfl) (by omega) (by omega) ?_
      refine bw_icmp_eq 48 42 dX10_times_39 rfl rfl (fun c39 => ?_) (fun c39 => ?_)
      · refine bw_aload_n 49 dX10_times_48 rfl rfl ?_
        refine bw_get 52 dX10_times_49 rfl lX10_127 (hC.at 0 rfl) rfl ?_
        refine bw_bipush (40) 54 dX10_times_52 (by decide) rfl ?_
        refine bw_eqi (y := nI 40) rfl ?_
        refine bw_icmp_ne 63 57 dX10_times_54 rfl rfl (fun c54 => ?_) (fun c54 => ?_)
        · refine bw_aload_n 64 dX10_times_63 rfl rfl ?_
          refine bw_aload_n 65 dX10_times_64 rfl rfl ?_
          refine bw_get 68 dX10_times_65 rfl lX10_17 (hC.at 0 rfl) rfl ?_
          refine bw_iload_n 69 dX10_times_68 rfl rfl ?_
          refine bw_ialdN 70 dX10_times_69 rfl (hC.at 1 rfl) (by omega) (by omega) ?_
          refine bw_aload_n 71 dX10_times_70 rfl rfl ?_
          refine bw_get 74 dX10_times_71 rfl lX10_20 (hC.at 0 rfl) rfl ?_
          refine bw_iload_n 75 dX10_times_74 rfl rfl ?_
          refine bw_ialdN 76 dX10_times_75 rfl (hC.at 2 rfl) (by omega) (by omega) ?_
          refine bw_cVm 79 dX10_times_76 rfl vX10_133 (m_made g hC hm) (hC.at 0 rfl) rfl rfl (Nat.le_of_ble_eq_true rfl) ⟨(Nat.le_of_ble_eq_true rfl), (Nat.le_of_ble_eq_true rfl)⟩ (Nat.le_of_ble_eq_true rfl) (Nat.le_of_ble_eq_true rfl) (fun x A hP => ?_)
          obtain ⟨⟨h4, h5, h6⟩, h7⟩ := hP
          subst h4
          have hS := hS.trans h5 (fun _ h => h)
          refine bw_istore_n 80 dX10_times_79 rfl (by decide) ?_
          refine bw_iconst (0) 81 dX10_times_80 (by decide) rfl ?_
          refine bw_eqi (y := nI 0) rfl ?_
          refine bw_istore 83 dX10_times_81 rfl (by decide) ?_
          refine bw_loc _ ?_ (m_times_out g hG (gzm_lt hCl mn 64) hlr hlc hrc ha hb hm (if_neg (by omega)) (if_neg (by omega)) (if_neg (by omega)) (rr a) 0 (by omega) A (by rw [gfl_0]; exact (bw_has.one h6).ap h7 (by simp <;> omega)) hS)
          exact ⟨rfl, rfl, rfl, rfl, rfl, trivial⟩
        · exact absurd ((nI_eq (b := 40) (by omega) (by omega)).mp c54) (by omega)
      · exact absurd (by rw [hfit]) c39
    · exact absurd c18 (by decide)
theorem m_timesZ (g : bw_G) {A : bw_H} {M n p gg th rn pn rd rs pt sn a b : Nat} {rr cc : Nat → Nat} (hC : bw_has A [(M, mdo M n p gg th rn 40 pn rd rs pt sn), (M + 2, bw_an g 40 rr), (M + 3, bw_an g 40 cc)]) (ha : a < 40) (hb : b < 40) (hfit : cc a = rr b) : bw_C g (bw_rm 8 0 0) mX10_times [.ref M, .int (nI a), .int (nI b)] A (bw_pm (maR M [] (mdo M n p gg 3 rn 40 pn rd rs pt sn) (nI 0) A)) := by
  have hS : bw_sm [M] A A := bw_sm.rf
  refine bw_C.of (by decide) (Nat.le_of_ble_eq_true rfl) rfl ?_
  refine bw_aload_n 1 dX10_times_0 rfl rfl ?_
  refine bw_iconst (0) 2 dX10_times_1 (by decide) rfl ?_
  refine bw_eqi (y := nI 0) rfl ?_
  refine bw_putU 5 dX10_times_2 rfl pX10_1 (hC.at 0 rfl) rfl rfl (Nat.le_of_ble_eq_true rfl) (fun A hU => ?_)
  have hC := hC.upd 0 rfl hU
  have hS := hS.upd hU (by simp)
  clear hU
  refine bw_aload_n 6 dX10_times_5 rfl rfl ?_
  refine bw_iload_n 7 dX10_times_6 rfl rfl ?_
  refine bw_cVi 10 dX10_times_7 rfl vX10_144 (m_isMatrix g (hC.sub [0] (by decide) rfl) (kI_nI (by omega) ha)) (hC.at 0 rfl) rfl rfl (Nat.le_of_ble_eq_true rfl) ⟨(Nat.le_of_ble_eq_true rfl), (Nat.le_of_ble_eq_true rfl)⟩ (Nat.le_of_ble_eq_true rfl) (Nat.le_of_ble_eq_true rfl) ?_
  refine bw_if_eq 21 13 dX10_times_10 rfl rfl (fun c10 => ?_) (fun c10 => ?_)
  · exact absurd c10 (by decide)
  · refine bw_aload_n 14 dX10_times_13 rfl rfl ?_
    refine bw_iload_n 15 dX10_times_14 rfl rfl ?_
    refine bw_cVi 18 dX10_times_15 rfl vX10_144 (m_isMatrix g (hC.sub [0] (by decide) rfl) (kI_nI (by omega) hb)) (hC.at 0 rfl) rfl rfl (Nat.le_of_ble_eq_true rfl) ⟨(Nat.le_of_ble_eq_true rfl), (Nat.le_of_ble_eq_true rfl)⟩ (Nat.le_of_ble_eq_true rfl) (Nat.le_of_ble_eq_true rfl) ?_
    refine bw_if_ne 27 21 dX10_times_18 rfl rfl (fun c18 => ?_) (fun c18 => ?_)
    · refine bw_aload_n 28 dX10_times_27 rfl rfl ?_
      refine bw_get 31 dX10_times_28 rfl lX10_20 (hC.at 0 rfl) rfl ?_
      refine bw_iload_n 32 dX10_times_31 rfl rfl ?_
      refine bw_ialdN 33 dX10_times_32 rfl (hC.at 2 rfl) (by omega) (by omega) ?_
      refine bw_aload_n 34 dX10_times_33 rfl rfl ?_
      refine bw_get 37 dX10_times_34 rfl lX10_17 (hC.at 0 rfl) rfl ?_
      refine bw_iload_n 38 dX10_times_37 rfl rfl ?_
      refine bw_ialdN 39 dX10_times_38 rfl (hC.at 1 rfl) (by omega) (by omega) ?_
      refine bw_icmp_eq 48 42 dX10_times_39 rfl rfl (fun c39 => ?_) (fun c39 => ?_)
      · refine bw_aload_n 49 dX10_times_48 rfl rfl ?_
        refine bw_get 52 dX10_times_49 rfl lX10_127 (hC.at 0 rfl) rfl ?_
        refine bw_bipush (40) 54 dX10_times_52 (by decide) rfl ?_
        refine bw_eqi (y := nI 40) rfl ?_
        refine bw_icmp_ne 63 57 dX10_times_54 rfl rfl (fun c54 => ?_) (fun c54 => ?_)
        · exact absurd rfl c54
        · refine bw_aload_n 58 dX10_times_57 rfl rfl ?_
          refine bw_iconst (3) 59 dX10_times_58 (by decide) rfl ?_
          refine bw_eqi (y := nI 3) rfl ?_
          refine bw_cVm 62 dX10_times_59 rfl vX10_118 (m_fail g (hC.sub [0] (by decide) rfl)) (hC.at 0 rfl) rfl rfl (Nat.le_of_ble_eq_true rfl) ⟨(Nat.le_of_ble_eq_true rfl), (Nat.le_of_ble_eq_true rfl)⟩ (Nat.le_of_ble_eq_true rfl) (Nat.le_of_ble_eq_true rfl) (fun x A hP => ?_)
          obtain ⟨h4, h5⟩ := hP
          subst h4
          have hC := hC.upd 0 rfl h5
          have hS := hS.upd h5 (by simp)
          refine bw_iret dX10_times_62 rfl (Nat.le_of_ble_eq_true rfl) (Nat.le_of_ble_eq_true rfl) ?_
          exact ⟨_, rfl, rfl, hS, hC.at 0 rfl⟩
      · exact absurd (by rw [hfit]) c39
    · exact absurd c18 (by decide)
theorem m_timesY (g : bw_G) {A : bw_H} {M n p gg th rn mn pn rd rs pt sn a b : Nat} {rr cc : Nat → Nat} (hC : bw_has A [(M, mdo M n p gg th rn mn pn rd rs pt sn), (M + 2, bw_an g 40 rr), (M + 3, bw_an g 40 cc)]) (hm : mn ≤ 40) (ha : a < mn) (hb : b < mn) (hca : cc a ≤ 8) (hrb : rr b ≤ 8) (h : cc a ≠ rr b) : bw_C g (bw_rm 8 0 0) mX10_times [.ref M, .int (nI a), .int (nI b)] A (bw_pm (maR M [] (mdo M n p gg 2 rn mn pn rd rs pt sn) (nI 0) A)) := by
  have hS : bw_sm [M] A A := bw_sm.rf
  refine bw_C.of (by decide) (Nat.le_of_ble_eq_true rfl) rfl ?_
  refine bw_aload_n 1 dX10_times_0 rfl rfl ?_
  refine bw_iconst (0) 2 dX10_times_1 (by decide) rfl ?_
  refine bw_eqi (y := nI 0) rfl ?_
  refine bw_putU 5 dX10_times_2 rfl pX10_1 (hC.at 0 rfl) rfl rfl (Nat.le_of_ble_eq_true rfl) (fun A hU => ?_)
  have hC := hC.upd 0 rfl hU
  have hS := hS.upd hU (by simp)
  clear hU
  refine bw_aload_n 6 dX10_times_5 rfl rfl ?_
  refine bw_iload_n 7 dX10_times_6 rfl rfl ?_
  refine bw_cVi 10 dX10_times_7 rfl vX10_144 (m_isMatrix g (hC.sub [0] (by decide) rfl) (kI_nI (by omega) ha)) (hC.at 0 rfl) rfl rfl (Nat.le_of_ble_eq_true rfl) ⟨(Nat.le_of_ble_eq_true rfl), (Nat.le_of_ble_eq_true rfl)⟩ (Nat.le_of_ble_eq_true rfl) (Nat.le_of_ble_eq_true rfl) ?_
  refine bw_if_eq 21 13 dX10_times_10 rfl rfl (fun c10 => ?_) (fun c10 => ?_)
  · exact absurd c10 (by decide)
  · refine bw_aload_n 14 dX10_times_13 rfl rfl ?_
    refine bw_iload_n 15 dX10_times_14 rfl rfl ?_
    refine bw_cVi 18 dX10_times_15 rfl vX10_144 (m_isMatrix g (hC.sub [0] (by decide) rfl) (kI_nI (by omega) hb)) (hC.at 0 rfl) rfl rfl (Nat.le_of_ble_eq_true rfl) ⟨(Nat.le_of_ble_eq_true rfl), (Nat.le_of_ble_eq_true rfl)⟩ (Nat.le_of_ble_eq_true rfl) (Nat.le_of_ble_eq_true rfl) ?_
    refine bw_if_ne 27 21 dX10_times_18 rfl rfl (fun c18 => ?_) (fun c18 => ?_)
    · refine bw_aload_n 28 dX10_times_27 rfl rfl ?_
      refine bw_get 31 dX10_times_28 rfl lX10_20 (hC.at 0 rfl) rfl ?_
      refine bw_iload_n 32 dX10_times_31 rfl rfl ?_
      refine bw_ialdN 33 dX10_times_32 rfl (hC.at 2 rfl) (by omega) (by omega) ?_
      refine bw_aload_n 34 dX10_times_33 rfl rfl ?_
      refine bw_get 37 dX10_times_34 rfl lX10_17 (hC.at 0 rfl) rfl ?_
      refine bw_iload_n 38 dX10_times_37 rfl rfl ?_
      refine bw_ialdN 39 dX10_times_38 rfl (hC.at 1 rfl) (by omega) (by omega) ?_
      refine bw_icmp_eq 48 42 dX10_times_39 rfl rfl (fun c39 => ?_) (fun c39 => ?_)
      · exact absurd ((nI_eq (by omega) (by omega)).mp c39) h
      · skip
        refine bw_aload_n 43 dX10_times_42 rfl rfl ?_
        refine bw_iconst (2) 44 dX10_times_43 (by decide) rfl ?_
        refine bw_eqi (y := nI 2) rfl ?_
        refine bw_cVm 47 dX10_times_44 rfl vX10_118 (m_fail g (hC.sub [0] (by decide) rfl)) (hC.at 0 rfl) rfl rfl (Nat.le_of_ble_eq_true rfl) ⟨(Nat.le_of_ble_eq_true rfl), (Nat.le_of_ble_eq_true rfl)⟩ (Nat.le_of_ble_eq_true rfl) (Nat.le_of_ble_eq_true rfl) (fun x A hP => ?_)
        obtain ⟨h4, h5⟩ := hP
        subst h4
        have hC := hC.upd 0 rfl h5
        have hS := hS.upd h5 (by simp)
        refine bw_iret dX10_times_47 rfl (Nat.le_of_ble_eq_true rfl) (Nat.le_of_ble_eq_true rfl) ?_
        exact ⟨_, rfl, rfl, hS, hC.at 0 rfl⟩
    · exact absurd c18 (by decide)
theorem m_timesX (g : bw_G) {A : bw_H} {M n p gg th rn mn pn rd rs pt sn : Nat} {a b : Int32} (hC : bw_has A [(M, mdo M n p gg th rn mn pn rd rs pt sn)]) (h : ¬ (kI mn a ∧ kI mn b)) : bw_C g (bw_rm 8 0 0) mX10_times [.ref M, .int a, .int b] A (bw_pm (maR M [] (mdo M n p gg 1 rn mn pn rd rs pt sn) (nI 0) A)) := by
  have hS : bw_sm [M] A A := bw_sm.rf
  refine bw_C.of (by decide) (Nat.le_of_ble_eq_true rfl) rfl ?_
  by_cases ha : kI mn a
  · skip
    refine bw_aload_n 1 dX10_times_0 rfl rfl ?_
    refine bw_iconst (0) 2 dX10_times_1 (by decide) rfl ?_
    refine bw_eqi (y := nI 0) rfl ?_
    refine bw_putU 5 dX10_times_2 rfl pX10_1 (hC.at 0 rfl) rfl rfl (Nat.le_of_ble_eq_true rfl) (fun A hU => ?_)
    have hC := hC.upd 0 rfl hU
    have hS := hS.upd hU (by simp)
    clear hU
    refine bw_aload_n 6 dX10_times_5 rfl rfl ?_
    refine bw_iload_n 7 dX10_times_6 rfl rfl ?_
    refine bw_cVi 10 dX10_times_7 rfl vX10_144 (m_isMatrix g hC ha) (hC.at 0 rfl) rfl rfl (Nat.le_of_ble_eq_true rfl) ⟨(Nat.le_of_ble_eq_true rfl), (Nat.le_of_ble_eq_true rfl)⟩ (Nat.le_of_ble_eq_true rfl) (Nat.le_of_ble_eq_true rfl) ?_
    refine bw_if_eq 21 13 dX10_times_10 rfl rfl (fun c10 => ?_) (fun c10 => ?_)
    · exact absurd c10 (by decide)
    · refine bw_aload_n 14 dX10_times_13 rfl rfl ?_
      refine bw_iload_n 15 dX10_times_14 rfl rfl ?_
      refine bw_cVi 18 dX10_times_15 rfl vX10_144 (m_isMatrixX g hC (fun hb => h ⟨ha, hb⟩)) (hC.at 0 rfl) rfl rfl (Nat.le_of_ble_eq_true rfl) ⟨(Nat.le_of_ble_eq_true rfl), (Nat.le_of_ble_eq_true rfl)⟩ (Nat.le_of_ble_eq_true rfl) (Nat.le_of_ble_eq_true rfl) ?_
      refine bw_if_ne 27 21 dX10_times_18 rfl rfl (fun c18 => ?_) (fun c18 => ?_)
      · exact absurd rfl c18
      · refine bw_aload_n 22 dX10_times_21 rfl rfl ?_
        refine bw_iconst (1) 23 dX10_times_22 (by decide) rfl ?_
        refine bw_eqi (y := nI 1) rfl ?_
        refine bw_cVm 26 dX10_times_23 rfl vX10_118 (m_fail g hC) (hC.at 0 rfl) rfl rfl (Nat.le_of_ble_eq_true rfl) ⟨(Nat.le_of_ble_eq_true rfl), (Nat.le_of_ble_eq_true rfl)⟩ (Nat.le_of_ble_eq_true rfl) (Nat.le_of_ble_eq_true rfl) (fun x A hP => ?_)
        obtain ⟨h4, h5⟩ := hP
        subst h4
        have hC := hC.upd 0 rfl h5
        have hS := hS.upd h5 (by simp)
        refine bw_iret dX10_times_26 rfl (Nat.le_of_ble_eq_true rfl) (Nat.le_of_ble_eq_true rfl) ?_
        exact ⟨_, rfl, rfl, hS, hC.at 0 rfl⟩
  · skip
    refine bw_aload_n 1 dX10_times_0 rfl rfl ?_
    refine bw_iconst (0) 2 dX10_times_1 (by decide) rfl ?_
    refine bw_eqi (y := nI 0) rfl ?_
    refine bw_putU 5 dX10_times_2 rfl pX10_1 (hC.at 0 rfl) rfl rfl (Nat.le_of_ble_eq_true rfl) (fun A hU => ?_)
    have hC := hC.upd 0 rfl hU
    have hS := hS.upd hU (by simp)
    clear hU
    refine bw_aload_n 6 dX10_times_5 rfl rfl ?_
    refine bw_iload_n 7 dX10_times_6 rfl rfl ?_
    refine bw_cVi 10 dX10_times_7 rfl vX10_144 (m_isMatrixX g hC ha) (hC.at 0 rfl) rfl rfl (Nat.le_of_ble_eq_true rfl) ⟨(Nat.le_of_ble_eq_true rfl), (Nat.le_of_ble_eq_true rfl)⟩ (Nat.le_of_ble_eq_true rfl) (Nat.le_of_ble_eq_true rfl) ?_
    refine bw_if_eq 21 13 dX10_times_10 rfl rfl (fun c10 => ?_) (fun c10 => ?_)
    · skip
      refine bw_aload_n 22 dX10_times_21 rfl rfl ?_
      refine bw_iconst (1) 23 dX10_times_22 (by decide) rfl ?_
      refine bw_eqi (y := nI 1) rfl ?_
      refine bw_cVm 26 dX10_times_23 rfl vX10_118 (m_fail g hC) (hC.at 0 rfl) rfl rfl (Nat.le_of_ble_eq_true rfl) ⟨(Nat.le_of_ble_eq_true rfl), (Nat.le_of_ble_eq_true rfl)⟩ (Nat.le_of_ble_eq_true rfl) (Nat.le_of_ble_eq_true rfl) (fun x A hP => ?_)
      obtain ⟨h4, h5⟩ := hP
      subst h4
      have hC := hC.upd 0 rfl h5
      have hS := hS.upd h5 (by simp)
      refine bw_iret dX10_times_26 rfl (Nat.le_of_ble_eq_true rfl) (Nat.le_of_ble_eq_true rfl) ?_
      exact ⟨_, rfl, rfl, hS, hC.at 0 rfl⟩
    · exact absurd rfl c10
