/-! the reference: minors -/
theorem or256 {a b : Nat} (h : b < 256) : a * 2 ^ 8 ||| b = 256 * a + b := by
  have := Nat.two_pow_add_eq_or_of_lt (i := 8) (b := b) (by omega) a
  rw [Nat.mul_comm a, ← this]
theorem gbc_s (k v : Nat) : gbc (k + 1) v = gbc k v + v / 2 ^ k % 2 := rfl
theorem gbc_le : ∀ (k v : Nat), gbc k v ≤ k
  | 0, _ => Nat.le_refl 0
  | k + 1, v => by
    have := gbc_le k v
    rw [gbc_s]
    omega
theorem m_bitsOf_loop (g : bw_G) {A : bw_H} {v : Nat} (hv : v < 2 ^ 31) :
    ∀ (d k : Nat), k + d = 8 → bw_W g (bw_rm 0 0 0) mX10_bitsOf (bw_pi (nI (gbc 8 v)) A) 0 0 4 [(0, .int (nI v)), (1, .int (nI (gbc k v))), (2, .int (nI k))] [] A := by
  intro d
  induction d with
  | zero =>
    intro k hk
    have hk : k = 8 := by omega
    subst hk
    refine bw_iload_n 5 dX10_bitsOf_4 rfl rfl ?_
    refine bw_bipush (8) 7 dX10_bitsOf_5 (by decide) rfl ?_
    refine bw_eqi (y := nI 8) rfl ?_
    refine bw_icmp_ge 24 10 dX10_bitsOf_7 rfl rfl (fun c7 => ?_) (fun c7 => ?_)
    · refine bw_iload_n 25 dX10_bitsOf_24 rfl rfl ?_
      refine bw_iret dX10_bitsOf_25 rfl (Nat.le_of_ble_eq_true rfl) (Nat.le_of_ble_eq_true rfl) ?_
      exact ⟨rfl, rfl⟩
    · exact absurd (Int32.le_refl _) c7
  | succ d ih =>
    intro k hk
    refine bw_iload_n 5 dX10_bitsOf_4 rfl rfl ?_
    refine bw_bipush (8) 7 dX10_bitsOf_5 (by decide) rfl ?_
    refine bw_eqi (y := nI 8) rfl ?_
    refine bw_icmp_ge 24 10 dX10_bitsOf_7 rfl rfl (fun c7 => ?_) (fun c7 => ?_)
    · exact absurd c7 (nI_ge (b := 8) (by omega) (by omega))
    · skip
      refine bw_iload_n 11 dX10_bitsOf_10 rfl rfl ?_
      refine bw_iload_n 12 dX10_bitsOf_11 rfl rfl ?_
      refine bw_iload_n 13 dX10_bitsOf_12 rfl rfl ?_
      refine bw_ishr 14 dX10_bitsOf_13 rfl ?_
      refine bw_eqi (xn_shr k (by omega) hv) ?_
      refine bw_iconst (1) 15 dX10_bitsOf_14 (by decide) rfl ?_
      refine bw_iand 16 dX10_bitsOf_15 rfl ?_
      refine bw_eqi (xn_and1 (v / 2 ^ k)) ?_
      refine bw_iadd 17 dX10_bitsOf_16 rfl ?_
      refine bw_eqi (nI_add (gbc k v) (v / 2 ^ k % 2)) ?_
      refine bw_istore_n 18 dX10_bitsOf_17 rfl (by decide) ?_
      refine bw_iincN (1) 21 dX10_bitsOf_18 rfl rfl (by decide) (by decide) ?_
      refine bw_goto 4 dX10_bitsOf_21 rfl ?_
      refine bw_loc _ ?_ (ih (k + 1) (by omega))
      exact ⟨rfl, rfl, congrArg (fun x => some (Value.int x)) (nI_1 ( k )), trivial⟩
theorem m_bitsOf (g : bw_G) {A : bw_H} {v : Nat} (hv : v < 2 ^ 31) : bw_C g (bw_rm 0 0 0) mX10_bitsOf [.int (nI v)] A (bw_pi (nI (gbc 8 v)) A) := by
  refine bw_C.of (by decide) (Nat.le_of_ble_eq_true rfl) rfl ?_
  refine bw_iconst (0) 1 dX10_bitsOf_0 (by decide) rfl ?_
  refine bw_eqi (y := nI 0) rfl ?_
  refine bw_istore_n 2 dX10_bitsOf_1 rfl (by decide) ?_
  refine bw_iconst (0) 3 dX10_bitsOf_2 (by decide) rfl ?_
  refine bw_eqi (y := nI 0) rfl ?_
  refine bw_istore_n 4 dX10_bitsOf_3 rfl (by decide) ?_
  refine bw_loc _ ?_ (m_bitsOf_loop g hv 8 0 (by omega))
  exact ⟨rfl, rfl, rfl, trivial⟩
/-- a matrix's cells -/
def mcf (C : Nat → Nat) (m i j : Nat) : Nat := C (64 * m + 8 * i + j)
/-- the minors that are made -/
def mnI {n q : Nat} (hG : GFp n q) (A : Nat → Nat → Nat) (c r k : Nat) (V : Nat → Nat) : Prop := ∀ r' k', (r' < r ∧ k' < 2 ^ c) ∨ (r' = r ∧ k' < k) → V (256 * r' + k') = mnv hG A c r' k'
theorem mnI.set {n q : Nat} {hG : GFp n q} {A : Nat → Nat → Nat} {c r k x : Nat} {V : Nat → Nat} (h : mnI hG A c r k V) (hc : c ≤ 8) (hk : k < 2 ^ c) (hx : x = mnv hG A c r k) : mnI hG A c r (k + 1) (fun t => if t = 256 * r + k then x else V t) := by
  have h256 : 2 ^ c ≤ 2 ^ 8 := Nat.pow_le_pow_right (by omega) hc
  intro r' k' hr
  dsimp only
  by_cases e : 256 * r' + k' = 256 * r + k
  · have e1 : r' = r := by omega
    have e2 : k' = k := by omega
    rw [if_pos e, hx, e1, e2]
  · rw [if_neg e]
    exact h r' k' (by omega)
theorem mnI.row {n q : Nat} {hG : GFp n q} {A : Nat → Nat → Nat} {c r : Nat} {V : Nat → Nat} (h : mnI hG A c r (2 ^ c) V) : mnI hG A c (r + 1) 0 V := fun r' k' hr => h r' k' (by omega)
theorem log2_x : ∀ r, r < 256 → r ≠ 0 → (Nat.log2 r < 8 ∧ r.testBit (Nat.log2 r) = true ∧ r ^^^ 2 ^ Nat.log2 r < r) := by decide +kernel
theorem log2_r : ∀ r h, r < 2 ^ h → r ≠ 0 → Nat.log2 r < h := fun r h hr h0 => (Nat.log2_lt h0).mpr hr
set_option maxHeartbeats 4000000 in
theorem m_minors_j (g : bw_G) {A : bw_H} {M n p gg th rn mn pn rd rs pt sn m c r k : Nat} {rr cc C V : Nat → Nat} {Q : bw_O → bw_H → Prop} (hG : GFg n p gg) (hCl : ∀ i, C i < 2 ^ n) (hm : m < 40) (hc : c ≤ 8) (hcc : cc m = c) (hr : r < 256) (hr0 : r ≠ 0) (hk : k < 2 ^ c) (hV : mnI hG.2.2.1 (mcf C m) c r k V) (hC : bw_has A ((M, mdo M n p gg th rn mn pn rd rs pt sn) :: (mmc g M rr cc C ++ [(M + 5, bw_an g 65536 V)])))
    (kk : bw_W g (bw_rm 7 0 0) mX10_minors Q 0 0 141 [(0, .ref M), (1, .int (nI m)), (2, .int (nI r)), (3, .int (nI (Nat.log2 r))), (4, .int (nI k)), (5, .int (nI (mnv hG.2.2.1 (mcf C m) c r k)))] [] A) :
    ∀ (d j : Nat), j + d = c → bw_W g (bw_rm 7 0 0) mX10_minors Q 0 0 70 [(0, .ref M), (1, .int (nI m)), (2, .int (nI r)), (3, .int (nI (Nat.log2 r))), (4, .int (nI k)), (5, .int (nI (mns n (2 ^ n ||| p) (mcf C m (Nat.log2 r)) (mnv hG.2.2.1 (mcf C m) c (r ^^^ 2 ^ Nat.log2 r)) k j))), (6, .int (nI j))] [] A := by
  have h256 : 2 ^ c ≤ 2 ^ 8 := Nat.pow_le_pow_right (by omega) hc
  obtain ⟨l1, l2, l3⟩ := log2_x r hr hr0
  have hst := mnv_st hG.2.2.1 (A := mcf C m) (fun a b => hCl _) (c := c) hr l1 l2 k
  have h2l : 2 ^ Nat.log2 r ≤ 2 ^ 7 := Nat.pow_le_pow_right (by omega) (by omega)
  have hx8 : r ^^^ 2 ^ Nat.log2 r < 2 ^ 8 := Nat.xor_lt_two_pow (by omega) (by omega)
  intro d
  induction d with
  | zero =>
    intro j hj
    have hj : c = j := by omega
    subst hj
    rw [← hst]
    refine bw_iload 72 dX10_minors_70 rfl rfl ?_
    refine bw_aload_n 73 dX10_minors_72 rfl rfl ?_
    refine bw_get 76 dX10_minors_73 rfl lX10_20 (hC.at 0 rfl) rfl ?_
    refine bw_iload_n 77 dX10_minors_76 rfl rfl ?_
    refine bw_ialdN 78 dX10_minors_77 rfl (hC.at 2 rfl) (by omega) (by omega) ?_
    refine bw_eqi (congrArg nI hcc) ?_
    refine bw_icmp_ge 141 81 dX10_minors_78 rfl rfl (fun c78 => ?_) (fun c78 => ?_)
    · exact bw_loc [(0, .ref M), (1, .int (nI m)), (2, .int (nI r)), (3, .int (nI (Nat.log2 r))), (4, .int (nI k)), (5, .int (nI (mnv hG.2.2.1 (mcf C m) c r k)))] ⟨rfl, rfl, rfl, rfl, rfl, rfl, trivial⟩ kk
    · exact absurd (Int32.le_refl _) c78
  | succ d ih =>
    intro j hj
    have hjc : j < c := by omega
    have h2j : 2 ^ j ≤ 2 ^ 7 := Nat.pow_le_pow_right (by omega) (by omega)
    have hkx : k ^^^ 2 ^ j < 2 ^ c := Nat.xor_lt_two_pow hk (Nat.pow_lt_pow_right (by omega) hjc)
    have hrd : V (256 * (r ^^^ 2 ^ Nat.log2 r) + (k ^^^ 2 ^ j)) = mnv hG.2.2.1 (mcf C m) c (r ^^^ 2 ^ Nat.log2 r) (k ^^^ 2 ^ j) := hV _ _ (Or.inl ⟨l3, hkx⟩)
    have htb := Nat.testBit_eq_decide_div_mod_eq (x := k) (i := j)
    refine bw_iload 72 dX10_minors_70 rfl rfl ?_
    refine bw_aload_n 73 dX10_minors_72 rfl rfl ?_
    refine bw_get 76 dX10_minors_73 rfl lX10_20 (hC.at 0 rfl) rfl ?_
    refine bw_iload_n 77 dX10_minors_76 rfl rfl ?_
    refine bw_ialdN 78 dX10_minors_77 rfl (hC.at 2 rfl) (by omega) (by omega) ?_
    refine bw_eqi (congrArg nI hcc) ?_
    refine bw_icmp_ge 141 81 dX10_minors_78 rfl rfl (fun c78 => ?_) (fun c78 => ?_)
    · exact absurd c78 (nI_ge (by omega) (by omega))
    · skip
      refine bw_iload 83 dX10_minors_81 rfl rfl ?_
      refine bw_iload 85 dX10_minors_83 rfl rfl ?_
      refine bw_ishr 86 dX10_minors_85 rfl ?_
      refine bw_eqi (xn_shr j (by omega) (by omega)) ?_
      refine bw_iconst (1) 87 dX10_minors_86 (by decide) rfl ?_
      refine bw_iand 88 dX10_minors_87 rfl ?_
      refine bw_eqi (xn_and1 (k / 2 ^ j)) ?_
      refine bw_iconst (1) 89 dX10_minors_88 (by decide) rfl ?_
      refine bw_eqi (y := nI 1) rfl ?_
      refine bw_icmp_ne 135 92 dX10_minors_89 rfl rfl (fun c89 => ?_) (fun c89 => ?_)
      · have hb : ¬ k.testBit j = true := by
          rw [htb, decide_eq_true_iff]
          exact fun h => c89 (by rw [h])
        have hv : mns n (2 ^ n ||| p) (mcf C m (Nat.log2 r)) (mnv hG.2.2.1 (mcf C m) c (r ^^^ 2 ^ Nat.log2 r)) k (j + 1) = mns n (2 ^ n ||| p) (mcf C m (Nat.log2 r)) (mnv hG.2.2.1 (mcf C m) c (r ^^^ 2 ^ Nat.log2 r)) k j := if_neg hb
        refine bw_iincN (1) 138 dX10_minors_135 rfl rfl (by decide) (by decide) ?_
        refine bw_goto 70 dX10_minors_138 rfl ?_
        refine bw_loc _ ?_ (ih (j + 1) (by omega))
        exact ⟨rfl, rfl, rfl, rfl, rfl, congrArg (fun x => some (Value.int (nI x))) hv.symm, congrArg (fun x => some (Value.int x)) (nI_1 ( j )), trivial⟩
      · have hb : k.testBit j = true := by
          rw [htb, decide_eq_true_iff]
          exact (nI_eq (b := 1) (by omega) (by omega)).mp c89
        have hv : mns n (2 ^ n ||| p) (mcf C m (Nat.log2 r)) (mnv hG.2.2.1 (mcf C m) c (r ^^^ 2 ^ Nat.log2 r)) k (j + 1) = mns n (2 ^ n ||| p) (mcf C m (Nat.log2 r)) (mnv hG.2.2.1 (mcf C m) c (r ^^^ 2 ^ Nat.log2 r)) k j ^^^ gm n (2 ^ n ||| p) (mcf C m (Nat.log2 r) j) (mnv hG.2.2.1 (mcf C m) c (r ^^^ 2 ^ Nat.log2 r) (k ^^^ 2 ^ j)) := if_pos hb
        refine bw_iload 94 dX10_minors_92 rfl rfl ?_
        refine bw_aload_n 95 dX10_minors_94 rfl rfl ?_
        refine bw_aload_n 96 dX10_minors_95 rfl rfl ?_
        refine bw_get 99 dX10_minors_96 rfl lX10_23 (hC.at 0 rfl) rfl ?_
        refine bw_aload_n 100 dX10_minors_99 rfl rfl ?_
        refine bw_iload_n 101 dX10_minors_100 rfl rfl ?_
        refine bw_iload_n 102 dX10_minors_101 rfl rfl ?_
        refine bw_iload 104 dX10_minors_102 rfl rfl ?_
        refine bw_cVi 107 dX10_minors_104 rfl vX10_140 (m_at g) (hC.at 0 rfl) rfl rfl (Nat.le_of_ble_eq_true rfl) ⟨(Nat.le_of_ble_eq_true rfl), (Nat.le_of_ble_eq_true rfl)⟩ (Nat.le_of_ble_eq_true rfl) (Nat.le_of_ble_eq_true rfl) ?_
        refine bw_ialdN 108 dX10_minors_107 rfl (hC.at 3 rfl) (by omega) (by omega) ?_
        refine bw_aload_n 109 dX10_minors_108 rfl rfl ?_
        refine bw_get 112 dX10_minors_109 rfl lX10_27 (hC.at 0 rfl) rfl ?_
        refine bw_iload_n 113 dX10_minors_112 rfl rfl ?_
        refine bw_iconst (1) 114 dX10_minors_113 (by decide) rfl ?_
        refine bw_eqi (y := nI 1) rfl ?_
        refine bw_iload_n 115 dX10_minors_114 rfl rfl ?_
        refine bw_ishl 116 dX10_minors_115 rfl ?_
        refine bw_eqi ((xn_shl (a := 1) (Nat.log2 r) (by omega) (by omega)).trans (by rw [Nat.one_mul])) ?_
        refine bw_ixor 117 dX10_minors_116 rfl ?_
        refine bw_eqi (xn_xor r (2 ^ Nat.log2 r)) ?_
        refine bw_bipush (8) 119 dX10_minors_117 (by decide) rfl ?_
        refine bw_eqi (y := nI 8) rfl ?_
        refine bw_ishl 120 dX10_minors_119 rfl ?_
        refine bw_eqi (xn_shl 8 (by omega) (by omega)) ?_
        refine bw_iload 122 dX10_minors_120 rfl rfl ?_
        refine bw_iconst (1) 123 dX10_minors_122 (by decide) rfl ?_
        refine bw_eqi (y := nI 1) rfl ?_
        refine bw_iload 125 dX10_minors_123 rfl rfl ?_
        refine bw_ishl 126 dX10_minors_125 rfl ?_
        refine bw_eqi ((xn_shl (a := 1) j (by omega) (by omega)).trans (by rw [Nat.one_mul])) ?_
        refine bw_ixor 127 dX10_minors_126 rfl ?_
        refine bw_eqi (xn_xor k (2 ^ j)) ?_
        refine bw_ior 128 dX10_minors_127 rfl ?_
        refine bw_eqi ((xn_or _ _).trans (by rw [or256 (by omega)])) ?_
        refine bw_ialdN 129 dX10_minors_128 rfl (hC.at 4 rfl) (by omega) (by omega) ?_
        refine bw_eqi (congrArg nI hrd) ?_
        refine bw_cVi 132 dX10_minors_129 rfl vX10_102 (m_mul g hG (hC.sub [0] (by decide) rfl) (hCl _) (mnv_lt hG.2.2.1 _ _ _ _)) (hC.at 0 rfl) rfl rfl (Nat.le_of_ble_eq_true rfl) ⟨(Nat.le_of_ble_eq_true rfl), (Nat.le_of_ble_eq_true rfl)⟩ (Nat.le_of_ble_eq_true rfl) (Nat.le_of_ble_eq_true rfl) ?_
        refine bw_ixor 133 dX10_minors_132 rfl ?_
        refine bw_eqi (xn_xor _ _) ?_
        refine bw_istore 135 dX10_minors_133 rfl (by decide) ?_
        refine bw_iincN (1) 138 dX10_minors_135 rfl rfl (by decide) (by decide) ?_
        refine bw_goto 70 dX10_minors_138 rfl ?_
        refine bw_loc _ ?_ (ih (j + 1) (by omega))
        exact ⟨rfl, rfl, rfl, rfl, rfl, congrArg (fun x => some (Value.int (nI x))) hv.symm, congrArg (fun x => some (Value.int x)) (nI_1 ( j )), trivial⟩
set_option maxHeartbeats 4000000 in
theorem m_minors_k (g : bw_G) {A0 : bw_H} {M n p gg th rn mn pn rd rs pt sn m c r : Nat} {rr cc C : Nat → Nat} {Q : bw_O → bw_H → Prop} (hG : GFg n p gg) (hCl : ∀ i, C i < 2 ^ n) (hm : m < 40) (hc : c ≤ 8) (hcc : cc m = c) (hr : r < 256)
    (kk : ∀ (A : bw_H) (V : Nat → Nat), mnI hG.2.2.1 (mcf C m) c r (2 ^ c) V → bw_has A ((M, mdo M n p gg th rn mn pn rd rs pt sn) :: (mmc g M rr cc C ++ [(M + 5, bw_an g 65536 V)])) → bw_sm [M + 5] A0 A → bw_W g (bw_rm 7 0 0) mX10_minors Q 0 0 161 [(0, .ref M), (1, .int (nI m)), (2, .int (nI r))] [] A) :
    ∀ (d k : Nat), k + d = 2 ^ c → ∀ (A : bw_H) (V : Nat → Nat), mnI hG.2.2.1 (mcf C m) c r k V → bw_has A ((M, mdo M n p gg th rn mn pn rd rs pt sn) :: (mmc g M rr cc C ++ [(M + 5, bw_an g 65536 V)])) → bw_sm [M + 5] A0 A →
      bw_W g (bw_rm 7 0 0) mX10_minors Q 0 0 22 [(0, .ref M), (1, .int (nI m)), (2, .int (nI r)), (3, .int (bdg r)), (4, .int (nI k))] [] A := by
  have h256 : 2 ^ c ≤ 2 ^ 8 := Nat.pow_le_pow_right (by omega) hc
  intro d
  induction d with
  | zero =>
    intro k hk A V hV hC hS
    have hk : k = 2 ^ c := by omega
    subst hk
    refine bw_iload 24 dX10_minors_22 rfl rfl ?_
    refine bw_iconst (1) 25 dX10_minors_24 (by decide) rfl ?_
    refine bw_eqi (y := nI 1) rfl ?_
    refine bw_aload_n 26 dX10_minors_25 rfl rfl ?_
    refine bw_get 29 dX10_minors_26 rfl lX10_20 (hC.at 0 rfl) rfl ?_
    refine bw_iload_n 30 dX10_minors_29 rfl rfl ?_
    refine bw_ialdN 31 dX10_minors_30 rfl (hC.at 2 rfl) (by omega) (by omega) ?_
    refine bw_eqi (congrArg nI hcc) ?_
    refine bw_ishl 32 dX10_minors_31 rfl ?_
    refine bw_eqi ((xn_shl (a := 1) c (by omega) (by omega)).trans (by rw [Nat.one_mul])) ?_
    refine bw_icmp_ge 161 35 dX10_minors_32 rfl rfl (fun c32 => ?_) (fun c32 => ?_)
    · exact bw_loc [(0, .ref M), (1, .int (nI m)), (2, .int (nI r))] ⟨rfl, rfl, rfl, trivial⟩ (kk A V hV hC hS)
    · exact absurd (Int32.le_refl _) c32
  | succ d ih =>
    intro k hk A V hV hC hS
    have hkc : k < 2 ^ c := by omega
    -- the place is written
    have put : bw_W g (bw_rm 7 0 0) mX10_minors Q 0 0 141 [(0, .ref M), (1, .int (nI m)), (2, .int (nI r)), (3, .int (bdg r)), (4, .int (nI k)), (5, .int (nI (mnv hG.2.2.1 (mcf C m) c r k)))] [] A := by
      refine bw_aload_n 142 dX10_minors_141 rfl rfl ?_
      refine bw_get 145 dX10_minors_142 rfl lX10_27 (hC.at 0 rfl) rfl ?_
      refine bw_iload_n 146 dX10_minors_145 rfl rfl ?_
      refine bw_bipush (8) 148 dX10_minors_146 (by decide) rfl ?_
      refine bw_eqi (y := nI 8) rfl ?_
      refine bw_ishl 149 dX10_minors_148 rfl ?_
      refine bw_eqi (xn_shl 8 (by omega) (by omega)) ?_
      refine bw_iload 151 dX10_minors_149 rfl rfl ?_
      refine bw_ior 152 dX10_minors_151 rfl ?_
      refine bw_eqi ((xn_or _ _).trans (by rw [or256 (by omega)])) ?_
      refine bw_iload 154 dX10_minors_152 rfl rfl ?_
      refine bw_iastN 155 dX10_minors_154 rfl (hC.at 4 rfl) (by omega) (by omega) (G := _) (rfl) (fun A hU => ?_)
      have hC := hC.upd 4 rfl hU
      have hS := hS.upd hU (by simp)
      clear hU
      refine bw_iincN (1) 158 dX10_minors_155 rfl rfl (by decide) (by decide) ?_
      refine bw_goto 22 dX10_minors_158 rfl ?_
      refine bw_loc _ ?_ (ih (k + 1) (by omega) A _ (hV.set hc hkc rfl) hC hS)
      exact ⟨rfl, rfl, rfl, rfl, congrArg (fun x => some (Value.int x)) (nI_1 ( k )), trivial⟩
    by_cases hr0 : r = 0
    · subst hr0
      have h0 := mnv_0 hG.2.2.1 (mcf C m) c k
      refine bw_iload 24 dX10_minors_22 rfl rfl ?_
      refine bw_iconst (1) 25 dX10_minors_24 (by decide) rfl ?_
      refine bw_eqi (y := nI 1) rfl ?_
      refine bw_aload_n 26 dX10_minors_25 rfl rfl ?_
      refine bw_get 29 dX10_minors_26 rfl lX10_20 (hC.at 0 rfl) rfl ?_
      refine bw_iload_n 30 dX10_minors_29 rfl rfl ?_
      refine bw_ialdN 31 dX10_minors_30 rfl (hC.at 2 rfl) (by omega) (by omega) ?_
      refine bw_eqi (congrArg nI hcc) ?_
      refine bw_ishl 32 dX10_minors_31 rfl ?_
      refine bw_eqi ((xn_shl (a := 1) c (by omega) (by omega)).trans (by rw [Nat.one_mul])) ?_
      refine bw_icmp_ge 161 35 dX10_minors_32 rfl rfl (fun c32 => ?_) (fun c32 => ?_)
      · exact absurd c32 (nI_ge (by omega) (by omega))
      · refine bw_iload_n 36 dX10_minors_35 rfl rfl ?_
        refine bw_if_ne 48 39 dX10_minors_36 rfl rfl (fun c36 => ?_) (fun c36 => ?_)
        · exact absurd rfl c36
        · refine bw_iload 41 dX10_minors_39 rfl rfl ?_
          refine bw_if_ne 48 44 dX10_minors_41 rfl rfl (fun c41 => ?_) (fun c41 => ?_)
          · have hv : mnv hG.2.2.1 (mcf C m) c 0 k = 0 := by
              rw [h0, if_neg (fun h => c41 (by rw [h]; rfl))]
            rw [hv] at put
            refine bw_iconst (0) 49 dX10_minors_48 (by decide) rfl ?_
            refine bw_eqi (y := nI 0) rfl ?_
            refine bw_istore 51 dX10_minors_49 rfl (by decide) ?_
            refine bw_iload_n 52 dX10_minors_51 rfl rfl ?_
            refine bw_if_eq 141 55 dX10_minors_52 rfl rfl (fun c52 => ?_) (fun c52 => ?_)
            · refine bw_loc _ ?_ put
              exact ⟨rfl, rfl, rfl, rfl, rfl, rfl, trivial⟩
            · exact absurd rfl c52
          · have hv : mnv hG.2.2.1 (mcf C m) c 0 k = 1 := by
              rw [h0, if_pos ((xn_eq0 (by omega)).mp c41)]
            rw [hv] at put
            refine bw_iconst (1) 45 dX10_minors_44 (by decide) rfl ?_
            refine bw_eqi (y := nI 1) rfl ?_
            refine bw_goto 49 dX10_minors_45 rfl ?_
            refine bw_istore 51 dX10_minors_49 rfl (by decide) ?_
            refine bw_iload_n 52 dX10_minors_51 rfl rfl ?_
            refine bw_if_eq 141 55 dX10_minors_52 rfl rfl (fun c52 => ?_) (fun c52 => ?_)
            · refine bw_loc _ ?_ put
              exact ⟨rfl, rfl, rfl, rfl, rfl, rfl, trivial⟩
            · exact absurd rfl c52
    · have hbd : bdg r = nI (Nat.log2 r) := if_neg hr0
      rw [hbd] at put ⊢
      refine bw_iload 24 dX10_minors_22 rfl rfl ?_
      refine bw_iconst (1) 25 dX10_minors_24 (by decide) rfl ?_
      refine bw_eqi (y := nI 1) rfl ?_
      refine bw_aload_n 26 dX10_minors_25 rfl rfl ?_
      refine bw_get 29 dX10_minors_26 rfl lX10_20 (hC.at 0 rfl) rfl ?_
      refine bw_iload_n 30 dX10_minors_29 rfl rfl ?_
      refine bw_ialdN 31 dX10_minors_30 rfl (hC.at 2 rfl) (by omega) (by omega) ?_
      refine bw_eqi (congrArg nI hcc) ?_
      refine bw_ishl 32 dX10_minors_31 rfl ?_
      refine bw_eqi ((xn_shl (a := 1) c (by omega) (by omega)).trans (by rw [Nat.one_mul])) ?_
      refine bw_icmp_ge 161 35 dX10_minors_32 rfl rfl (fun c32 => ?_) (fun c32 => ?_)
      · exact absurd c32 (nI_ge (by omega) (by omega))
      · refine bw_iload_n 36 dX10_minors_35 rfl rfl ?_
        refine bw_if_ne 48 39 dX10_minors_36 rfl rfl (fun c36 => ?_) (fun c36 => ?_)
        · refine bw_iconst (0) 49 dX10_minors_48 (by decide) rfl ?_
          refine bw_eqi (y := nI 0) rfl ?_
          refine bw_istore 51 dX10_minors_49 rfl (by decide) ?_
          refine bw_iload_n 52 dX10_minors_51 rfl rfl ?_
          refine bw_if_eq 141 55 dX10_minors_52 rfl rfl (fun c52 => ?_) (fun c52 => ?_)
          · exact absurd ((xn_eq0 (by omega)).mp c52) hr0
          · refine bw_iload_n 56 dX10_minors_55 rfl rfl ?_
            refine bw_cSi 59 dX10_minors_56 rfl sX10_151 (m_bitsOf g (by omega)) rfl rfl (Nat.le_of_ble_eq_true rfl) ⟨(Nat.le_of_ble_eq_true rfl), (Nat.le_of_ble_eq_true rfl)⟩ (Nat.le_of_ble_eq_true rfl) (Nat.le_of_ble_eq_true rfl) ?_
            refine bw_iload 61 dX10_minors_59 rfl rfl ?_
            refine bw_cSi 64 dX10_minors_61 rfl sX10_151 (m_bitsOf g (by omega)) rfl rfl (Nat.le_of_ble_eq_true rfl) ⟨(Nat.le_of_ble_eq_true rfl), (Nat.le_of_ble_eq_true rfl)⟩ (Nat.le_of_ble_eq_true rfl) (Nat.le_of_ble_eq_true rfl) ?_
            refine bw_icmp_ne 141 67 dX10_minors_64 rfl rfl (fun c64 => ?_) (fun c64 => ?_)
            · have hv : mnv hG.2.2.1 (mcf C m) c r k = 0 := mnv_pop hG.2.2.1 hc hr (by omega) (fun h => c64 (by rw [h]))
              rw [hv] at put
              refine bw_loc _ ?_ put
              exact ⟨rfl, rfl, rfl, rfl, rfl, rfl, trivial⟩
            · refine bw_iconst (0) 68 dX10_minors_67 (by decide) rfl ?_
              refine bw_eqi (y := nI 0) rfl ?_
              refine bw_istore 70 dX10_minors_68 rfl (by decide) ?_
              refine bw_loc _ ?_ (m_minors_j g hG hCl hm hc hcc hr hr0 hkc hV hC put c 0 (by omega))
              exact ⟨rfl, rfl, rfl, rfl, rfl, rfl, rfl, trivial⟩
        · exact absurd ((xn_eq0 (by omega)).mp c36) hr0
/-- the minors are made -/
def mnP (g : bw_G) {n q : Nat} (hG : GFp n q) (M m h c : Nat) (e : va_E) (rr cc C : Nat → Nat) (A0 A' : bw_H) : Prop := ∃ V, mnI hG (mcf C m) c (2 ^ h) 0 V ∧ bw_sm [M + 5] A0 A' ∧ bw_has A' ((M, e) :: (mmc g M rr cc C ++ [(M + 5, bw_an g 65536 V)]))
set_option maxHeartbeats 4000000 in
theorem m_minors_r (g : bw_G) {A0 : bw_H} {M n p gg th rn mn pn rd rs pt sn m h c : Nat} {rr cc C : Nat → Nat} (hG : GFg n p gg) (hCl : ∀ i, C i < 2 ^ n) (hm : m < 40) (hh : h ≤ 8) (hc : c ≤ 8) (hrr : rr m = h) (hcc : cc m = c) :
    ∀ (d r : Nat), r + d = 2 ^ h → ∀ (A : bw_H) (V : Nat → Nat), mnI hG.2.2.1 (mcf C m) c r 0 V → bw_has A ((M, mdo M n p gg th rn mn pn rd rs pt sn) :: (mmc g M rr cc C ++ [(M + 5, bw_an g 65536 V)])) → bw_sm [M + 5] A0 A →
      bw_W g (bw_rm 7 0 0) mX10_minors (bw_pv (mnP g hG.2.2.1 M m h c (mdo M n p gg th rn mn pn rd rs pt sn) rr cc C A0)) 0 0 2 [(0, .ref M), (1, .int (nI m)), (2, .int (nI r))] [] A := by
  have h256 : 2 ^ h ≤ 2 ^ 8 := Nat.pow_le_pow_right (by omega) hh
  intro d
  induction d with
  | zero =>
    intro r hr A V hV hC hS
    have hr : r = 2 ^ h := by omega
    subst hr
    refine bw_iload_n 3 dX10_minors_2 rfl rfl ?_
    refine bw_iconst (1) 4 dX10_minors_3 (by decide) rfl ?_
    refine bw_eqi (y := nI 1) rfl ?_
    refine bw_aload_n 5 dX10_minors_4 rfl rfl ?_
    refine bw_get 8 dX10_minors_5 rfl lX10_17 (hC.at 0 rfl) rfl ?_
    refine bw_iload_n 9 dX10_minors_8 rfl rfl ?_
    refine bw_ialdN 10 dX10_minors_9 rfl (hC.at 1 rfl) (by omega) (by omega) ?_
    refine bw_eqi (congrArg nI hrr) ?_
    refine bw_ishl 11 dX10_minors_10 rfl ?_
    refine bw_eqi ((xn_shl (a := 1) h (by omega) (by omega)).trans (by rw [Nat.one_mul])) ?_
    refine bw_icmp_ge 167 14 dX10_minors_11 rfl rfl (fun c11 => ?_) (fun c11 => ?_)
    · refine bw_vret dX10_minors_167 rfl (Nat.le_of_ble_eq_true rfl) (Nat.le_of_ble_eq_true rfl) ?_
      exact ⟨rfl, V, hV, hS, hC⟩
    · exact absurd (Int32.le_refl _) c11
  | succ d ih =>
    intro r hr A V hV hC hS
    refine bw_iload_n 3 dX10_minors_2 rfl rfl ?_
    refine bw_iconst (1) 4 dX10_minors_3 (by decide) rfl ?_
    refine bw_eqi (y := nI 1) rfl ?_
    refine bw_aload_n 5 dX10_minors_4 rfl rfl ?_
    refine bw_get 8 dX10_minors_5 rfl lX10_17 (hC.at 0 rfl) rfl ?_
    refine bw_iload_n 9 dX10_minors_8 rfl rfl ?_
    refine bw_ialdN 10 dX10_minors_9 rfl (hC.at 1 rfl) (by omega) (by omega) ?_
    refine bw_eqi (congrArg nI hrr) ?_
    refine bw_ishl 11 dX10_minors_10 rfl ?_
    refine bw_eqi ((xn_shl (a := 1) h (by omega) (by omega)).trans (by rw [Nat.one_mul])) ?_
    refine bw_icmp_ge 167 14 dX10_minors_11 rfl rfl (fun c11 => ?_) (fun c11 => ?_)
    · exact absurd c11 (nI_ge (by omega) (by omega))
    · skip
      refine bw_iload_n 15 dX10_minors_14 rfl rfl ?_
      refine bw_cSi 18 dX10_minors_15 rfl sX10_99 (c10_degreeOf g (by omega)) rfl rfl (Nat.le_of_ble_eq_true rfl) ⟨(Nat.le_of_ble_eq_true rfl), (Nat.le_of_ble_eq_true rfl)⟩ (Nat.le_of_ble_eq_true rfl) (Nat.le_of_ble_eq_true rfl) ?_
      refine bw_istore_n 19 dX10_minors_18 rfl (by decide) ?_
      refine bw_iconst (0) 20 dX10_minors_19 (by decide) rfl ?_
      refine bw_eqi (y := nI 0) rfl ?_
      refine bw_istore 22 dX10_minors_20 rfl (by decide) ?_
      refine bw_loc _ ?_ (m_minors_k g hG hCl hm hc hcc (show r < 256 by omega) (fun A V hV hC hS => ?_) (2 ^ c) 0 (by omega) A V hV hC hS)
      · exact ⟨rfl, rfl, rfl, rfl, rfl, trivial⟩
      refine bw_iincN (1) 164 dX10_minors_161 rfl rfl (by decide) (by decide) ?_
      refine bw_goto 2 dX10_minors_164 rfl ?_
      refine bw_loc _ ?_ (ih (r + 1) (by omega) A V hV.row hC hS)
      exact ⟨rfl, rfl, congrArg (fun x => some (Value.int x)) (nI_1 ( r )), trivial⟩
theorem m_minors (g : bw_G) {A : bw_H} {M n p gg th rn mn pn rd rs pt sn m h c : Nat} {rr cc C V0 : Nat → Nat} (hG : GFg n p gg) (hC : bw_has A ((M, mdo M n p gg th rn mn pn rd rs pt sn) :: (mmc g M rr cc C ++ [(M + 5, bw_an g 65536 V0)]))) (hCl : ∀ i, C i < 2 ^ n) (hm : m < 40) (hh : h ≤ 8) (hc : c ≤ 8) (hrr : rr m = h) (hcc : cc m = c) : bw_C g (bw_rm 7 0 0) mX10_minors [.ref M, .int (nI m)] A (bw_pv (mnP g hG.2.2.1 M m h c (mdo M n p gg th rn mn pn rd rs pt sn) rr cc C A)) := by
  refine bw_C.of (by decide) (Nat.le_of_ble_eq_true rfl) rfl ?_
  refine bw_iconst (0) 1 dX10_minors_0 (by decide) rfl ?_
  refine bw_eqi (y := nI 0) rfl ?_
  refine bw_istore_n 2 dX10_minors_1 rfl (by decide) ?_
  refine bw_loc _ ?_ (m_minors_r g hG hCl hm hh hc hrr hcc (2 ^ h) 0 (by omega) A V0 (fun r' k' hx => absurd hx (by omega)) hC bw_sm.rf)
  exact ⟨rfl, rfl, rfl, trivial⟩
