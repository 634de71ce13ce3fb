/-! the reference: powers, sums, times -/
/-- cells filled up to place i, j of matrix m -/
def gfl (B : Nat → Nat) (m : Nat) (v : Nat → Nat → Nat) (c i j t : Nat) : Nat := if 64 * m ≤ t ∧ t < 64 * m + 64 ∧ (((t - 64 * m) / 8 < i ∧ (t - 64 * m) % 8 < c) ∨ ((t - 64 * m) / 8 = i ∧ (t - 64 * m) % 8 < j)) then v ((t - 64 * m) / 8) ((t - 64 * m) % 8) else B t
theorem gfl_s {B : Nat → Nat} {m c i j : Nat} {v : Nat → Nat → Nat} (hi : i < 8) (hj : j < 8) : (fun t => if t = 64 * m + 8 * i + j then v i j else gfl B m v c i j t) = gfl B m v c i (j + 1) := by
  funext t
  unfold gfl
  by_cases h : t = 64 * m + 8 * i + j
  · have h1 : (t - 64 * m) / 8 = i := by omega
    have h2 : (t - 64 * m) % 8 = j := by omega
    rw [if_pos h, if_pos (by omega), h1, h2]
  · rw [if_neg h]
    by_cases h3 : 64 * m ≤ t ∧ t < 64 * m + 64 ∧ (((t - 64 * m) / 8 < i ∧ (t - 64 * m) % 8 < c) ∨ ((t - 64 * m) / 8 = i ∧ (t - 64 * m) % 8 < j))
    · rw [if_pos h3, if_pos (by omega)]
    · rw [if_neg h3, if_neg (by omega)]
theorem gfl_r {B : Nat → Nat} {m c i : Nat} {v : Nat → Nat → Nat} : gfl B m v c i c = gfl B m v c (i + 1) 0 := by
  funext t
  unfold gfl
  refine if_iff ?_
  omega
theorem gfl_0 {B : Nat → Nat} {m c : Nat} {v : Nat → Nat → Nat} : gfl B m v c 0 0 = B := by
  funext t
  unfold gfl
  rw [if_neg (by omega)]
theorem gfl_at {B : Nat → Nat} {m c i j k : Nat} {v : Nat → Nat → Nat} (hi : i < 8) (hk : k < j) (hj : j ≤ 8) : gfl B m v c i j (64 * m + 8 * i + k) = v i k := by
  unfold gfl
  have h1 : (64 * m + 8 * i + k - 64 * m) / 8 = i := by omega
  have h2 : (64 * m + 8 * i + k - 64 * m) % 8 = k := by omega
  rw [h1, h2, if_pos (by omega)]
theorem gfl_no {B : Nat → Nat} {m c i j t : Nat} {v : Nat → Nat → Nat} (h : t < 64 * m ∨ 64 * m + 64 ≤ t) : gfl B m v c i j t = B t := by
  unfold gfl
  rw [if_neg (by omega)]
set_option maxHeartbeats 4000000 in
theorem m_powers_in (g : bw_G) {A0 : bw_H} {M n p gg rn mn pn rd rs pt sn r c i m : Nat} {row B rr cc : Nat → Nat} {Q : bw_O → bw_H → Prop} (hG : GFg n p gg) (hrow : ∀ i, row i < 2 ^ n) (hr : r ≤ 8) (hc : c ≤ 8) (hi : i < r) (hm : m < 40)
    (kk : ∀ A : bw_H, bw_has A ((M, mdo M n p gg 0 rn mn pn rd rs pt sn) :: (M + 1, bw_an g 130 row) :: mmc g M rr cc (gfl B m (fun i j => gpow n (2 ^ n ||| p) (row i) j) c i c)) → bw_sm (M :: mml M) A0 A → bw_W g (bw_rm 8 0 0) mX10_powers Q 0 0 144 [(0, .ref M), (1, .int (nI r)), (2, .int (nI c)), (3, .int (nI m)), (4, .int (nI i))] [] A) :
    ∀ (d j : Nat), j + d = c → ∀ A : bw_H, bw_has A ((M, mdo M n p gg 0 rn mn pn rd rs pt sn) :: (M + 1, bw_an g 130 row) :: mmc g M rr cc (gfl B m (fun i j => gpow n (2 ^ n ||| p) (row i) j) c i j)) → bw_sm (M :: mml M) A0 A →
      bw_W g (bw_rm 8 0 0) mX10_powers Q 0 0 82 [(0, .ref M), (1, .int (nI r)), (2, .int (nI c)), (3, .int (nI m)), (4, .int (nI i)), (5, .int (nI j))] [] A := by
  intro d
  induction d with
  | zero =>
    intro j hj A hC hS
    have hj : j = c := by omega
    subst hj
    refine bw_iload 84 dX10_powers_82 rfl rfl ?_
    refine bw_iload_n 85 dX10_powers_84 rfl rfl ?_
    refine bw_icmp_ge 144 88 dX10_powers_85 rfl rfl (fun c85 => ?_) (fun c85 => ?_)
    · exact bw_loc [(0, .ref M), (1, .int (nI r)), (2, .int (nI j)), (3, .int (nI m)), (4, .int (nI i))] ⟨rfl, rfl, rfl, rfl, rfl, trivial⟩ (kk A hC hS)
    · exact absurd (Int32.le_refl _) c85
  | succ d ih =>
    intro j hj A hC hS
    refine bw_iload 84 dX10_powers_82 rfl rfl ?_
    refine bw_iload_n 85 dX10_powers_84 rfl rfl ?_
    refine bw_icmp_ge 144 88 dX10_powers_85 rfl rfl (fun c85 => ?_) (fun c85 => ?_)
    · exact absurd c85 (nI_ge (by omega) (by omega))
    · skip
      refine bw_aload_n 89 dX10_powers_88 rfl rfl ?_
      refine bw_get 92 dX10_powers_89 rfl lX10_23 (hC.at 0 rfl) rfl ?_
      refine bw_aload_n 93 dX10_powers_92 rfl rfl ?_
      refine bw_iload_n 94 dX10_powers_93 rfl rfl ?_
      refine bw_iload 96 dX10_powers_94 rfl rfl ?_
      refine bw_iload 98 dX10_powers_96 rfl rfl ?_
      refine bw_cVi 101 dX10_powers_98 rfl vX10_140 (m_at g) (hC.at 0 rfl) rfl rfl (Nat.le_of_ble_eq_true rfl) ⟨(Nat.le_of_ble_eq_true rfl), (Nat.le_of_ble_eq_true rfl)⟩ (Nat.le_of_ble_eq_true rfl) (Nat.le_of_ble_eq_true rfl) ?_
      refine bw_iload 103 dX10_powers_101 rfl rfl ?_
      refine bw_if_ne 110 106 dX10_powers_103 rfl rfl (fun c103 => ?_) (fun c103 => ?_)
      · have h0 : j ≠ 0 := fun h => c103 (by rw [h]; rfl)
        have hv : gm n (2 ^ n ||| p) (gfl B m (fun i j => gpow n (2 ^ n ||| p) (row i) j) c i j (64 * m + 8 * i + (j - 1))) (row i) = gpow n (2 ^ n ||| p) (row i) j := by
          rw [gfl_at (by omega) (by omega) (by omega), show j = (j - 1) + 1 by omega]
          rfl
        refine bw_aload_n 111 dX10_powers_110 rfl rfl ?_
        refine bw_aload_n 112 dX10_powers_111 rfl rfl ?_
        refine bw_get 115 dX10_powers_112 rfl lX10_23 (hC.at 0 rfl) rfl ?_
        refine bw_aload_n 116 dX10_powers_115 rfl rfl ?_
        refine bw_iload_n 117 dX10_powers_116 rfl rfl ?_
        refine bw_iload 119 dX10_powers_117 rfl rfl ?_
        refine bw_iload 121 dX10_powers_119 rfl rfl ?_
        refine bw_iconst (1) 122 dX10_powers_121 (by decide) rfl ?_
        refine bw_isub 123 dX10_powers_122 rfl ?_
        refine bw_eqi ((tI_sub j).trans (tI_p h0)) ?_
        refine bw_cVi 126 dX10_powers_123 rfl vX10_140 (m_at g) (hC.at 0 rfl) rfl rfl (Nat.le_of_ble_eq_true rfl) ⟨(Nat.le_of_ble_eq_true rfl), (Nat.le_of_ble_eq_true rfl)⟩ (Nat.le_of_ble_eq_true rfl) (Nat.le_of_ble_eq_true rfl) ?_
        refine bw_ialdN 127 dX10_powers_126 rfl (hC.at 4 rfl) (by omega) (by omega) ?_
        refine bw_aload_n 128 dX10_powers_127 rfl rfl ?_
        refine bw_get 131 dX10_powers_128 rfl lX10_13 (hC.at 0 rfl) rfl ?_
        refine bw_iload 133 dX10_powers_131 rfl rfl ?_
        refine bw_ialdN 134 dX10_powers_133 rfl (hC.at 1 rfl) (by omega) (by omega) ?_
        refine bw_cVi 137 dX10_powers_134 rfl vX10_102 (m_mul g hG (hC.sub [0] (by decide) rfl) (by rw [gfl_at (by omega) (by omega) (by omega)]; exact gpow_lt hG.2.2.1 _ _) (hrow i)) (hC.at 0 rfl) rfl rfl (Nat.le_of_ble_eq_true rfl) ⟨(Nat.le_of_ble_eq_true rfl), (Nat.le_of_ble_eq_true rfl)⟩ (Nat.le_of_ble_eq_true rfl) (Nat.le_of_ble_eq_true rfl) ?_
        refine bw_eqi (congrArg nI hv) ?_
        refine bw_iastN 138 dX10_powers_137 rfl (hC.at 4 rfl) (by omega) (by omega) (G := gfl B m (fun i j => gpow n (2 ^ n ||| p) (row i) j) c i (j + 1)) (gfl_s (v := fun i j => gpow n (2 ^ n ||| p) (row i) j) (i := i) (j := j) (by omega) (by omega)) (fun A hU => ?_)
        have hC := hC.upd 4 rfl hU
        have hS := hS.upd hU (by simp)
        clear hU
        refine bw_iincN (1) 141 dX10_powers_138 rfl rfl (by decide) (by decide) ?_
        refine bw_goto 82 dX10_powers_141 rfl ?_
        refine bw_loc _ ?_ (ih (j + 1) (by omega) A hC hS)
        exact ⟨rfl, rfl, rfl, rfl, rfl, congrArg (fun x => some (Value.int x)) (nI_1 ( j )), trivial⟩
      · have h0 : j = 0 := (xn_eq0 (by omega)).mp c103
        have hv : 1 = gpow n (2 ^ n ||| p) (row i) j := by rw [h0]; rfl
        refine bw_iconst (1) 107 dX10_powers_106 (by decide) rfl ?_
        refine bw_eqi (y := nI 1) rfl ?_
        refine bw_eqi (congrArg nI hv) ?_
        refine bw_goto 137 dX10_powers_107 rfl ?_
        refine bw_iastN 138 dX10_powers_137 rfl (hC.at 4 rfl) (by omega) (by omega) (G := gfl B m (fun i j => gpow n (2 ^ n ||| p) (row i) j) c i (j + 1)) (gfl_s (v := fun i j => gpow n (2 ^ n ||| p) (row i) j) (i := i) (j := j) (by omega) (by omega)) (fun A hU => ?_)
        have hC := hC.upd 4 rfl hU
        have hS := hS.upd hU (by simp)
        clear hU
        refine bw_iincN (1) 141 dX10_powers_138 rfl rfl (by decide) (by decide) ?_
        refine bw_goto 82 dX10_powers_141 rfl ?_
        refine bw_loc _ ?_ (ih (j + 1) (by omega) A hC hS)
        exact ⟨rfl, rfl, rfl, rfl, rfl, congrArg (fun x => some (Value.int x)) (nI_1 ( j )), trivial⟩
set_option maxHeartbeats 4000000 in
theorem m_powers_out (g : bw_G) {A0 : bw_H} {M n p gg rn mn pn rd rs pt sn r c m : Nat} {row B rr cc : Nat → Nat} (hG : GFg n p gg) (hrow : ∀ i, row i < 2 ^ n) (hr : r ≤ 8) (hc : c ≤ 8) (hm : m < 40) :
    ∀ (d i : Nat), i + d = r → ∀ A : bw_H, bw_has A ((M, mdo M n p gg 0 rn mn pn rd rs pt sn) :: (M + 1, bw_an g 130 row) :: mmc g M rr cc (gfl B m (fun i j => gpow n (2 ^ n ||| p) (row i) j) c i 0)) → bw_sm (M :: mml M) A0 A →
      bw_W g (bw_rm 8 0 0) mX10_powers (bw_pm (mdP g M (mdo M n p gg 0 0 mn pn rd rs pt sn) (nI m) rr cc (gfl B m (fun i j => gpow n (2 ^ n ||| p) (row i) j) c r 0) A0)) 0 0 73 [(0, .ref M), (1, .int (nI r)), (2, .int (nI c)), (3, .int (nI m)), (4, .int (nI i))] [] A := by
  intro d
  induction d with
  | zero =>
    intro i hi A hC hS
    have hi : i = r := by omega
    subst hi
    refine bw_iload 75 dX10_powers_73 rfl rfl ?_
    refine bw_iload_n 76 dX10_powers_75 rfl rfl ?_
    refine bw_icmp_ge 150 79 dX10_powers_76 rfl rfl (fun c76 => ?_) (fun c76 => ?_)
    · refine bw_aload_n 151 dX10_powers_150 rfl rfl ?_
      refine bw_iconst (0) 152 dX10_powers_151 (by decide) rfl ?_
      refine bw_eqi (y := nI 0) rfl ?_
      refine bw_putU 155 dX10_powers_152 rfl pX10_124 (hC.at 0 rfl) rfl rfl (Nat.le_of_ble_eq_true rfl) (fun A hU => ?_)
      have hC := hC.upd 0 rfl hU
      have hS := hS.upd hU (by simp)
      clear hU
      refine bw_iload_n 156 dX10_powers_155 rfl rfl ?_
      refine bw_iret dX10_powers_156 rfl (Nat.le_of_ble_eq_true rfl) (Nat.le_of_ble_eq_true rfl) ?_
      exact ⟨_, rfl, ⟨rfl, hS, hC.at 0 rfl⟩, hC.sub [2, 3, 4] (by decide) rfl⟩
    · exact absurd (Int32.le_refl _) c76
  | succ d ih =>
    intro i hi A hC hS
    refine bw_iload 75 dX10_powers_73 rfl rfl ?_
    refine bw_iload_n 76 dX10_powers_75 rfl rfl ?_
    refine bw_icmp_ge 150 79 dX10_powers_76 rfl rfl (fun c76 => ?_) (fun c76 => ?_)
    · exact absurd c76 (nI_ge (by omega) (by omega))
    · skip
      refine bw_iconst (0) 80 dX10_powers_79 (by decide) rfl ?_
      refine bw_eqi (y := nI 0) rfl ?_
      refine bw_istore 82 dX10_powers_80 rfl (by decide) ?_
      refine bw_loc _ ?_ (m_powers_in g hG hrow hr hc (show i < r by omega) hm (fun A hC hS => ?_) c 0 (by omega) A hC hS)
      · exact ⟨rfl, rfl, rfl, rfl, rfl, rfl, trivial⟩
      refine bw_iincN (1) 147 dX10_powers_144 rfl rfl (by decide) (by decide) ?_
      refine bw_goto 73 dX10_powers_147 rfl ?_
      refine bw_loc _ ?_ (ih (i + 1) (by omega) A (by rw [← gfl_r]; exact hC) hS)
      exact ⟨rfl, rfl, rfl, rfl, congrArg (fun x => some (Value.int x)) (nI_1 ( i )), trivial⟩
set_option maxHeartbeats 4000000 in
theorem m_powers (g : bw_G) {A : bw_H} {M n p gg th rn mn pn rd rs pt sn r c : Nat} {row rr cc C : Nat → Nat} (hG : GFg n p gg) (hC : bw_has A ((M, mdo M n p gg th rn mn pn rd rs pt sn) :: (M + 1, bw_an g 130 row) :: mmc g M rr cc C)) (hrow : ∀ i, row i < 2 ^ n) (hm : mn < 40) (hr1 : 1 ≤ r) (hr : r ≤ 8) (hc1 : 1 ≤ c) (hc : c ≤ 8) (hrn : rn = r) (hal0 : ¬ hal row rn 1) : bw_C g (bw_rm 8 0 0) mX10_powers [.ref M, .int (nI r), .int (nI c)] A (bw_pm (mdP g M (mdo M n p gg 0 0 (mn + 1) pn rd rs pt sn) (nI mn) (fun i => if i = mn then r else rr i) (fun i => if i = mn then c else cc i) (gfl (gzm C mn 64) mn (fun i j => gpow n (2 ^ n ||| p) (row i) j) c r 0) A)) := by
  have hS : bw_sm (M :: mml M) A A := bw_sm.rf
  refine bw_C.of (by decide) (Nat.le_of_ble_eq_true rfl) rfl ?_
  refine bw_aload_n 1 dX10_powers_0 rfl rfl ?_
  refine bw_iconst (0) 2 dX10_powers_1 (by decide) rfl ?_
  refine bw_eqi (y := nI 0) rfl ?_
  refine bw_putU 5 dX10_powers_2 rfl pX10_1 (hC.at 0 rfl) rfl rfl (Nat.le_of_ble_eq_true rfl) (fun A hU => ?_)
  have hC := hC.upd 0 rfl hU
  have hS := hS.upd hU (by simp)
  clear hU
  refine bw_iload_n 6 dX10_powers_5 rfl rfl ?_
  refine bw_cSi 9 dX10_powers_6 rfl sX10_130 (m_isSize g (sI_nI hr1 hr)) rfl rfl (Nat.le_of_ble_eq_true rfl) ⟨(Nat.le_of_ble_eq_true rfl), (Nat.le_of_ble_eq_true rfl)⟩ (Nat.le_of_ble_eq_true rfl) (Nat.le_of_ble_eq_true rfl) ?_
  refine bw_if_eq 19 12 dX10_powers_9 rfl rfl (fun c9 => ?_) (fun c9 => ?_)
  · exact absurd c9 (by decide)
  · refine bw_iload_n 13 dX10_powers_12 rfl rfl ?_
    refine bw_cSi 16 dX10_powers_13 rfl sX10_130 (m_isSize g (sI_nI hc1 hc)) rfl rfl (Nat.le_of_ble_eq_true rfl) ⟨(Nat.le_of_ble_eq_true rfl), (Nat.le_of_ble_eq_true rfl)⟩ (Nat.le_of_ble_eq_true rfl) (Nat.le_of_ble_eq_true rfl) ?_
    refine bw_if_ne 25 19 dX10_powers_16 rfl rfl (fun c16 => ?_) (fun c16 => ?_)
    · refine bw_aload_n 26 dX10_powers_25 rfl rfl ?_
      refine bw_get 29 dX10_powers_26 rfl lX10_124 (hC.at 0 rfl) rfl ?_
      refine bw_iload_n 30 dX10_powers_29 rfl rfl ?_
      refine bw_icmp_ne 42 33 dX10_powers_30 rfl rfl (fun c30 => ?_) (fun c30 => ?_)
      · exact absurd (by rw [hrn]) c30
      · refine bw_aload_n 34 dX10_powers_33 rfl rfl ?_
        refine bw_iconst (0) 35 dX10_powers_34 (by decide) rfl ?_
        refine bw_eqi (y := nI 0) rfl ?_
        refine bw_iconst (1) 36 dX10_powers_35 (by decide) rfl ?_
        refine bw_eqi (y := nI 1) rfl ?_
        refine bw_cVi 39 dX10_powers_36 rfl vX10_136 (m_hasAlike g (s := 1) (z := 0) (hC.sub [0, 1] (by decide) rfl) hG.p16 hrow (by omega) (by omega) (by omega) (Or.inr ⟨rfl, hal0⟩)) (hC.at 0 rfl) rfl rfl (Nat.le_of_ble_eq_true rfl) ⟨(Nat.le_of_ble_eq_true rfl), (Nat.le_of_ble_eq_true rfl)⟩ (Nat.le_of_ble_eq_true rfl) (Nat.le_of_ble_eq_true rfl) ?_
        refine bw_if_eq 48 42 dX10_powers_39 rfl rfl (fun c39 => ?_) (fun c39 => ?_)
        · refine bw_aload_n 49 dX10_powers_48 rfl rfl ?_
          refine bw_get 52 dX10_powers_49 rfl lX10_127 (hC.at 0 rfl) rfl ?_
          refine bw_bipush (40) 54 dX10_powers_52 (by decide) rfl ?_
          refine bw_eqi (y := nI 40) rfl ?_
          refine bw_icmp_ne 63 57 dX10_powers_54 rfl rfl (fun c54 => ?_) (fun c54 => ?_)
          · refine bw_aload_n 64 dX10_powers_63 rfl rfl ?_
            refine bw_iload_n 65 dX10_powers_64 rfl rfl ?_
            refine bw_iload_n 66 dX10_powers_65 rfl rfl ?_
            refine bw_cVm 69 dX10_powers_66 rfl vX10_133 (m_made g (hC.sub [0, 2, 3, 4] (by decide) rfl) hm) (hC.at 0 rfl) rfl rfl (Nat.le_of_ble_eq_true rfl) ⟨(Nat.le_of_ble_eq_true rfl), (Nat.le_of_ble_eq_true rfl)⟩ (Nat.le_of_ble_eq_true rfl) (Nat.le_of_ble_eq_true rfl) (fun x A hP => ?_)
            obtain ⟨⟨h4, h5, h6⟩, h7⟩ := hP
            subst h4
            have hRW := (hC.sub [1] (by decide) rfl).frm h5 (by simp <;> omega)
            have hS := hS.trans h5 (fun _ h => h)
            refine bw_istore_n 70 dX10_powers_69 rfl (by decide) ?_
            refine bw_iconst (0) 71 dX10_powers_70 (by decide) rfl ?_
            refine bw_eqi (y := nI 0) rfl ?_
            refine bw_istore 73 dX10_powers_71 rfl (by decide) ?_
            refine bw_loc _ ?_ (m_powers_out g hG hrow hr hc hm r 0 (by omega) A (by rw [gfl_0]; exact ((bw_has.one h6).ap hRW (by simp <;> omega)).ap h7 (by simp <;> omega)) hS)
            exact ⟨rfl, rfl, rfl, rfl, rfl, trivial⟩
          · exact absurd ((nI_eq (b := 40) (by omega) (by omega)).mp c54) (by omega)
        · exact absurd rfl c39
    · exact absurd c16 (by decide)
theorem m_powersZ (g : bw_G) {A : bw_H} {M n p gg th rn pn rd rs pt sn : Nat} {a b : Int32} {row : Nat → Nat} (hn : 2 ^ n ≤ 65536) (hC : bw_has A [(M, mdo M n p gg th rn 40 pn rd rs pt sn), (M + 1, bw_an g 130 row)]) (hrow : ∀ i, row i < 2 ^ n) (hr130 : rn ≤ 130) (h1 : sI a) (h2 : sI b) (hrn : nI rn = a) (hal0 : ¬ hal row rn 1) : bw_C g (bw_rm 8 0 0) mX10_powers [.ref M, .int a, .int b] A (bw_pm (maR M [] (mdo M n p gg 3 rn 40 pn rd rs pt sn) (nI 0) A)) := by
  have hS : bw_sm [M] A A := bw_sm.rf
  refine bw_C.of (by decide) (Nat.le_of_ble_eq_true rfl) rfl ?_
  refine bw_aload_n 1 dX10_powers_0 rfl rfl ?_
  refine bw_iconst (0) 2 dX10_powers_1 (by decide) rfl ?_
  refine bw_eqi (y := nI 0) rfl ?_
  refine bw_putU 5 dX10_powers_2 rfl pX10_1 (hC.at 0 rfl) rfl rfl (Nat.le_of_ble_eq_true rfl) (fun A hU => ?_)
  have hC := hC.upd 0 rfl hU
  have hS := hS.upd hU (by simp)
  clear hU
  refine bw_iload_n 6 dX10_powers_5 rfl rfl ?_
  refine bw_cSi 9 dX10_powers_6 rfl sX10_130 (m_isSize g h1) rfl rfl (Nat.le_of_ble_eq_true rfl) ⟨(Nat.le_of_ble_eq_true rfl), (Nat.le_of_ble_eq_true rfl)⟩ (Nat.le_of_ble_eq_true rfl) (Nat.le_of_ble_eq_true rfl) ?_
  refine bw_if_eq 19 12 dX10_powers_9 rfl rfl (fun c9 => ?_) (fun c9 => ?_)
  · exact absurd c9 (by decide)
  · refine bw_iload_n 13 dX10_powers_12 rfl rfl ?_
    refine bw_cSi 16 dX10_powers_13 rfl sX10_130 (m_isSize g h2) rfl rfl (Nat.le_of_ble_eq_true rfl) ⟨(Nat.le_of_ble_eq_true rfl), (Nat.le_of_ble_eq_true rfl)⟩ (Nat.le_of_ble_eq_true rfl) (Nat.le_of_ble_eq_true rfl) ?_
    refine bw_if_ne 25 19 dX10_powers_16 rfl rfl (fun c16 => ?_) (fun c16 => ?_)
    · refine bw_aload_n 26 dX10_powers_25 rfl rfl ?_
      refine bw_get 29 dX10_powers_26 rfl lX10_124 (hC.at 0 rfl) rfl ?_
      refine bw_iload_n 30 dX10_powers_29 rfl rfl ?_
      refine bw_icmp_ne 42 33 dX10_powers_30 rfl rfl (fun c30 => ?_) (fun c30 => ?_)
      · exact absurd hrn c30
      · refine bw_aload_n 34 dX10_powers_33 rfl rfl ?_
        refine bw_iconst (0) 35 dX10_powers_34 (by decide) rfl ?_
        refine bw_eqi (y := nI 0) rfl ?_
        refine bw_iconst (1) 36 dX10_powers_35 (by decide) rfl ?_
        refine bw_eqi (y := nI 1) rfl ?_
        refine bw_cVi 39 dX10_powers_36 rfl vX10_136 (m_hasAlike g (s := 1) (z := 0) (hC.sub [0, 1] (by decide) rfl) hn hrow hr130 (by omega) (by omega) (Or.inr ⟨rfl, hal0⟩)) (hC.at 0 rfl) rfl rfl (Nat.le_of_ble_eq_true rfl) ⟨(Nat.le_of_ble_eq_true rfl), (Nat.le_of_ble_eq_true rfl)⟩ (Nat.le_of_ble_eq_true rfl) (Nat.le_of_ble_eq_true rfl) ?_
        refine bw_if_eq 48 42 dX10_powers_39 rfl rfl (fun c39 => ?_) (fun c39 => ?_)
        · refine bw_aload_n 49 dX10_powers_48 rfl rfl ?_
          refine bw_get 52 dX10_powers_49 rfl lX10_127 (hC.at 0 rfl) rfl ?_
          refine bw_bipush (40) 54 dX10_powers_52 (by decide) rfl ?_
          refine bw_eqi (y := nI 40) rfl ?_
          refine bw_icmp_ne 63 57 dX10_powers_54 rfl rfl (fun c54 => ?_) (fun c54 => ?_)
          · exact absurd rfl c54
          · refine bw_aload_n 58 dX10_powers_57 rfl rfl ?_
            refine bw_iconst (3) 59 dX10_powers_58 (by decide) rfl ?_
            refine bw_eqi (y := nI 3) rfl ?_
            refine bw_cVm 62 dX10_powers_59 rfl vX10_118 (m_fail g (hC.sub [0] (by decide) rfl)) (hC.at 0 rfl) rfl rfl (Nat.le_of_ble_eq_true rfl) ⟨(Nat.le_of_ble_eq_true rfl), (Nat.le_of_ble_eq_true rfl)⟩ (Nat.le_of_ble_eq_true rfl) (Nat.le_of_ble_eq_true rfl) (fun x A hP => ?_)
            obtain ⟨h4, h5⟩ := hP
            subst h4
            have hC := hC.upd 0 rfl h5
            have hS := hS.upd h5 (by simp)
            refine bw_iret dX10_powers_62 rfl (Nat.le_of_ble_eq_true rfl) (Nat.le_of_ble_eq_true rfl) ?_
            exact ⟨_, rfl, rfl, hS, hC.at 0 rfl⟩
        · exact absurd rfl c39
    · exact absurd c16 (by decide)
theorem m_powersY (g : bw_G) {A : bw_H} {M n p gg th rn mn pn rd rs pt sn : Nat} {a b : Int32} {row : Nat → Nat} (hn : 2 ^ n ≤ 65536) (hC : bw_has A [(M, mdo M n p gg th rn mn pn rd rs pt sn), (M + 1, bw_an g 130 row)]) (hrow : ∀ i, row i < 2 ^ n) (hr130 : rn ≤ 130) (h1 : sI a) (h2 : sI b) (h : ¬ nI rn = a ∨ hal row rn 1) : bw_C g (bw_rm 8 0 0) mX10_powers [.ref M, .int a, .int b] A (bw_pm (maR M [] (mdo M n p gg 2 rn mn pn rd rs pt sn) (nI 0) A)) := by
  have hS : bw_sm [M] A A := bw_sm.rf
  refine bw_C.of (by decide) (Nat.le_of_ble_eq_true rfl) rfl ?_
  refine bw_aload_n 1 dX10_powers_0 rfl rfl ?_
  refine bw_iconst (0) 2 dX10_powers_1 (by decide) rfl ?_
  refine bw_eqi (y := nI 0) rfl ?_
  refine bw_putU 5 dX10_powers_2 rfl pX10_1 (hC.at 0 rfl) rfl rfl (Nat.le_of_ble_eq_true rfl) (fun A hU => ?_)
  have hC := hC.upd 0 rfl hU
  have hS := hS.upd hU (by simp)
  clear hU
  refine bw_iload_n 6 dX10_powers_5 rfl rfl ?_
  refine bw_cSi 9 dX10_powers_6 rfl sX10_130 (m_isSize g h1) rfl rfl (Nat.le_of_ble_eq_true rfl) ⟨(Nat.le_of_ble_eq_true rfl), (Nat.le_of_ble_eq_true rfl)⟩ (Nat.le_of_ble_eq_true rfl) (Nat.le_of_ble_eq_true rfl) ?_
  refine bw_if_eq 19 12 dX10_powers_9 rfl rfl (fun c9 => ?_) (fun c9 => ?_)
  · exact absurd c9 (by decide)
  · refine bw_iload_n 13 dX10_powers_12 rfl rfl ?_
    refine bw_cSi 16 dX10_powers_13 rfl sX10_130 (m_isSize g h2) rfl rfl (Nat.le_of_ble_eq_true rfl) ⟨(Nat.le_of_ble_eq_true rfl), (Nat.le_of_ble_eq_true rfl)⟩ (Nat.le_of_ble_eq_true rfl) (Nat.le_of_ble_eq_true rfl) ?_
    refine bw_if_ne 25 19 dX10_powers_16 rfl rfl (fun c16 => ?_) (fun c16 => ?_)
    · refine bw_aload_n 26 dX10_powers_25 rfl rfl ?_
      refine bw_get 29 dX10_powers_26 rfl lX10_124 (hC.at 0 rfl) rfl ?_
      refine bw_iload_n 30 dX10_powers_29 rfl rfl ?_
      refine bw_icmp_ne 42 33 dX10_powers_30 rfl rfl (fun c30 => ?_) (fun c30 => ?_)
      · skip
        refine bw_aload_n 43 dX10_powers_42 rfl rfl ?_
        refine bw_iconst (2) 44 dX10_powers_43 (by decide) rfl ?_
        refine bw_eqi (y := nI 2) rfl ?_
        refine bw_cVm 47 dX10_powers_44 rfl vX10_118 (m_fail g (hC.sub [0] (by decide) rfl)) (hC.at 0 rfl) rfl rfl (Nat.le_of_ble_eq_true rfl) ⟨(Nat.le_of_ble_eq_true rfl), (Nat.le_of_ble_eq_true rfl)⟩ (Nat.le_of_ble_eq_true rfl) (Nat.le_of_ble_eq_true rfl) (fun x A hP => ?_)
        obtain ⟨h4, h5⟩ := hP
        subst h4
        have hC := hC.upd 0 rfl h5
        have hS := hS.upd h5 (by simp)
        refine bw_iret dX10_powers_47 rfl (Nat.le_of_ble_eq_true rfl) (Nat.le_of_ble_eq_true rfl) ?_
        exact ⟨_, rfl, rfl, hS, hC.at 0 rfl⟩
      · have hha : hal row rn 1 := by
          rcases h with h | h
          · exact absurd c30 h
          · exact h
        refine bw_aload_n 34 dX10_powers_33 rfl rfl ?_
        refine bw_iconst (0) 35 dX10_powers_34 (by decide) rfl ?_
        refine bw_eqi (y := nI 0) rfl ?_
        refine bw_iconst (1) 36 dX10_powers_35 (by decide) rfl ?_
        refine bw_eqi (y := nI 1) rfl ?_
        refine bw_cVi 39 dX10_powers_36 rfl vX10_136 (m_hasAlike g (s := 1) (z := 1) (hC.sub [0, 1] (by decide) rfl) hn hrow hr130 (by omega) (by omega) (Or.inl ⟨rfl, hha⟩)) (hC.at 0 rfl) rfl rfl (Nat.le_of_ble_eq_true rfl) ⟨(Nat.le_of_ble_eq_true rfl), (Nat.le_of_ble_eq_true rfl)⟩ (Nat.le_of_ble_eq_true rfl) (Nat.le_of_ble_eq_true rfl) ?_
        refine bw_if_eq 48 42 dX10_powers_39 rfl rfl (fun c39 => ?_) (fun c39 => ?_)
        · exact absurd c39 (by decide)
        · skip
          refine bw_aload_n 43 dX10_powers_42 rfl rfl ?_
          refine bw_iconst (2) 44 dX10_powers_43 (by decide) rfl ?_
          refine bw_eqi (y := nI 2) rfl ?_
          refine bw_cVm 47 dX10_powers_44 rfl vX10_118 (m_fail g (hC.sub [0] (by decide) rfl)) (hC.at 0 rfl) rfl rfl (Nat.le_of_ble_eq_true rfl) ⟨(Nat.le_of_ble_eq_true rfl), (Nat.le_of_ble_eq_true rfl)⟩ (Nat.le_of_ble_eq_true rfl) (Nat.le_of_ble_eq_true rfl) (fun x A hP => ?_)
          obtain ⟨h4, h5⟩ := hP
          subst h4
          have hC := hC.upd 0 rfl h5
          have hS := hS.upd h5 (by simp)
          refine bw_iret dX10_powers_47 rfl (Nat.le_of_ble_eq_true rfl) (Nat.le_of_ble_eq_true rfl) ?_
          exact ⟨_, rfl, rfl, hS, hC.at 0 rfl⟩
    · exact absurd c16 (by decide)
theorem m_powersX (g : bw_G) {A : bw_H} {M n p gg th rn mn pn rd rs pt sn : Nat} {a b : Int32} (hC : bw_has A [(M, mdo M n p gg th rn mn pn rd rs pt sn)]) (h : ¬ (sI a ∧ sI b)) : bw_C g (bw_rm 8 0 0) mX10_powers [.ref M, .int a, .int b] A (bw_pm (maR M [] (mdo M n p gg 1 rn mn pn rd rs pt sn) (nI 0) A)) := by
  have hS : bw_sm [M] A A := bw_sm.rf
  refine bw_C.of (by decide) (Nat.le_of_ble_eq_true rfl) rfl ?_
  by_cases ha : sI a
  · skip
    refine bw_aload_n 1 dX10_powers_0 rfl rfl ?_
    refine bw_iconst (0) 2 dX10_powers_1 (by decide) rfl ?_
    refine bw_eqi (y := nI 0) rfl ?_
    refine bw_putU 5 dX10_powers_2 rfl pX10_1 (hC.at 0 rfl) rfl rfl (Nat.le_of_ble_eq_true rfl) (fun A hU => ?_)
    have hC := hC.upd 0 rfl hU
    have hS := hS.upd hU (by simp)
    clear hU
    refine bw_iload_n 6 dX10_powers_5 rfl rfl ?_
    refine bw_cSi 9 dX10_powers_6 rfl sX10_130 (m_isSize g ha) rfl rfl (Nat.le_of_ble_eq_true rfl) ⟨(Nat.le_of_ble_eq_true rfl), (Nat.le_of_ble_eq_true rfl)⟩ (Nat.le_of_ble_eq_true rfl) (Nat.le_of_ble_eq_true rfl) ?_
    refine bw_if_eq 19 12 dX10_powers_9 rfl rfl (fun c9 => ?_) (fun c9 => ?_)
    · exact absurd c9 (by decide)
    · refine bw_iload_n 13 dX10_powers_12 rfl rfl ?_
      refine bw_cSi 16 dX10_powers_13 rfl sX10_130 (m_isSizeX g (fun hb => h ⟨ha, hb⟩)) rfl rfl (Nat.le_of_ble_eq_true rfl) ⟨(Nat.le_of_ble_eq_true rfl), (Nat.le_of_ble_eq_true rfl)⟩ (Nat.le_of_ble_eq_true rfl) (Nat.le_of_ble_eq_true rfl) ?_
      refine bw_if_ne 25 19 dX10_powers_16 rfl rfl (fun c16 => ?_) (fun c16 => ?_)
      · exact absurd rfl c16
      · refine bw_aload_n 20 dX10_powers_19 rfl rfl ?_
        refine bw_iconst (1) 21 dX10_powers_20 (by decide) rfl ?_
        refine bw_eqi (y := nI 1) rfl ?_
        refine bw_cVm 24 dX10_powers_21 rfl vX10_118 (m_fail g hC) (hC.at 0 rfl) rfl rfl (Nat.le_of_ble_eq_true rfl) ⟨(Nat.le_of_ble_eq_true rfl), (Nat.le_of_ble_eq_true rfl)⟩ (Nat.le_of_ble_eq_true rfl) (Nat.le_of_ble_eq_true rfl) (fun x A hP => ?_)
        obtain ⟨h4, h5⟩ := hP
        subst h4
        have hC := hC.upd 0 rfl h5
        have hS := hS.upd h5 (by simp)
        refine bw_iret dX10_powers_24 rfl (Nat.le_of_ble_eq_true rfl) (Nat.le_of_ble_eq_true rfl) ?_
        exact ⟨_, rfl, rfl, hS, hC.at 0 rfl⟩
  · skip
    refine bw_aload_n 1 dX10_powers_0 rfl rfl ?_
    refine bw_iconst (0) 2 dX10_powers_1 (by decide) rfl ?_
    refine bw_eqi (y := nI 0) rfl ?_
    refine bw_putU 5 dX10_powers_2 rfl pX10_1 (hC.at 0 rfl) rfl rfl (Nat.le_of_ble_eq_true rfl) (fun A hU => ?_)
    have hC := hC.upd 0 rfl hU
    have hS := hS.upd hU (by simp)
    clear hU
    refine bw_iload_n 6 dX10_powers_5 rfl rfl ?_
    refine bw_cSi 9 dX10_powers_6 rfl sX10_130 (m_isSizeX g ha) rfl rfl (Nat.le_of_ble_eq_true rfl) ⟨(Nat.le_of_ble_eq_true rfl), (Nat.le_of_ble_eq_true rfl)⟩ (Nat.le_of_ble_eq_true rfl) (Nat.le_of_ble_eq_true rfl) ?_
    refine bw_if_eq 19 12 dX10_powers_9 rfl rfl (fun c9 => ?_) (fun c9 => ?_)
    · skip
      refine bw_aload_n 20 dX10_powers_19 rfl rfl ?_
      refine bw_iconst (1) 21 dX10_powers_20 (by decide) rfl ?_
      refine bw_eqi (y := nI 1) rfl ?_
      refine bw_cVm 24 dX10_powers_21 rfl vX10_118 (m_fail g hC) (hC.at 0 rfl) rfl rfl (Nat.le_of_ble_eq_true rfl) ⟨(Nat.le_of_ble_eq_true rfl), (Nat.le_of_ble_eq_true rfl)⟩ (Nat.le_of_ble_eq_true rfl) (Nat.le_of_ble_eq_true rfl) (fun x A hP => ?_)
      obtain ⟨h4, h5⟩ := hP
      subst h4
      have hC := hC.upd 0 rfl h5
      have hS := hS.upd h5 (by simp)
      refine bw_iret dX10_powers_24 rfl (Nat.le_of_ble_eq_true rfl) (Nat.le_of_ble_eq_true rfl) ?_
      exact ⟨_, rfl, rfl, hS, hC.at 0 rfl⟩
    · exact absurd rfl c9
