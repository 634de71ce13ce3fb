/-! the reference: sums, times -/
set_option maxHeartbeats 4000000 in
theorem m_sums_in (g : bw_G) {A0 : bw_H} {M n p gg rn mn pn rd rs pt sn r c i m : Nat} {row B rr cc : Nat → Nat} {Q : bw_O → bw_H → Prop} (hG : GFg n p gg) (hrow : ∀ i, row i < 2 ^ n) (hr : r ≤ 8) (hc : c ≤ 8) (hi : i < r) (hm : m < 40)
    (kk : ∀ A : bw_H, bw_has A ((M, mdo M n p gg 0 rn mn pn rd rs pt sn) :: (M + 1, bw_an g 130 row) :: mmc g M rr cc (gfl B m (fun i j => ginv n (2 ^ n ||| p) (row i ^^^ row (r + j))) c i c)) → bw_sm (M :: mml M) A0 A → bw_W g (bw_rm 8 0 0) mX10_sums Q 0 0 131 [(0, .ref M), (1, .int (nI r)), (2, .int (nI c)), (3, .int (nI m)), (4, .int (nI i))] [] A) :
    ∀ (d j : Nat), j + d = c → ∀ A : bw_H, bw_has A ((M, mdo M n p gg 0 rn mn pn rd rs pt sn) :: (M + 1, bw_an g 130 row) :: mmc g M rr cc (gfl B m (fun i j => ginv n (2 ^ n ||| p) (row i ^^^ row (r + j))) c i j)) → bw_sm (M :: mml M) A0 A →
      bw_W g (bw_rm 8 0 0) mX10_sums Q 0 0 84 [(0, .ref M), (1, .int (nI r)), (2, .int (nI c)), (3, .int (nI m)), (4, .int (nI i)), (5, .int (nI j))] [] A := by
  intro d
  induction d with
  | zero =>
    intro j hj A hC hS
    have hj : j = c := by omega
    subst hj
    refine bw_iload 86 dX10_sums_84 rfl rfl ?_
    refine bw_iload_n 87 dX10_sums_86 rfl rfl ?_
    refine bw_icmp_ge 131 90 dX10_sums_87 rfl rfl (fun c87 => ?_) (fun c87 => ?_)
    · exact bw_loc [(0, .ref M), (1, .int (nI r)), (2, .int (nI j)), (3, .int (nI m)), (4, .int (nI i))] ⟨rfl, rfl, rfl, rfl, rfl, trivial⟩ (kk A hC hS)
    · exact absurd (Int32.le_refl _) c87
  | succ d ih =>
    intro j hj A hC hS
    refine bw_iload 86 dX10_sums_84 rfl rfl ?_
    refine bw_iload_n 87 dX10_sums_86 rfl rfl ?_
    refine bw_icmp_ge 131 90 dX10_sums_87 rfl rfl (fun c87 => ?_) (fun c87 => ?_)
    · exact absurd c87 (nI_ge (by omega) (by omega))
    · skip
      refine bw_aload_n 91 dX10_sums_90 rfl rfl ?_
      refine bw_get 94 dX10_sums_91 rfl lX10_23 (hC.at 0 rfl) rfl ?_
      refine bw_aload_n 95 dX10_sums_94 rfl rfl ?_
      refine bw_iload_n 96 dX10_sums_95 rfl rfl ?_
      refine bw_iload 98 dX10_sums_96 rfl rfl ?_
      refine bw_iload 100 dX10_sums_98 rfl rfl ?_
      refine bw_cVi 103 dX10_sums_100 rfl vX10_140 (m_at g) (hC.at 0 rfl) rfl rfl (Nat.le_of_ble_eq_true rfl) ⟨(Nat.le_of_ble_eq_true rfl), (Nat.le_of_ble_eq_true rfl)⟩ (Nat.le_of_ble_eq_true rfl) (Nat.le_of_ble_eq_true rfl) ?_
      refine bw_aload_n 104 dX10_sums_103 rfl rfl ?_
      refine bw_aload_n 105 dX10_sums_104 rfl rfl ?_
      refine bw_get 108 dX10_sums_105 rfl lX10_13 (hC.at 0 rfl) rfl ?_
      refine bw_iload 110 dX10_sums_108 rfl rfl ?_
      refine bw_ialdN 111 dX10_sums_110 rfl (hC.at 1 rfl) (by omega) (by omega) ?_
      refine bw_aload_n 112 dX10_sums_111 rfl rfl ?_
      refine bw_get 115 dX10_sums_112 rfl lX10_13 (hC.at 0 rfl) rfl ?_
      refine bw_iload_n 116 dX10_sums_115 rfl rfl ?_
      refine bw_iload 118 dX10_sums_116 rfl rfl ?_
      refine bw_iadd 119 dX10_sums_118 rfl ?_
      refine bw_eqi (nI_add r j) ?_
      refine bw_ialdN 120 dX10_sums_119 rfl (hC.at 1 rfl) (by omega) (by omega) ?_
      refine bw_ixor 121 dX10_sums_120 rfl ?_
      refine bw_eqi (xn_xor (row i) (row (r + j))) ?_
      refine bw_cVi 124 dX10_sums_121 rfl vX10_121 (m_inverse g hG (hC.sub [0] (by decide) rfl) (xor_lt (hrow i) (hrow (r + j)))) (hC.at 0 rfl) rfl rfl (Nat.le_of_ble_eq_true rfl) ⟨(Nat.le_of_ble_eq_true rfl), (Nat.le_of_ble_eq_true rfl)⟩ (Nat.le_of_ble_eq_true rfl) (Nat.le_of_ble_eq_true rfl) ?_
      refine bw_iastN 125 dX10_sums_124 rfl (hC.at 4 rfl) (by omega) (by omega) (G := gfl B m (fun i j => ginv n (2 ^ n ||| p) (row i ^^^ row (r + j))) c i (j + 1)) (gfl_s (v := fun i j => ginv n (2 ^ n ||| p) (row i ^^^ row (r + j))) (i := i) (j := j) (by omega) (by omega)) (fun A hU => ?_)
      have hC := hC.upd 4 rfl hU
      have hS := hS.upd hU (by simp)
      clear hU
      refine bw_iincN (1) 128 dX10_sums_125 rfl rfl (by decide) (by decide) ?_
      refine bw_goto 84 dX10_sums_128 rfl ?_
      refine bw_loc _ ?_ (ih (j + 1) (by omega) A hC hS)
      exact ⟨rfl, rfl, rfl, rfl, rfl, congrArg (fun x => some (Value.int x)) (nI_1 ( j )), trivial⟩
set_option maxHeartbeats 4000000 in
theorem m_sums_out (g : bw_G) {A0 : bw_H} {M n p gg rn mn pn rd rs pt sn r c m : Nat} {row B rr cc : Nat → Nat} (hG : GFg n p gg) (hrow : ∀ i, row i < 2 ^ n) (hr : r ≤ 8) (hc : c ≤ 8) (hm : m < 40) :
    ∀ (d i : Nat), i + d = r → ∀ A : bw_H, bw_has A ((M, mdo M n p gg 0 rn mn pn rd rs pt sn) :: (M + 1, bw_an g 130 row) :: mmc g M rr cc (gfl B m (fun i j => ginv n (2 ^ n ||| p) (row i ^^^ row (r + j))) c i 0)) → bw_sm (M :: mml M) A0 A →
      bw_W g (bw_rm 8 0 0) mX10_sums (bw_pm (mdP g M (mdo M n p gg 0 0 mn pn rd rs pt sn) (nI m) rr cc (gfl B m (fun i j => ginv n (2 ^ n ||| p) (row i ^^^ row (r + j))) c r 0) A0)) 0 0 75 [(0, .ref M), (1, .int (nI r)), (2, .int (nI c)), (3, .int (nI m)), (4, .int (nI i))] [] A := by
  intro d
  induction d with
  | zero =>
    intro i hi A hC hS
    have hi : r = i := by omega
    subst hi
    refine bw_iload 77 dX10_sums_75 rfl rfl ?_
    refine bw_iload_n 78 dX10_sums_77 rfl rfl ?_
    refine bw_icmp_ge 137 81 dX10_sums_78 rfl rfl (fun c78 => ?_) (fun c78 => ?_)
    · refine bw_aload_n 138 dX10_sums_137 rfl rfl ?_
      refine bw_iconst (0) 139 dX10_sums_138 (by decide) rfl ?_
      refine bw_eqi (y := nI 0) rfl ?_
      refine bw_putU 142 dX10_sums_139 rfl pX10_124 (hC.at 0 rfl) rfl rfl (Nat.le_of_ble_eq_true rfl) (fun A hU => ?_)
      have hC := hC.upd 0 rfl hU
      have hS := hS.upd hU (by simp)
      clear hU
      refine bw_iload_n 143 dX10_sums_142 rfl rfl ?_
      refine bw_iret dX10_sums_143 rfl (Nat.le_of_ble_eq_true rfl) (Nat.le_of_ble_eq_true rfl) ?_
      exact ⟨_, rfl, ⟨rfl, hS, hC.at 0 rfl⟩, hC.sub [2, 3, 4] (by decide) rfl⟩
    · exact absurd (Int32.le_refl _) c78
  | succ d ih =>
    intro i hi A hC hS
    refine bw_iload 77 dX10_sums_75 rfl rfl ?_
    refine bw_iload_n 78 dX10_sums_77 rfl rfl ?_
    refine bw_icmp_ge 137 81 dX10_sums_78 rfl rfl (fun c78 => ?_) (fun c78 => ?_)
    · exact absurd c78 (nI_ge (by omega) (by omega))
    · skip
      refine bw_iconst (0) 82 dX10_sums_81 (by decide) rfl ?_
      refine bw_eqi (y := nI 0) rfl ?_
      refine bw_istore 84 dX10_sums_82 rfl (by decide) ?_
      refine bw_loc _ ?_ (m_sums_in g hG hrow hr hc (show i < r by omega) hm (fun A hC hS => ?_) c 0 (by omega) A hC hS)
      · exact ⟨rfl, rfl, rfl, rfl, rfl, rfl, trivial⟩
      refine bw_iincN (1) 134 dX10_sums_131 rfl rfl (by decide) (by decide) ?_
      refine bw_goto 75 dX10_sums_134 rfl ?_
      refine bw_loc _ ?_ (ih (i + 1) (by omega) A (by rw [← gfl_r]; exact hC) hS)
      exact ⟨rfl, rfl, rfl, rfl, congrArg (fun x => some (Value.int x)) (nI_1 ( i )), trivial⟩
set_option maxHeartbeats 4000000 in
theorem m_sums (g : bw_G) {A : bw_H} {M n p gg th rn mn pn rd rs pt sn r c : Nat} {row rr cc C : Nat → Nat} (hG : GFg n p gg) (hC : bw_has A ((M, mdo M n p gg th rn mn pn rd rs pt sn) :: (M + 1, bw_an g 130 row) :: mmc g M rr cc C)) (hrow : ∀ i, row i < 2 ^ n) (hm : mn < 40) (hr1 : 1 ≤ r) (hr : r ≤ 8) (hc1 : 1 ≤ c) (hc : c ≤ 8) (hrn : rn = r + c) (hal0 : ¬ hal row rn 1) : bw_C g (bw_rm 8 0 0) mX10_sums [.ref M, .int (nI r), .int (nI c)] A (bw_pm (mdP g M (mdo M n p gg 0 0 (mn + 1) pn rd rs pt sn) (nI mn) (fun i => if i = mn then r else rr i) (fun i => if i = mn then c else cc i) (gfl (gzm C mn 64) mn (fun i j => ginv n (2 ^ n ||| p) (row i ^^^ row (r + j))) c r 0) A)) := by
  have hS : bw_sm (M :: mml M) A A := bw_sm.rf
  refine bw_C.of (by decide) (Nat.le_of_ble_eq_true rfl) rfl ?_
  refine bw_aload_n 1 dX10_sums_0 rfl rfl ?_
  refine bw_iconst (0) 2 dX10_sums_1 (by decide) rfl ?_
  refine bw_eqi (y := nI 0) rfl ?_
  refine bw_putU 5 dX10_sums_2 rfl pX10_1 (hC.at 0 rfl) rfl rfl (Nat.le_of_ble_eq_true rfl) (fun A hU => ?_)
  have hC := hC.upd 0 rfl hU
  have hS := hS.upd hU (by simp)
  clear hU
  refine bw_iload_n 6 dX10_sums_5 rfl rfl ?_
  refine bw_cSi 9 dX10_sums_6 rfl sX10_130 (m_isSize g (sI_nI hr1 hr)) rfl rfl (Nat.le_of_ble_eq_true rfl) ⟨(Nat.le_of_ble_eq_true rfl), (Nat.le_of_ble_eq_true rfl)⟩ (Nat.le_of_ble_eq_true rfl) (Nat.le_of_ble_eq_true rfl) ?_
  refine bw_if_eq 19 12 dX10_sums_9 rfl rfl (fun c9 => ?_) (fun c9 => ?_)
  · exact absurd c9 (by decide)
  · refine bw_iload_n 13 dX10_sums_12 rfl rfl ?_
    refine bw_cSi 16 dX10_sums_13 rfl sX10_130 (m_isSize g (sI_nI hc1 hc)) rfl rfl (Nat.le_of_ble_eq_true rfl) ⟨(Nat.le_of_ble_eq_true rfl), (Nat.le_of_ble_eq_true rfl)⟩ (Nat.le_of_ble_eq_true rfl) (Nat.le_of_ble_eq_true rfl) ?_
    refine bw_if_ne 25 19 dX10_sums_16 rfl rfl (fun c16 => ?_) (fun c16 => ?_)
    · refine bw_aload_n 26 dX10_sums_25 rfl rfl ?_
      refine bw_get 29 dX10_sums_26 rfl lX10_124 (hC.at 0 rfl) rfl ?_
      refine bw_iload_n 30 dX10_sums_29 rfl rfl ?_
      refine bw_iload_n 31 dX10_sums_30 rfl rfl ?_
      refine bw_iadd 32 dX10_sums_31 rfl ?_
      refine bw_eqi (nI_add r c) ?_
      refine bw_icmp_ne 44 35 dX10_sums_32 rfl rfl (fun c32 => ?_) (fun c32 => ?_)
      · exact absurd (by rw [hrn]) c32
      · refine bw_aload_n 36 dX10_sums_35 rfl rfl ?_
        refine bw_iconst (0) 37 dX10_sums_36 (by decide) rfl ?_
        refine bw_eqi (y := nI 0) rfl ?_
        refine bw_iconst (1) 38 dX10_sums_37 (by decide) rfl ?_
        refine bw_eqi (y := nI 1) rfl ?_
        refine bw_cVi 41 dX10_sums_38 rfl vX10_136 (m_hasAlike g (s := 1) (z := 0) (hC.sub [0, 1] (by decide) rfl) hG.p16 hrow (by omega) (by omega) (by omega) (Or.inr ⟨rfl, hal0⟩)) (hC.at 0 rfl) rfl rfl (Nat.le_of_ble_eq_true rfl) ⟨(Nat.le_of_ble_eq_true rfl), (Nat.le_of_ble_eq_true rfl)⟩ (Nat.le_of_ble_eq_true rfl) (Nat.le_of_ble_eq_true rfl) ?_
        refine bw_if_eq 50 44 dX10_sums_41 rfl rfl (fun c41 => ?_) (fun c41 => ?_)
        · refine bw_aload_n 51 dX10_sums_50 rfl rfl ?_
          refine bw_get 54 dX10_sums_51 rfl lX10_127 (hC.at 0 rfl) rfl ?_
          refine bw_bipush (40) 56 dX10_sums_54 (by decide) rfl ?_
          refine bw_eqi (y := nI 40) rfl ?_
          refine bw_icmp_ne 65 59 dX10_sums_56 rfl rfl (fun c56 => ?_) (fun c56 => ?_)
          · refine bw_aload_n 66 dX10_sums_65 rfl rfl ?_
            refine bw_iload_n 67 dX10_sums_66 rfl rfl ?_
            refine bw_iload_n 68 dX10_sums_67 rfl rfl ?_
            refine bw_cVm 71 dX10_sums_68 rfl vX10_133 (m_made g (hC.sub [0, 2, 3, 4] (by decide) rfl) hm) (hC.at 0 rfl) rfl rfl (Nat.le_of_ble_eq_true rfl) ⟨(Nat.le_of_ble_eq_true rfl), (Nat.le_of_ble_eq_true rfl)⟩ (Nat.le_of_ble_eq_true rfl) (Nat.le_of_ble_eq_true rfl) (fun x A hP => ?_)
            obtain ⟨⟨h4, h5, h6⟩, h7⟩ := hP
            subst h4
            have hRW := (hC.sub [1] (by decide) rfl).frm h5 (by simp <;> omega)
            have hS := hS.trans h5 (fun _ h => h)
            refine bw_istore_n 72 dX10_sums_71 rfl (by decide) ?_
            refine bw_iconst (0) 73 dX10_sums_72 (by decide) rfl ?_
            refine bw_eqi (y := nI 0) rfl ?_
            refine bw_istore 75 dX10_sums_73 rfl (by decide) ?_
            refine bw_loc _ ?_ (m_sums_out g hG hrow hr hc hm r 0 (by omega) A (by rw [gfl_0]; exact ((bw_has.one h6).ap hRW (by simp <;> omega)).ap h7 (by simp <;> omega)) hS)
            exact ⟨rfl, rfl, rfl, rfl, rfl, trivial⟩
          · exact absurd ((nI_eq (b := 40) (by omega) (by omega)).mp c56) (by omega)
        · exact absurd rfl c41
    · exact absurd c16 (by decide)
theorem m_sumsZ (g : bw_G) {A : bw_H} {M n p gg th rn pn rd rs pt sn r c : Nat} {row : Nat → Nat} (hn : 2 ^ n ≤ 65536) (hC : bw_has A [(M, mdo M n p gg th rn 40 pn rd rs pt sn), (M + 1, bw_an g 130 row)]) (hrow : ∀ i, row i < 2 ^ n) (hr130 : rn ≤ 130) (hr1 : 1 ≤ r) (hr : r ≤ 8) (hc1 : 1 ≤ c) (hc : c ≤ 8) (hrn : rn = r + c) (hal0 : ¬ hal row rn 1) : bw_C g (bw_rm 8 0 0) mX10_sums [.ref M, .int (nI r), .int (nI c)] A (bw_pm (maR M [] (mdo M n p gg 3 rn 40 pn rd rs pt sn) (nI 0) A)) := by
  have hS : bw_sm [M] A A := bw_sm.rf
  refine bw_C.of (by decide) (Nat.le_of_ble_eq_true rfl) rfl ?_
  refine bw_aload_n 1 dX10_sums_0 rfl rfl ?_
  refine bw_iconst (0) 2 dX10_sums_1 (by decide) rfl ?_
  refine bw_eqi (y := nI 0) rfl ?_
  refine bw_putU 5 dX10_sums_2 rfl pX10_1 (hC.at 0 rfl) rfl rfl (Nat.le_of_ble_eq_true rfl) (fun A hU => ?_)
  have hC := hC.upd 0 rfl hU
  have hS := hS.upd hU (by simp)
  clear hU
  refine bw_iload_n 6 dX10_sums_5 rfl rfl ?_
  refine bw_cSi 9 dX10_sums_6 rfl sX10_130 (m_isSize g (sI_nI hr1 hr)) rfl rfl (Nat.le_of_ble_eq_true rfl) ⟨(Nat.le_of_ble_eq_true rfl), (Nat.le_of_ble_eq_true rfl)⟩ (Nat.le_of_ble_eq_true rfl) (Nat.le_of_ble_eq_true rfl) ?_
  refine bw_if_eq 19 12 dX10_sums_9 rfl rfl (fun c9 => ?_) (fun c9 => ?_)
  · exact absurd c9 (by decide)
  · refine bw_iload_n 13 dX10_sums_12 rfl rfl ?_
    refine bw_cSi 16 dX10_sums_13 rfl sX10_130 (m_isSize g (sI_nI hc1 hc)) rfl rfl (Nat.le_of_ble_eq_true rfl) ⟨(Nat.le_of_ble_eq_true rfl), (Nat.le_of_ble_eq_true rfl)⟩ (Nat.le_of_ble_eq_true rfl) (Nat.le_of_ble_eq_true rfl) ?_
    refine bw_if_ne 25 19 dX10_sums_16 rfl rfl (fun c16 => ?_) (fun c16 => ?_)
    · refine bw_aload_n 26 dX10_sums_25 rfl rfl ?_
      refine bw_get 29 dX10_sums_26 rfl lX10_124 (hC.at 0 rfl) rfl ?_
      refine bw_iload_n 30 dX10_sums_29 rfl rfl ?_
      refine bw_iload_n 31 dX10_sums_30 rfl rfl ?_
      refine bw_iadd 32 dX10_sums_31 rfl ?_
      refine bw_eqi (nI_add r c) ?_
      refine bw_icmp_ne 44 35 dX10_sums_32 rfl rfl (fun c32 => ?_) (fun c32 => ?_)
      · exact absurd (by rw [hrn]) c32
      · refine bw_aload_n 36 dX10_sums_35 rfl rfl ?_
        refine bw_iconst (0) 37 dX10_sums_36 (by decide) rfl ?_
        refine bw_eqi (y := nI 0) rfl ?_
        refine bw_iconst (1) 38 dX10_sums_37 (by decide) rfl ?_
        refine bw_eqi (y := nI 1) rfl ?_
        refine bw_cVi 41 dX10_sums_38 rfl vX10_136 (m_hasAlike g (s := 1) (z := 0) (hC.sub [0, 1] (by decide) rfl) hn hrow hr130 (by omega) (by omega) (Or.inr ⟨rfl, hal0⟩)) (hC.at 0 rfl) rfl rfl (Nat.le_of_ble_eq_true rfl) ⟨(Nat.le_of_ble_eq_true rfl), (Nat.le_of_ble_eq_true rfl)⟩ (Nat.le_of_ble_eq_true rfl) (Nat.le_of_ble_eq_true rfl) ?_
        refine bw_if_eq 50 44 dX10_sums_41 rfl rfl (fun c41 => ?_) (fun c41 => ?_)
        · refine bw_aload_n 51 dX10_sums_50 rfl rfl ?_
          refine bw_get 54 dX10_sums_51 rfl lX10_127 (hC.at 0 rfl) rfl ?_
          refine bw_bipush (40) 56 dX10_sums_54 (by decide) rfl ?_
          refine bw_eqi (y := nI 40) rfl ?_
          refine bw_icmp_ne 65 59 dX10_sums_56 rfl rfl (fun c56 => ?_) (fun c56 => ?_)
          · exact absurd rfl c56
          · refine bw_aload_n 60 dX10_sums_59 rfl rfl ?_
            refine bw_iconst (3) 61 dX10_sums_60 (by decide) rfl ?_
            refine bw_eqi (y := nI 3) rfl ?_
            refine bw_cVm 64 dX10_sums_61 rfl vX10_118 (m_fail g (hC.sub [0] (by decide) rfl)) (hC.at 0 rfl) rfl rfl (Nat.le_of_ble_eq_true rfl) ⟨(Nat.le_of_ble_eq_true rfl), (Nat.le_of_ble_eq_true rfl)⟩ (Nat.le_of_ble_eq_true rfl) (Nat.le_of_ble_eq_true rfl) (fun x A hP => ?_)
            obtain ⟨h4, h5⟩ := hP
            subst h4
            have hC := hC.upd 0 rfl h5
            have hS := hS.upd h5 (by simp)
            refine bw_iret dX10_sums_64 rfl (Nat.le_of_ble_eq_true rfl) (Nat.le_of_ble_eq_true rfl) ?_
            exact ⟨_, rfl, rfl, hS, hC.at 0 rfl⟩
        · exact absurd rfl c41
    · exact absurd c16 (by decide)
theorem m_sumsY (g : bw_G) {A : bw_H} {M n p gg th rn mn pn rd rs pt sn r c : Nat} {row : Nat → Nat} (hn : 2 ^ n ≤ 65536) (hC : bw_has A [(M, mdo M n p gg th rn mn pn rd rs pt sn), (M + 1, bw_an g 130 row)]) (hrow : ∀ i, row i < 2 ^ n) (hr130 : rn ≤ 130) (hr1 : 1 ≤ r) (hr : r ≤ 8) (hc1 : 1 ≤ c) (hc : c ≤ 8) (h : rn ≠ r + c ∨ hal row rn 1) : bw_C g (bw_rm 8 0 0) mX10_sums [.ref M, .int (nI r), .int (nI c)] A (bw_pm (maR M [] (mdo M n p gg 2 rn mn pn rd rs pt sn) (nI 0) A)) := by
  have hS : bw_sm [M] A A := bw_sm.rf
  refine bw_C.of (by decide) (Nat.le_of_ble_eq_true rfl) rfl ?_
  refine bw_aload_n 1 dX10_sums_0 rfl rfl ?_
  refine bw_iconst (0) 2 dX10_sums_1 (by decide) rfl ?_
  refine bw_eqi (y := nI 0) rfl ?_
  refine bw_putU 5 dX10_sums_2 rfl pX10_1 (hC.at 0 rfl) rfl rfl (Nat.le_of_ble_eq_true rfl) (fun A hU => ?_)
  have hC := hC.upd 0 rfl hU
  have hS := hS.upd hU (by simp)
  clear hU
  refine bw_iload_n 6 dX10_sums_5 rfl rfl ?_
  refine bw_cSi 9 dX10_sums_6 rfl sX10_130 (m_isSize g (sI_nI hr1 hr)) rfl rfl (Nat.le_of_ble_eq_true rfl) ⟨(Nat.le_of_ble_eq_true rfl), (Nat.le_of_ble_eq_true rfl)⟩ (Nat.le_of_ble_eq_true rfl) (Nat.le_of_ble_eq_true rfl) ?_
  refine bw_if_eq 19 12 dX10_sums_9 rfl rfl (fun c9 => ?_) (fun c9 => ?_)
  · exact absurd c9 (by decide)
  · refine bw_iload_n 13 dX10_sums_12 rfl rfl ?_
    refine bw_cSi 16 dX10_sums_13 rfl sX10_130 (m_isSize g (sI_nI hc1 hc)) rfl rfl (Nat.le_of_ble_eq_true rfl) ⟨(Nat.le_of_ble_eq_true rfl), (Nat.le_of_ble_eq_true rfl)⟩ (Nat.le_of_ble_eq_true rfl) (Nat.le_of_ble_eq_true rfl) ?_
    refine bw_if_ne 25 19 dX10_sums_16 rfl rfl (fun c16 => ?_) (fun c16 => ?_)
    · refine bw_aload_n 26 dX10_sums_25 rfl rfl ?_
      refine bw_get 29 dX10_sums_26 rfl lX10_124 (hC.at 0 rfl) rfl ?_
      refine bw_iload_n 30 dX10_sums_29 rfl rfl ?_
      refine bw_iload_n 31 dX10_sums_30 rfl rfl ?_
      refine bw_iadd 32 dX10_sums_31 rfl ?_
      refine bw_eqi (nI_add r c) ?_
      refine bw_icmp_ne 44 35 dX10_sums_32 rfl rfl (fun c32 => ?_) (fun c32 => ?_)
      · skip
        refine bw_aload_n 45 dX10_sums_44 rfl rfl ?_
        refine bw_iconst (2) 46 dX10_sums_45 (by decide) rfl ?_
        refine bw_eqi (y := nI 2) rfl ?_
        refine bw_cVm 49 dX10_sums_46 rfl vX10_118 (m_fail g (hC.sub [0] (by decide) rfl)) (hC.at 0 rfl) rfl rfl (Nat.le_of_ble_eq_true rfl) ⟨(Nat.le_of_ble_eq_true rfl), (Nat.le_of_ble_eq_true rfl)⟩ (Nat.le_of_ble_eq_true rfl) (Nat.le_of_ble_eq_true rfl) (fun x A hP => ?_)
        obtain ⟨h4, h5⟩ := hP
        subst h4
        have hC := hC.upd 0 rfl h5
        have hS := hS.upd h5 (by simp)
        refine bw_iret dX10_sums_49 rfl (Nat.le_of_ble_eq_true rfl) (Nat.le_of_ble_eq_true rfl) ?_
        exact ⟨_, rfl, rfl, hS, hC.at 0 rfl⟩
      · have hha : hal row rn 1 := by
          rcases h with h | h
          · exact absurd ((nI_eq (by omega) (by omega)).mp c32) h
          · exact h
        refine bw_aload_n 36 dX10_sums_35 rfl rfl ?_
        refine bw_iconst (0) 37 dX10_sums_36 (by decide) rfl ?_
        refine bw_eqi (y := nI 0) rfl ?_
        refine bw_iconst (1) 38 dX10_sums_37 (by decide) rfl ?_
        refine bw_eqi (y := nI 1) rfl ?_
        refine bw_cVi 41 dX10_sums_38 rfl vX10_136 (m_hasAlike g (s := 1) (z := 1) (hC.sub [0, 1] (by decide) rfl) hn hrow hr130 (by omega) (by omega) (Or.inl ⟨rfl, hha⟩)) (hC.at 0 rfl) rfl rfl (Nat.le_of_ble_eq_true rfl) ⟨(Nat.le_of_ble_eq_true rfl), (Nat.le_of_ble_eq_true rfl)⟩ (Nat.le_of_ble_eq_true rfl) (Nat.le_of_ble_eq_true rfl) ?_
        refine bw_if_eq 50 44 dX10_sums_41 rfl rfl (fun c41 => ?_) (fun c41 => ?_)
        · exact absurd c41 (by decide)
        · skip
          refine bw_aload_n 45 dX10_sums_44 rfl rfl ?_
          refine bw_iconst (2) 46 dX10_sums_45 (by decide) rfl ?_
          refine bw_eqi (y := nI 2) rfl ?_
          refine bw_cVm 49 dX10_sums_46 rfl vX10_118 (m_fail g (hC.sub [0] (by decide) rfl)) (hC.at 0 rfl) rfl rfl (Nat.le_of_ble_eq_true rfl) ⟨(Nat.le_of_ble_eq_true rfl), (Nat.le_of_ble_eq_true rfl)⟩ (Nat.le_of_ble_eq_true rfl) (Nat.le_of_ble_eq_true rfl) (fun x A hP => ?_)
          obtain ⟨h4, h5⟩ := hP
          subst h4
          have hC := hC.upd 0 rfl h5
          have hS := hS.upd h5 (by simp)
          refine bw_iret dX10_sums_49 rfl (Nat.le_of_ble_eq_true rfl) (Nat.le_of_ble_eq_true rfl) ?_
          exact ⟨_, rfl, rfl, hS, hC.at 0 rfl⟩
    · exact absurd c16 (by decide)
theorem m_sumsX (g : bw_G) {A : bw_H} {M n p gg th rn mn pn rd rs pt sn : Nat} {a b : Int32} (hC : bw_has A [(M, mdo M n p gg th rn mn pn rd rs pt sn)]) (h : ¬ (sI a ∧ sI b)) : bw_C g (bw_rm 8 0 0) mX10_sums [.ref M, .int a, .int b] A (bw_pm (maR M [] (mdo M n p gg 1 rn mn pn rd rs pt sn) (nI 0) A)) := by
  have hS : bw_sm [M] A A := bw_sm.rf
  refine bw_C.of (by decide) (Nat.le_of_ble_eq_true rfl) rfl ?_
  by_cases ha : sI a
  · skip
    refine bw_aload_n 1 dX10_sums_0 rfl rfl ?_
    refine bw_iconst (0) 2 dX10_sums_1 (by decide) rfl ?_
    refine bw_eqi (y := nI 0) rfl ?_
    refine bw_putU 5 dX10_sums_2 rfl pX10_1 (hC.at 0 rfl) rfl rfl (Nat.le_of_ble_eq_true rfl) (fun A hU => ?_)
    have hC := hC.upd 0 rfl hU
    have hS := hS.upd hU (by simp)
    clear hU
    refine bw_iload_n 6 dX10_sums_5 rfl rfl ?_
    refine bw_cSi 9 dX10_sums_6 rfl sX10_130 (m_isSize g ha) rfl rfl (Nat.le_of_ble_eq_true rfl) ⟨(Nat.le_of_ble_eq_true rfl), (Nat.le_of_ble_eq_true rfl)⟩ (Nat.le_of_ble_eq_true rfl) (Nat.le_of_ble_eq_true rfl) ?_
    refine bw_if_eq 19 12 dX10_sums_9 rfl rfl (fun c9 => ?_) (fun c9 => ?_)
    · exact absurd c9 (by decide)
    · refine bw_iload_n 13 dX10_sums_12 rfl rfl ?_
      refine bw_cSi 16 dX10_sums_13 rfl sX10_130 (m_isSizeX g (fun hb => h ⟨ha, hb⟩)) rfl rfl (Nat.le_of_ble_eq_true rfl) ⟨(Nat.le_of_ble_eq_true rfl), (Nat.le_of_ble_eq_true rfl)⟩ (Nat.le_of_ble_eq_true rfl) (Nat.le_of_ble_eq_true rfl) ?_
      refine bw_if_ne 25 19 dX10_sums_16 rfl rfl (fun c16 => ?_) (fun c16 => ?_)
      · exact absurd rfl c16
      · refine bw_aload_n 20 dX10_sums_19 rfl rfl ?_
        refine bw_iconst (1) 21 dX10_sums_20 (by decide) rfl ?_
        refine bw_eqi (y := nI 1) rfl ?_
        refine bw_cVm 24 dX10_sums_21 rfl vX10_118 (m_fail g hC) (hC.at 0 rfl) rfl rfl (Nat.le_of_ble_eq_true rfl) ⟨(Nat.le_of_ble_eq_true rfl), (Nat.le_of_ble_eq_true rfl)⟩ (Nat.le_of_ble_eq_true rfl) (Nat.le_of_ble_eq_true rfl) (fun x A hP => ?_)
        obtain ⟨h4, h5⟩ := hP
        subst h4
        have hC := hC.upd 0 rfl h5
        have hS := hS.upd h5 (by simp)
        refine bw_iret dX10_sums_24 rfl (Nat.le_of_ble_eq_true rfl) (Nat.le_of_ble_eq_true rfl) ?_
        exact ⟨_, rfl, rfl, hS, hC.at 0 rfl⟩
  · skip
    refine bw_aload_n 1 dX10_sums_0 rfl rfl ?_
    refine bw_iconst (0) 2 dX10_sums_1 (by decide) rfl ?_
    refine bw_eqi (y := nI 0) rfl ?_
    refine bw_putU 5 dX10_sums_2 rfl pX10_1 (hC.at 0 rfl) rfl rfl (Nat.le_of_ble_eq_true rfl) (fun A hU => ?_)
    have hC := hC.upd 0 rfl hU
    have hS := hS.upd hU (by simp)
    clear hU
    refine bw_iload_n 6 dX10_sums_5 rfl rfl ?_
    refine bw_cSi 9 dX10_sums_6 rfl sX10_130 (m_isSizeX g ha) rfl rfl (Nat.le_of_ble_eq_true rfl) ⟨(Nat.le_of_ble_eq_true rfl), (Nat.le_of_ble_eq_true rfl)⟩ (Nat.le_of_ble_eq_true rfl) (Nat.le_of_ble_eq_true rfl) ?_
    refine bw_if_eq 19 12 dX10_sums_9 rfl rfl (fun c9 => ?_) (fun c9 => ?_)
    · skip
      refine bw_aload_n 20 dX10_sums_19 rfl rfl ?_
      refine bw_iconst (1) 21 dX10_sums_20 (by decide) rfl ?_
      refine bw_eqi (y := nI 1) rfl ?_
      refine bw_cVm 24 dX10_sums_21 rfl vX10_118 (m_fail g hC) (hC.at 0 rfl) rfl rfl (Nat.le_of_ble_eq_true rfl) ⟨(Nat.le_of_ble_eq_true rfl), (Nat.le_of_ble_eq_true rfl)⟩ (Nat.le_of_ble_eq_true rfl) (Nat.le_of_ble_eq_true rfl) (fun x A hP => ?_)
      obtain ⟨h4, h5⟩ := hP
      subst h4
      have hC := hC.upd 0 rfl h5
      have hS := hS.upd h5 (by simp)
      refine bw_iret dX10_sums_24 rfl (Nat.le_of_ble_eq_true rfl) (Nat.le_of_ble_eq_true rfl) ?_
      exact ⟨_, rfl, rfl, hS, hC.at 0 rfl⟩
    · exact absurd rfl c9
