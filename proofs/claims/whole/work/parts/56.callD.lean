/-! the class's calls: sums, times, solve -/
set_option maxHeartbeats 4000000 in
set_option maxRecDepth 100000 in
theorem k9_sums_in (g : bw_G) {A0 : bw_H} {x n p gg rn mn pn sn r c a i cu su : Nat} {MA : Nat → Option Nat} {row : Nat → Nat} {Q : bw_O → bw_H → Prop} (hG : GFg n p gg) (hrow : ∀ i, row i < 2 ^ n) (hr : r ≤ 8) (hc : c ≤ 8) (hi : i < r) (hcu : cu ≤ 20) (hsu : su ≤ 200)
    (kk : ∀ A : bw_H, bw_has A ((x, xob x n rn mn pn sn) :: (x + 6, bw_aq g 3 40 MA) :: (x + 5, bw_an g 130 row) :: (fcl g n p gg (x + 9) ++ mcl g a r c (giF n (2 ^ n ||| p) r c row i c))) → bw_ff a [x, x + 6] A0 A → A.1 = a + 2 → bw_W g (bw_rm 8 20 200) mX9_sums Q cu su 107 [(0, .ref x), (1, .int (nI r)), (2, .int (nI c)), (3, .ref a), (4, .int (nI i))] [] A) :
    ∀ (d j : Nat), j + d = c → ∀ A : bw_H, bw_has A ((x, xob x n rn mn pn sn) :: (x + 6, bw_aq g 3 40 MA) :: (x + 5, bw_an g 130 row) :: (fcl g n p gg (x + 9) ++ mcl g a r c (giF n (2 ^ n ||| p) r c row i j))) → bw_ff a [x, x + 6] A0 A → A.1 = a + 2 →
      bw_W g (bw_rm 8 20 200) mX9_sums Q cu su 59 [(0, .ref x), (1, .int (nI r)), (2, .int (nI c)), (3, .ref a), (4, .int (nI i)), (5, .int (nI j))] [] A := by
  have hrc : r * c ≤ 64 := Nat.mul_le_mul hr hc
  have hic := row_end (c := c) hi
  intro d
  induction d with
  | zero =>
    intro j hjd A hC hW hz
    have hj : j = c := by omega
    subst hj
    refine bw_iload 61 dX9_sums_59 rfl rfl ?_
    refine bw_iload_n 62 dX9_sums_61 rfl rfl ?_
    refine bw_icmp_ge 107 65 dX9_sums_62 rfl rfl (fun c62 => ?_) (fun c62 => ?_)
    · exact bw_loc [(0, .ref x), (1, .int (nI r)), (2, .int (nI j)), (3, .ref a), (4, .int (nI i))] ⟨rfl, rfl, rfl, rfl, rfl, trivial⟩ (kk A hC hW hz)
    · exact absurd (Int32.le_refl _) c62
  | succ d ih =>
    intro j hjd A hC hW hz
    have hj : j < c := by omega
    refine bw_iload 61 dX9_sums_59 rfl rfl ?_
    refine bw_iload_n 62 dX9_sums_61 rfl rfl ?_
    refine bw_icmp_ge 107 65 dX9_sums_62 rfl rfl (fun c62 => ?_) (fun c62 => ?_)
    · exact absurd c62 (nI_ge hj (by omega))
    · skip
      refine bw_aload_n 66 dX9_sums_65 rfl rfl ?_
      refine bw_get 69 dX9_sums_66 rfl lX9_168 (hC.at 5 rfl) rfl ?_
      refine bw_iload 71 dX9_sums_69 rfl rfl ?_
      refine bw_iload_n 72 dX9_sums_71 rfl rfl ?_
      refine bw_imul 73 dX9_sums_72 rfl ?_
      refine bw_eqi (pk_mul i c) ?_
      refine bw_iload 75 dX9_sums_73 rfl rfl ?_
      refine bw_iadd 76 dX9_sums_75 rfl ?_
      refine bw_eqi (nI_add (i * c) j) ?_
      refine bw_aload_n 77 dX9_sums_76 rfl rfl ?_
      refine bw_get 80 dX9_sums_77 rfl lX9_43 (hC.at 0 rfl) rfl ?_
      refine bw_aload_n 81 dX9_sums_80 rfl rfl ?_
      refine bw_get 84 dX9_sums_81 rfl lX9_21 (hC.at 0 rfl) rfl ?_
      refine bw_iload 86 dX9_sums_84 rfl rfl ?_
      refine bw_ialdN 87 dX9_sums_86 rfl (hC.at 2 rfl) (by omega) (by omega) ?_
      refine bw_aload_n 88 dX9_sums_87 rfl rfl ?_
      refine bw_get 91 dX9_sums_88 rfl lX9_21 (hC.at 0 rfl) rfl ?_
      refine bw_iload_n 92 dX9_sums_91 rfl rfl ?_
      refine bw_iload 94 dX9_sums_92 rfl rfl ?_
      refine bw_iadd 95 dX9_sums_94 rfl ?_
      refine bw_eqi (nI_add r j) ?_
      refine bw_ialdN 96 dX9_sums_95 rfl (hC.at 2 rfl) (by omega) (by omega) ?_
      refine bw_ixor 97 dX9_sums_96 rfl ?_
      refine bw_eqi (xn_xor (row i) (row (r + j))) ?_
      refine bw_cVi 100 dX9_sums_97 rfl vX9_173 (c3_inverse g hG (hC.sub [3, 4] (by decide) rfl) (xor_lt (hrow i) (hrow (r + j)))) (hC.at 3 rfl) rfl rfl (Nat.le_of_ble_eq_true rfl) ⟨(Nat.le_of_ble_eq_true rfl), (Nat.le_of_ble_eq_true rfl)⟩ (show cu ≤ 20 by omega) (show su ≤ 200 by omega) ?_
      refine bw_iastN 101 dX9_sums_100 rfl (hC.at 6 rfl) (by omega) (by omega) (G := giF n (2 ^ n ||| p) r c row i (j + 1)) (giF_s hj) (fun A hU => ?_)
      have hC := hC.upd 6 rfl hU
      have hW := hW.upd hU (Or.inl (by omega))
      have hz := (congrArg Prod.fst hU).trans hz
      clear hU
      refine bw_iincN (1) 104 dX9_sums_101 rfl rfl (by decide) (by decide) ?_
      refine bw_goto 59 dX9_sums_104 rfl ?_
      refine bw_loc _ ?_ (ih (j + 1) (by omega) A hC hW hz)
      exact ⟨rfl, rfl, rfl, rfl, rfl, congrArg (fun x => some (Value.int x)) (nI_1 ( j )), trivial⟩
set_option maxHeartbeats 4000000 in
set_option maxRecDepth 100000 in
theorem k9_sums_out (g : bw_G) {A0 : bw_H} {x n p gg rn mn pn sn r c a cu su : Nat} {MA : Nat → Option Nat} {row : Nat → Nat} (hG : GFg n p gg) (hrow : ∀ i, row i < 2 ^ n) (hr : r ≤ 8) (hc : c ≤ 8) (hcu : cu ≤ 20) (hsu : su ≤ 200) (hm : mn < 40) :
    ∀ (d i : Nat), i + d = r → ∀ A : bw_H, bw_has A ((x, xob x n rn mn pn sn) :: (x + 6, bw_aq g 3 40 MA) :: (x + 5, bw_an g 130 row) :: (fcl g n p gg (x + 9) ++ mcl g a r c (giF n (2 ^ n ||| p) r c row i 0))) → bw_ff a [x, x + 6] A0 A → A.1 = a + 2 →
      bw_W g (bw_rm 8 20 200) mX9_sums (bw_pm (maP g x n 0 mn pn sn a r c MA (giF n (2 ^ n ||| p) r c row r 0) [x, x + 6] A0)) cu su 50 [(0, .ref x), (1, .int (nI r)), (2, .int (nI c)), (3, .ref a), (4, .int (nI i))] [] A := by
  intro d
  induction d with
  | zero =>
    intro i hid A hC hW hz
    have hi : i = r := by omega
    subst hi
    refine bw_iload 52 dX9_sums_50 rfl rfl ?_
    refine bw_iload_n 53 dX9_sums_52 rfl rfl ?_
    refine bw_icmp_ge 113 56 dX9_sums_53 rfl rfl (fun c53 => ?_) (fun c53 => ?_)
    · refine bw_aload_n 114 dX9_sums_113 rfl rfl ?_
      refine bw_iconst (0) 115 dX9_sums_114 (by decide) rfl ?_
      refine bw_eqi (y := nI 0) rfl ?_
      refine bw_putU 118 dX9_sums_115 rfl pX9_135 (hC.at 0 rfl) rfl rfl (Nat.le_of_ble_eq_true rfl) (fun A hU => ?_)
      have hC := hC.upd 0 rfl hU
      have hW := hW.upd hU (Or.inr (by simp))
      have hz := (congrArg Prod.fst hU).trans hz
      clear hU
      refine bw_aload_n 119 dX9_sums_118 rfl rfl ?_
      refine bw_aload_n 120 dX9_sums_119 rfl rfl ?_
      refine bw_cVm 123 dX9_sums_120 rfl vX9_155 (c9_keepMatrix g (hC.sub [0, 1, 5] (by decide) rfl) hm) (hC.at 0 rfl) rfl rfl (Nat.le_of_ble_eq_true rfl) ⟨(Nat.le_of_ble_eq_true rfl), (Nat.le_of_ble_eq_true rfl)⟩ (show cu ≤ 20 by omega) (show su ≤ 200 by omega) (fun x A hP => ?_)
      obtain ⟨h4, h5⟩ := hP
      subst h4
      have hC := (hC.upd 1 rfl rfl).upd 0 rfl h5
      have hW := (hW.upd rfl (Or.inr (by simp))).upd h5 (Or.inr (by simp))
      have hz := (congrArg Prod.fst h5).trans hz
      refine bw_iret dX9_sums_123 rfl (show cu ≤ 20 by omega) (show su ≤ 200 by omega) ?_
      exact ⟨_, rfl, rfl, hz, hC.sub [0, 1, 5, 6] (by decide) rfl, hW⟩
    · exact absurd (Int32.le_refl _) c53
  | succ d ih =>
    intro i hid A hC hW hz
    have hi : i < r := by omega
    refine bw_iload 52 dX9_sums_50 rfl rfl ?_
    refine bw_iload_n 53 dX9_sums_52 rfl rfl ?_
    refine bw_icmp_ge 113 56 dX9_sums_53 rfl rfl (fun c53 => ?_) (fun c53 => ?_)
    · exact absurd c53 (nI_ge hi (by omega))
    · skip
      refine bw_iconst (0) 57 dX9_sums_56 (by decide) rfl ?_
      refine bw_eqi (y := nI 0) rfl ?_
      refine bw_istore 59 dX9_sums_57 rfl (by decide) ?_
      refine bw_loc _ ?_ (k9_sums_in g hG hrow hr hc hi hcu hsu (fun A hC hW hz => ?_) c 0 (by omega) A hC hW hz)
      · exact ⟨rfl, rfl, rfl, rfl, rfl, rfl, trivial⟩
      refine bw_iincN (1) 110 dX9_sums_107 rfl rfl (by decide) (by decide) ?_
      refine bw_goto 50 dX9_sums_110 rfl ?_
      refine bw_loc _ ?_ (ih (i + 1) (by omega) A (by rw [← giF_r]; exact hC) hW hz)
      exact ⟨rfl, rfl, rfl, rfl, congrArg (fun x => some (Value.int x)) (nI_1 ( i )), trivial⟩
set_option maxHeartbeats 4000000 in
set_option maxRecDepth 100000 in
theorem k9_sums (g : bw_G) {A0 : bw_H} {x n p gg rn mn pn sn r c a : Nat} {MA : Nat → Option Nat} {row : Nat → Nat} (hG : GFg n p gg) (hC : bw_has A0 ((x, xob x n rn mn pn sn) :: (x + 6, bw_aq g 3 40 MA) :: (x + 5, bw_an g 130 row) :: fcl g n p gg (x + 9))) (hz : A0.1 = a) (hrow : ∀ i, row i < 2 ^ n) (hr1 : 1 ≤ r) (hr : r ≤ 8) (hc1 : 1 ≤ c) (hc : c ≤ 8) (hrn : rn = r + c) (hal0 : ¬ hal row rn 1) (hm : mn < 40) : bw_C g (bw_rm 8 20 200) mX9_sums [.ref x, .int (nI r), .int (nI c)] A0 (bw_pm (maP g x n 0 mn pn sn a r c MA (giF n (2 ^ n ||| p) r c row r 0) [x, x + 6] A0)) := by
  have hW : bw_ff a [x, x + 6] A0 A0 := bw_ff.rf
  refine bw_C.of (by decide) (Nat.le_of_ble_eq_true rfl) rfl ?_
  refine bw_iload_n 1 dX9_sums_0 rfl rfl ?_
  refine bw_iload_n 2 dX9_sums_1 rfl rfl ?_
  refine bw_cSv 5 dX9_sums_2 rfl sX9_148 (c9_ns g (sI_nI hr1 hr) (sI_nI hc1 hc)) rfl rfl (Nat.le_of_ble_eq_true rfl) ⟨(Nat.le_of_ble_eq_true rfl), (Nat.le_of_ble_eq_true rfl)⟩ (Nat.le_of_ble_eq_true rfl) (Nat.le_of_ble_eq_true rfl) (fun A hP => ?_)
  subst hP
  refine bw_aload_n 6 dX9_sums_5 rfl rfl ?_
  refine bw_get 9 dX9_sums_6 rfl lX9_135 (hC.at 0 rfl) rfl ?_
  refine bw_iload_n 10 dX9_sums_9 rfl rfl ?_
  refine bw_iload_n 11 dX9_sums_10 rfl rfl ?_
  refine bw_iadd 12 dX9_sums_11 rfl ?_
  refine bw_eqi (nI_add r c) ?_
  refine bw_icmp_ne 23 15 dX9_sums_12 rfl rfl (fun c12 => ?_) (fun c12 => ?_)
  · exact absurd (by rw [hrn]) c12
  · refine bw_aload_n 16 dX9_sums_15 rfl rfl ?_
    refine bw_iconst (1) 17 dX9_sums_16 (by decide) rfl ?_
    refine bw_eqi (y := nI 1) rfl ?_
    refine bw_cVi 20 dX9_sums_17 rfl vX9_159 (c9_hasAlike g (step := 1) (z := 0) (hC.sub [0, 2] (by decide) rfl) hG.p16 hrow (by omega) (by omega) (by omega) (Or.inr ⟨rfl, hal0⟩)) (hC.at 0 rfl) rfl rfl (Nat.le_of_ble_eq_true rfl) ⟨(Nat.le_of_ble_eq_true rfl), (Nat.le_of_ble_eq_true rfl)⟩ (Nat.le_of_ble_eq_true rfl) (Nat.le_of_ble_eq_true rfl) ?_
    refine bw_if_eq 33 23 dX9_sums_20 rfl rfl (fun c20 => ?_) (fun c20 => ?_)
    · refine bw_aload_n 34 dX9_sums_33 rfl rfl ?_
      refine bw_cVv 37 dX9_sums_34 rfl vX9_151 (c9_nr g (hC.sub [0] (by decide) rfl) hm) (hC.at 0 rfl) rfl rfl (Nat.le_of_ble_eq_true rfl) ⟨(Nat.le_of_ble_eq_true rfl), (Nat.le_of_ble_eq_true rfl)⟩ (Nat.le_of_ble_eq_true rfl) (Nat.le_of_ble_eq_true rfl) (fun A hP => ?_)
      subst hP
      refine bw_ok (fun hok => ?_)
      refine bw_newU 40 dX9_sums_37 rfl nX9_25 (Nat.le_of_ble_eq_true rfl) (Nat.le_of_ble_eq_true rfl) hz (fun A hU => ?_)
      have hC := hC.nwda hok hz hU
      have hW := hW.nwd hU hz (by omega)
      have hz := (congrArg Prod.fst hU).trans (congrArg (· + 1) hz)
      clear hU hok
      refine bw_dup 41 dX9_sums_40 rfl rfl ?_
      refine bw_iload_n 42 dX9_sums_41 rfl rfl ?_
      refine bw_iload_n 43 dX9_sums_42 rfl rfl ?_
      refine bw_ok (fun hok => ?_)
      refine bw_cIv 46 dX9_sums_43 rfl iX9_154 (c5_initB g (hC.sub [5] (by decide) rfl) hz hr hc) rfl rfl (Nat.le_of_ble_eq_true rfl) ⟨(Nat.le_of_ble_eq_true rfl), (Nat.le_of_ble_eq_true rfl)⟩ (Nat.le_of_ble_eq_true rfl) (Nat.le_of_ble_eq_true rfl) (fun A hP => ?_)
      obtain ⟨h1, h2, h3⟩ := hP
      have hC := hC.gr hok hz rfl h2 h3 (by simp)
      have hW := hW.gwt h2 (by omega)
      have hz := h1
      refine bw_astore_n 47 dX9_sums_46 rfl (by decide) ?_
      refine bw_iconst (0) 48 dX9_sums_47 (by decide) rfl ?_
      refine bw_eqi (y := nI 0) rfl ?_
      refine bw_istore 50 dX9_sums_48 rfl (by decide) ?_
      refine bw_loc _ ?_ (k9_sums_out g hG hrow hr hc ?_ ?_ hm r 0 (by omega) A (by rw [giF_0]; exact hC) hW hz)
      · exact ⟨rfl, rfl, rfl, rfl, rfl, trivial⟩
      all_goals exact Nat.le_of_ble_eq_true rfl
    · exact absurd rfl c20
theorem k9_sumsZ (g : bw_G) {A : bw_H} {x n rn mn pn sn r c : Nat} {row : Nat → Nat} (hn : 2 ^ n ≤ 65536) (hrow : ∀ i, row i < 2 ^ n) (hC : bw_has A [(x, xob x n rn mn pn sn), (x + 5, bw_an g 130 row)]) (h130 : rn ≤ 130) (hr1 : 1 ≤ r) (hr : r ≤ 8) (hc1 : 1 ≤ c) (hc : c ≤ 8) (hrn : rn = r + c) (hal0 : ¬ hal row rn 1) (hm : mn = 40) : bw_C g (bw_rm 8 20 200) mX9_sums [.ref x, .int (nI r), .int (nI c)] A (bw_pz eUO A) := by
  refine bw_C.of (by decide) (Nat.le_of_ble_eq_true rfl) rfl ?_
  refine bw_iload_n 1 dX9_sums_0 rfl rfl ?_
  refine bw_iload_n 2 dX9_sums_1 rfl rfl ?_
  refine bw_cSv 5 dX9_sums_2 rfl sX9_148 (c9_ns g (sI_nI hr1 hr) (sI_nI hc1 hc)) rfl rfl (Nat.le_of_ble_eq_true rfl) ⟨(Nat.le_of_ble_eq_true rfl), (Nat.le_of_ble_eq_true rfl)⟩ (Nat.le_of_ble_eq_true rfl) (Nat.le_of_ble_eq_true rfl) (fun A hP => ?_)
  subst hP
  refine bw_aload_n 6 dX9_sums_5 rfl rfl ?_
  refine bw_get 9 dX9_sums_6 rfl lX9_135 (hC.at 0 rfl) rfl ?_
  refine bw_iload_n 10 dX9_sums_9 rfl rfl ?_
  refine bw_iload_n 11 dX9_sums_10 rfl rfl ?_
  refine bw_iadd 12 dX9_sums_11 rfl ?_
  refine bw_eqi (nI_add r c) ?_
  refine bw_icmp_ne 23 15 dX9_sums_12 rfl rfl (fun c12 => ?_) (fun c12 => ?_)
  · exact absurd (by rw [hrn]) c12
  · refine bw_aload_n 16 dX9_sums_15 rfl rfl ?_
    refine bw_iconst (1) 17 dX9_sums_16 (by decide) rfl ?_
    refine bw_eqi (y := nI 1) rfl ?_
    refine bw_cVi 20 dX9_sums_17 rfl vX9_159 (c9_hasAlike g (step := 1) (z := 0) (hC.sub [0, 1] (by decide) rfl) hn hrow (by omega) (by omega) (by omega) (Or.inr ⟨rfl, hal0⟩)) (hC.at 0 rfl) rfl rfl (Nat.le_of_ble_eq_true rfl) ⟨(Nat.le_of_ble_eq_true rfl), (Nat.le_of_ble_eq_true rfl)⟩ (Nat.le_of_ble_eq_true rfl) (Nat.le_of_ble_eq_true rfl) ?_
    refine bw_if_eq 33 23 dX9_sums_20 rfl rfl (fun c20 => ?_) (fun c20 => ?_)
    · refine bw_aload_n 34 dX9_sums_33 rfl rfl ?_
      refine bw_cVz 37 dX9_sums_34 rfl vX9_151 (c9_nrX g (hC.sub [0] (by decide) rfl) hm) (hC.at 0 rfl) rfl rfl (Nat.le_of_ble_eq_true rfl) ⟨(Nat.le_of_ble_eq_true rfl), (Nat.le_of_ble_eq_true rfl)⟩ (Nat.le_of_ble_eq_true rfl) (Nat.le_of_ble_eq_true rfl) rfl ?_
      exact fun m hm => ⟨rfl, m, hm, rfl⟩
    · exact absurd rfl c20
theorem k9_sumsY (g : bw_G) {A : bw_H} {x n rn mn pn sn r c : Nat} {row : Nat → Nat} (hn : 2 ^ n ≤ 65536) (hrow : ∀ i, row i < 2 ^ n) (hC : bw_has A [(x, xob x n rn mn pn sn), (x + 5, bw_an g 130 row)]) (h130 : rn ≤ 130) (hr1 : 1 ≤ r) (hr : r ≤ 8) (hc1 : 1 ≤ c) (hc : c ≤ 8) (h : rn ≠ r + c ∨ hal row rn 1) : bw_C g (bw_rm 8 20 200) mX9_sums [.ref x, .int (nI r), .int (nI c)] A (bw_pz eIS A) := by
  refine bw_C.of (by decide) (Nat.le_of_ble_eq_true rfl) rfl ?_
  refine bw_iload_n 1 dX9_sums_0 rfl rfl ?_
  refine bw_iload_n 2 dX9_sums_1 rfl rfl ?_
  refine bw_cSv 5 dX9_sums_2 rfl sX9_148 (c9_ns g (sI_nI hr1 hr) (sI_nI hc1 hc)) rfl rfl (Nat.le_of_ble_eq_true rfl) ⟨(Nat.le_of_ble_eq_true rfl), (Nat.le_of_ble_eq_true rfl)⟩ (Nat.le_of_ble_eq_true rfl) (Nat.le_of_ble_eq_true rfl) (fun A hP => ?_)
  subst hP
  refine bw_aload_n 6 dX9_sums_5 rfl rfl ?_
  refine bw_get 9 dX9_sums_6 rfl lX9_135 (hC.at 0 rfl) rfl ?_
  refine bw_iload_n 10 dX9_sums_9 rfl rfl ?_
  refine bw_iload_n 11 dX9_sums_10 rfl rfl ?_
  refine bw_iadd 12 dX9_sums_11 rfl ?_
  refine bw_eqi (nI_add r c) ?_
  refine bw_icmp_ne 23 15 dX9_sums_12 rfl rfl (fun c12 => ?_) (fun c12 => ?_)
  · skip
    refine bw_throw "the row must have one member for each row and column, none alike" dX9_sums_23 dX9_sums_26 dX9_sums_27 dX9_sums_29 dX9_sums_32 tX9_163 (by decide +kernel) rfl (Nat.le_of_ble_eq_true rfl) (Nat.le_of_ble_eq_true rfl) (Nat.le_of_ble_eq_true rfl) (Nat.le_of_ble_eq_true rfl) ?_
    exact fun m hm => ⟨rfl, m, hm, rfl⟩
  · have hha : hal row rn 1 := by
      rcases h with h | h
      · exact absurd ((nI_eq (by omega) (by omega)).mp c12) h
      · exact h
    refine bw_aload_n 16 dX9_sums_15 rfl rfl ?_
    refine bw_iconst (1) 17 dX9_sums_16 (by decide) rfl ?_
    refine bw_eqi (y := nI 1) rfl ?_
    refine bw_cVi 20 dX9_sums_17 rfl vX9_159 (c9_hasAlike g (step := 1) (z := 1) (hC.sub [0, 1] (by decide) rfl) hn hrow (by omega) (by omega) (by omega) (Or.inl ⟨rfl, hha⟩)) (hC.at 0 rfl) rfl rfl (Nat.le_of_ble_eq_true rfl) ⟨(Nat.le_of_ble_eq_true rfl), (Nat.le_of_ble_eq_true rfl)⟩ (Nat.le_of_ble_eq_true rfl) (Nat.le_of_ble_eq_true rfl) ?_
    refine bw_if_eq 33 23 dX9_sums_20 rfl rfl (fun c20 => ?_) (fun c20 => ?_)
    · exact absurd c20 (by decide)
    · skip
      refine bw_throw "the row must have one member for each row and column, none alike" dX9_sums_23 dX9_sums_26 dX9_sums_27 dX9_sums_29 dX9_sums_32 tX9_163 (by decide +kernel) rfl (Nat.le_of_ble_eq_true rfl) (Nat.le_of_ble_eq_true rfl) (Nat.le_of_ble_eq_true rfl) (Nat.le_of_ble_eq_true rfl) ?_
      exact fun m hm => ⟨rfl, m, hm, rfl⟩
theorem k9_sumsX (g : bw_G) {A : bw_H} {x : Nat} {a b : Int32} (h : ¬ (sI a ∧ sI b)) : bw_C g (bw_rm 8 20 200) mX9_sums [.ref x, .int a, .int b] A (bw_pz eIA A) := by
  refine bw_C.of (by decide) (Nat.le_of_ble_eq_true rfl) rfl ?_
  refine bw_iload_n 1 dX9_sums_0 rfl rfl ?_
  refine bw_iload_n 2 dX9_sums_1 rfl rfl ?_
  refine bw_cSz 5 dX9_sums_2 rfl sX9_148 (c9_nsX g h) rfl rfl (Nat.le_of_ble_eq_true rfl) ⟨(Nat.le_of_ble_eq_true rfl), (Nat.le_of_ble_eq_true rfl)⟩ (Nat.le_of_ble_eq_true rfl) (Nat.le_of_ble_eq_true rfl) rfl ?_
  exact fun m hm => ⟨rfl, m, hm, rfl⟩
/-- a sum of products -/
def gdt (n q : Nat) (u v : Nat → Nat) : Nat → Nat
  | 0 => 0
  | k + 1 => gdt n q u v k ^^^ gm n q (u k) (v k)
theorem gdt_lt {n q : Nat} (hG : GFp n q) {u v : Nat → Nat} (hu : ∀ i, u i < 2 ^ n) : ∀ k, gdt n q u v k < 2 ^ n
  | 0 => Nat.two_pow_pos n
  | k + 1 => xor_lt (gdt_lt hG hu k) (hG.lt (hu k))
/-- the product's cells: rows ahead of i, and of row i the first k sums -/
def gtF (n q lc rc : Nat) (L R : Nat → Nat) (i k t : Nat) : Nat := if t < i * rc then gdt n q (fun m => L (t / rc * lc + m)) (fun m => R (m * rc + t % rc)) lc else if t < i * rc + rc then gdt n q (fun m => L (i * lc + m)) (fun m => R (m * rc + (t - i * rc))) k else 0
theorem gtF_s {n q lc rc i k : Nat} {L R : Nat → Nat} : gam n q (gtF n q lc rc L R i k) R (i * rc) (k * rc) (L (i * lc + k)) rc = gtF n q lc rc L R i (k + 1) := by
  funext t
  unfold gam
  by_cases h : i * rc ≤ t ∧ t < i * rc + rc
  · rw [if_pos h]
    unfold gtF
    rw [if_neg (by omega), if_pos h.2, if_neg (by omega), if_pos h.2]
    rfl
  · rw [if_neg h]
    unfold gtF
    by_cases h1 : t < i * rc
    · rw [if_pos h1, if_pos h1]
    · rw [if_neg h1, if_neg (by omega), if_neg h1, if_neg (by omega)]
theorem gtF_r {n q lc rc i : Nat} {L R : Nat → Nat} : gtF n q lc rc L R i lc = gtF n q lc rc L R (i + 1) 0 := by
  funext t
  unfold gtF
  rw [Nat.succ_mul]
  by_cases h1 : t < i * rc
  · rw [if_pos h1, if_pos (by omega)]
  · rw [if_neg h1]
    by_cases h2 : t < i * rc + rc
    · obtain ⟨h3, h4⟩ := dm_of (c := rc) (k := i) (t := t) (by omega) h2
      rw [if_pos h2, if_pos h2, h3, h4]
    · rw [if_neg h2, if_neg h2]
      split <;> rfl
theorem gtF_0 {n q lc rc : Nat} {L R : Nat → Nat} : gtF n q lc rc L R 0 0 = fun _ => 0 := by
  funext t
  unfold gtF
  rw [if_neg (by omega)]
  split <;> rfl
theorem gtF_lt {n q lc rc : Nat} (hG : GFp n q) {L R : Nat → Nat} (hL : ∀ i, L i < 2 ^ n) (i k t : Nat) : gtF n q lc rc L R i k t < 2 ^ n := by
  unfold gtF
  split
  · exact gdt_lt hG (fun _ => hL _) _
  · split
    · exact gdt_lt hG (fun _ => hL _) _
    · exact Nat.two_pow_pos n
theorem bw_has.one {A : bw_H} {a : Nat} {e : va_E} (h : A.2 a = some e) : bw_has A [(a, e)] := ⟨fun q hq => by rw [List.mem_singleton.mp hq]; exact h, by simp⟩
set_option maxHeartbeats 4000000 in
set_option maxRecDepth 100000 in
theorem k9_times_in (g : bw_G) {A0 : bw_H} {x n p gg rn mn pn sn lr lc rc a i cu su LM RM : Nat} {MA : Nat → Option Nat} {fL fR : Nat → Nat} {Q : bw_O → bw_H → Prop} (hG : GFg n p gg) (hfL : ∀ i, fL i < 2 ^ n) (hfR : ∀ i, fR i < 2 ^ n) (hlr : lr ≤ 8) (hlc : lc ≤ 8) (hrc : rc ≤ 8) (hi : i < lr) (hcu : cu ≤ 20) (hsu : su ≤ 200)
    (hL : A0.2 LM = some (mob LM lr lc)) (hLX : A0.2 (LM + 1) = some (bw_an g (lr * lc) fL)) (hR : A0.2 RM = some (mob RM lc rc)) (hRX : A0.2 (RM + 1) = some (bw_an g (lc * rc) fR)) (hLa : LM < a) (hLXa : LM + 1 < a) (hRa : RM < a) (hRXa : RM + 1 < a) (hLx : LM ∉ [x, x + 6]) (hLXx : LM + 1 ∉ [x, x + 6]) (hRx : RM ∉ [x, x + 6]) (hRXx : RM + 1 ∉ [x, x + 6]) (hR22 : x + 22 ≤ RM)
    (kk : ∀ A : bw_H, bw_has A ((x, xob x n rn mn pn sn) :: (x + 6, bw_aq g 3 40 MA) :: (fcl g n p gg (x + 9) ++ mcl g a lr rc (gtF n (2 ^ n ||| p) lc rc fL fR i lc))) → bw_ff a [x, x + 6] A0 A → A.1 = a + 2 → bw_W g (bw_rm 8 20 200) mX9_times Q cu su 144 [(0, .ref x), (3, .ref LM), (4, .ref RM), (5, .ref a), (6, .int (nI i))] [] A) :
    ∀ (d k : Nat), k + d = lc → ∀ A : bw_H, bw_has A ((x, xob x n rn mn pn sn) :: (x + 6, bw_aq g 3 40 MA) :: (fcl g n p gg (x + 9) ++ mcl g a lr rc (gtF n (2 ^ n ||| p) lc rc fL fR i k))) → bw_ff a [x, x + 6] A0 A → A.1 = a + 2 →
      bw_W g (bw_rm 8 20 200) mX9_times Q cu su 72 [(0, .ref x), (3, .ref LM), (4, .ref RM), (5, .ref a), (6, .int (nI i)), (7, .int (nI k))] [] A := by
  have h1 : lr * lc ≤ 64 := Nat.mul_le_mul hlr hlc
  have h2 : lc * rc ≤ 64 := Nat.mul_le_mul hlc hrc
  have h3 : lr * rc ≤ 64 := Nat.mul_le_mul hlr hrc
  have hil := row_end (c := lc) hi
  have hir := row_end (c := rc) hi
  intro d
  induction d with
  | zero =>
    intro k hkd A hC hW hz
    have hk : k = lc := by omega
    subst hk
    refine bw_iload 74 dX9_times_72 rfl rfl ?_
    refine bw_aload_n 75 dX9_times_74 rfl rfl ?_
    refine bw_get 78 dX9_times_75 rfl lX9_188 ((hW LM hLa hLx).trans hL) rfl ?_
    refine bw_icmp_ge 144 81 dX9_times_78 rfl rfl (fun c78 => ?_) (fun c78 => ?_)
    · exact bw_loc [(0, .ref x), (3, .ref LM), (4, .ref RM), (5, .ref a), (6, .int (nI i))] ⟨rfl, rfl, rfl, rfl, rfl, trivial⟩ (kk A hC hW hz)
    · exact absurd (Int32.le_refl _) c78
  | succ d ih =>
    intro k hkd A hC hW hz
    have hk : k < lc := by omega
    have hkr := row_end (c := rc) hk
    refine bw_iload 74 dX9_times_72 rfl rfl ?_
    refine bw_aload_n 75 dX9_times_74 rfl rfl ?_
    refine bw_get 78 dX9_times_75 rfl lX9_188 ((hW LM hLa hLx).trans hL) rfl ?_
    refine bw_icmp_ge 144 81 dX9_times_78 rfl rfl (fun c78 => ?_) (fun c78 => ?_)
    · exact absurd c78 (nI_ge hk (by omega))
    · skip
      refine bw_aload_n 82 dX9_times_81 rfl rfl ?_
      refine bw_get 85 dX9_times_82 rfl lX9_168 ((hW LM hLa hLx).trans hL) rfl ?_
      refine bw_iload 87 dX9_times_85 rfl rfl ?_
      refine bw_aload_n 88 dX9_times_87 rfl rfl ?_
      refine bw_get 91 dX9_times_88 rfl lX9_188 ((hW LM hLa hLx).trans hL) rfl ?_
      refine bw_imul 92 dX9_times_91 rfl ?_
      refine bw_eqi (pk_mul i lc) ?_
      refine bw_iload 94 dX9_times_92 rfl rfl ?_
      refine bw_iadd 95 dX9_times_94 rfl ?_
      refine bw_eqi (nI_add (i * lc) k) ?_
      refine bw_ialdN 96 dX9_times_95 rfl ((hW (LM + 1) hLXa hLXx).trans hLX) (by omega) (by omega) ?_
      refine bw_istore 98 dX9_times_96 rfl (by decide) ?_
      refine bw_aload_n 99 dX9_times_98 rfl rfl ?_
      refine bw_get 102 dX9_times_99 rfl lX9_43 (hC.at 0 rfl) rfl ?_
      refine bw_aload 104 dX9_times_102 rfl rfl ?_
      refine bw_get 107 dX9_times_104 rfl lX9_168 (hC.at 4 rfl) rfl ?_
      refine bw_iload 109 dX9_times_107 rfl rfl ?_
      refine bw_aload 111 dX9_times_109 rfl rfl ?_
      refine bw_get 114 dX9_times_111 rfl lX9_188 (hC.at 4 rfl) rfl ?_
      refine bw_imul 115 dX9_times_114 rfl ?_
      refine bw_eqi (pk_mul i rc) ?_
      refine bw_aload 117 dX9_times_115 rfl rfl ?_
      refine bw_get 120 dX9_times_117 rfl lX9_168 ((hW RM hRa hRx).trans hR) rfl ?_
      refine bw_iload 122 dX9_times_120 rfl rfl ?_
      refine bw_aload 124 dX9_times_122 rfl rfl ?_
      refine bw_get 127 dX9_times_124 rfl lX9_188 ((hW RM hRa hRx).trans hR) rfl ?_
      refine bw_imul 128 dX9_times_127 rfl ?_
      refine bw_eqi (pk_mul k rc) ?_
      refine bw_aload 130 dX9_times_128 rfl rfl ?_
      refine bw_get 133 dX9_times_130 rfl lX9_188 ((hW RM hRa hRx).trans hR) rfl ?_
      refine bw_iload 135 dX9_times_133 rfl rfl ?_
      refine bw_cVv 138 dX9_times_135 rfl vX9_197 (c3_addMultiple g hG (bw_has.app (ws := fcl g n p gg (x + 9) ++ [(a + 1, bw_an g (lr * rc) (gtF n (2 ^ n ||| p) lc rc fL fR i k))]) (hC.sub [2, 3, 5] (by decide) rfl) (bw_has.one ((hW (RM + 1) hRXa hRXx).trans hRX)) (by simp <;> omega)) (gtF_lt hG.2.2.1 hfL i k) hfR (by omega) (by omega) (by omega) (by omega) (hfL (i * lc + k))) (hC.at 2 rfl) rfl rfl (Nat.le_of_ble_eq_true rfl) ⟨(Nat.le_of_ble_eq_true rfl), (Nat.le_of_ble_eq_true rfl)⟩ (show cu ≤ 20 by omega) (show su ≤ 200 by omega) (fun A hP => ?_)
      rw [gtF_s] at hP
      have hC := hC.upd 5 rfl hP
      have hW := hW.upd hP (Or.inl (by omega))
      have hz := (congrArg Prod.fst hP).trans hz
      refine bw_iincN (1) 141 dX9_times_138 rfl rfl (by decide) (by decide) ?_
      refine bw_goto 72 dX9_times_141 rfl ?_
      refine bw_loc _ ?_ (ih (k + 1) (by omega) A hC hW hz)
      exact ⟨rfl, rfl, rfl, rfl, rfl, congrArg (fun x => some (Value.int x)) (nI_1 ( k )), trivial⟩
set_option maxHeartbeats 4000000 in
set_option maxRecDepth 100000 in
theorem k9_times_out (g : bw_G) {A0 : bw_H} {x n p gg rn mn pn sn lr lc rc a cu su LM RM : Nat} {MA : Nat → Option Nat} {fL fR : Nat → Nat} (hG : GFg n p gg) (hfL : ∀ i, fL i < 2 ^ n) (hfR : ∀ i, fR i < 2 ^ n) (hlr : lr ≤ 8) (hlc : lc ≤ 8) (hrc : rc ≤ 8) (hcu : cu ≤ 20) (hsu : su ≤ 200) (hm : mn < 40)
    (hL : A0.2 LM = some (mob LM lr lc)) (hLX : A0.2 (LM + 1) = some (bw_an g (lr * lc) fL)) (hR : A0.2 RM = some (mob RM lc rc)) (hRX : A0.2 (RM + 1) = some (bw_an g (lc * rc) fR)) (hLa : LM < a) (hLXa : LM + 1 < a) (hRa : RM < a) (hRXa : RM + 1 < a) (hLx : LM ∉ [x, x + 6]) (hLXx : LM + 1 ∉ [x, x + 6]) (hRx : RM ∉ [x, x + 6]) (hRXx : RM + 1 ∉ [x, x + 6]) (hR22 : x + 22 ≤ RM) :
    ∀ (d i : Nat), i + d = lr → ∀ A : bw_H, bw_has A ((x, xob x n rn mn pn sn) :: (x + 6, bw_aq g 3 40 MA) :: (fcl g n p gg (x + 9) ++ mcl g a lr rc (gtF n (2 ^ n ||| p) lc rc fL fR i 0))) → bw_ff a [x, x + 6] A0 A → A.1 = a + 2 →
      bw_W g (bw_rm 8 20 200) mX9_times (bw_pm (maP g x n rn mn pn sn a lr rc MA (gtF n (2 ^ n ||| p) lc rc fL fR lr 0) [x, x + 6] A0)) cu su 60 [(0, .ref x), (3, .ref LM), (4, .ref RM), (5, .ref a), (6, .int (nI i))] [] A := by
  intro d
  induction d with
  | zero =>
    intro i hid A hC hW hz
    have hi : i = lr := by omega
    subst hi
    refine bw_iload 62 dX9_times_60 rfl rfl ?_
    refine bw_aload_n 63 dX9_times_62 rfl rfl ?_
    refine bw_get 66 dX9_times_63 rfl lX9_185 ((hW LM hLa hLx).trans hL) rfl ?_
    refine bw_icmp_ge 150 69 dX9_times_66 rfl rfl (fun c66 => ?_) (fun c66 => ?_)
    · refine bw_aload_n 151 dX9_times_150 rfl rfl ?_
      refine bw_aload 153 dX9_times_151 rfl rfl ?_
      refine bw_cVm 156 dX9_times_153 rfl vX9_155 (c9_keepMatrix g (hC.sub [0, 1, 4] (by decide) rfl) hm) (hC.at 0 rfl) rfl rfl (Nat.le_of_ble_eq_true rfl) ⟨(Nat.le_of_ble_eq_true rfl), (Nat.le_of_ble_eq_true rfl)⟩ (show cu ≤ 20 by omega) (show su ≤ 200 by omega) (fun x A hP => ?_)
      obtain ⟨h4, h5⟩ := hP
      subst h4
      have hC := (hC.upd 1 rfl rfl).upd 0 rfl h5
      have hW := (hW.upd rfl (Or.inr (by simp))).upd h5 (Or.inr (by simp))
      have hz := (congrArg Prod.fst h5).trans hz
      refine bw_iret dX9_times_156 rfl (show cu ≤ 20 by omega) (show su ≤ 200 by omega) ?_
      exact ⟨_, rfl, rfl, hz, hC.sub [0, 1, 4, 5] (by decide) rfl, hW⟩
    · exact absurd (Int32.le_refl _) c66
  | succ d ih =>
    intro i hid A hC hW hz
    have hi : i < lr := by omega
    refine bw_iload 62 dX9_times_60 rfl rfl ?_
    refine bw_aload_n 63 dX9_times_62 rfl rfl ?_
    refine bw_get 66 dX9_times_63 rfl lX9_185 ((hW LM hLa hLx).trans hL) rfl ?_
    refine bw_icmp_ge 150 69 dX9_times_66 rfl rfl (fun c66 => ?_) (fun c66 => ?_)
    · exact absurd c66 (nI_ge hi (by omega))
    · skip
      refine bw_iconst (0) 70 dX9_times_69 (by decide) rfl ?_
      refine bw_eqi (y := nI 0) rfl ?_
      refine bw_istore 72 dX9_times_70 rfl (by decide) ?_
      refine bw_loc _ ?_ (k9_times_in g hG hfL hfR hlr hlc hrc hi hcu hsu hL hLX hR hRX hLa hLXa hRa hRXa hLx hLXx hRx hRXx hR22 (fun A hC hW hz => ?_) lc 0 (by omega) A hC hW hz)
      · exact ⟨rfl, rfl, rfl, rfl, rfl, rfl, trivial⟩
      refine bw_iincN (1) 147 dX9_times_144 rfl rfl (by decide) (by decide) ?_
      refine bw_goto 60 dX9_times_147 rfl ?_
      refine bw_loc _ ?_ (ih (i + 1) (by omega) A (by rw [← gtF_r]; exact hC) hW hz)
      exact ⟨rfl, rfl, rfl, rfl, congrArg (fun x => some (Value.int x)) (nI_1 ( i )), trivial⟩
set_option maxHeartbeats 4000000 in
set_option maxRecDepth 100000 in
theorem k9_times (g : bw_G) {A0 : bw_H} {x n p gg rn mn pn sn lr lc rc a LM RM k k' : Nat} {MA : Nat → Option Nat} {fL fR : Nat → Nat} (hG : GFg n p gg) (hC : bw_has A0 ((x, xob x n rn mn pn sn) :: (x + 6, bw_aq g 3 40 MA) :: fcl g n p gg (x + 9))) (hz : A0.1 = a) (hfL : ∀ i, fL i < 2 ^ n) (hfR : ∀ i, fR i < 2 ^ n) (hlr : lr ≤ 8) (hlc : lc ≤ 8) (hrc : rc ≤ 8) (hk : k < mn) (hk' : k' < mn) (hm : mn < 40) (haL : MA k = some LM) (haR : MA k' = some RM)
    (hL : A0.2 LM = some (mob LM lr lc)) (hLX : A0.2 (LM + 1) = some (bw_an g (lr * lc) fL)) (hR : A0.2 RM = some (mob RM lc rc)) (hRX : A0.2 (RM + 1) = some (bw_an g (lc * rc) fR)) (hLa : LM < a) (hLXa : LM + 1 < a) (hRa : RM < a) (hRXa : RM + 1 < a) (hL22 : x + 22 ≤ LM) (hR22 : x + 22 ≤ RM) : bw_C g (bw_rm 8 20 200) mX9_times [.ref x, .int (nI k), .int (nI k')] A0 (bw_pm (maP g x n rn mn pn sn a lr rc MA (gtF n (2 ^ n ||| p) lc rc fL fR lr 0) [x, x + 6] A0)) := by
  have hLx : LM ∉ [x, x + 6] := by simp <;> omega
  have hLXx : LM + 1 ∉ [x, x + 6] := by simp <;> omega
  have hRx : RM ∉ [x, x + 6] := by simp <;> omega
  have hRXx : RM + 1 ∉ [x, x + 6] := by simp <;> omega
  have hW : bw_ff a [x, x + 6] A0 A0 := bw_ff.rf
  refine bw_C.of (by decide) (Nat.le_of_ble_eq_true rfl) rfl ?_
  refine bw_aload_n 1 dX9_times_0 rfl rfl ?_
  refine bw_iload_n 2 dX9_times_1 rfl rfl ?_
  refine bw_cVr 5 dX9_times_2 rfl vX9_176 (c9_ma g (hC.sub [0, 1] (by decide) rfl) hk (by omega) haL) (hC.at 0 rfl) rfl rfl (Nat.le_of_ble_eq_true rfl) ⟨(Nat.le_of_ble_eq_true rfl), (Nat.le_of_ble_eq_true rfl)⟩ (Nat.le_of_ble_eq_true rfl) (Nat.le_of_ble_eq_true rfl) ?_
  refine bw_astore_n 6 dX9_times_5 rfl (by decide) ?_
  refine bw_aload_n 7 dX9_times_6 rfl rfl ?_
  refine bw_iload_n 8 dX9_times_7 rfl rfl ?_
  refine bw_cVr 11 dX9_times_8 rfl vX9_176 (c9_ma g (hC.sub [0, 1] (by decide) rfl) hk' (by omega) haR) (hC.at 0 rfl) rfl rfl (Nat.le_of_ble_eq_true rfl) ⟨(Nat.le_of_ble_eq_true rfl), (Nat.le_of_ble_eq_true rfl)⟩ (Nat.le_of_ble_eq_true rfl) (Nat.le_of_ble_eq_true rfl) ?_
  refine bw_astore 13 dX9_times_11 rfl (by decide) ?_
  refine bw_aload_n 14 dX9_times_13 rfl rfl ?_
  refine bw_get 17 dX9_times_14 rfl lX9_188 ((hW LM hLa hLx).trans hL) rfl ?_
  refine bw_aload 19 dX9_times_17 rfl rfl ?_
  refine bw_get 22 dX9_times_19 rfl lX9_185 ((hW RM hRa hRx).trans hR) rfl ?_
  refine bw_icmp_eq 35 25 dX9_times_22 rfl rfl (fun c22 => ?_) (fun c22 => ?_)
  · refine bw_aload_n 36 dX9_times_35 rfl rfl ?_
    refine bw_cVv 39 dX9_times_36 rfl vX9_151 (c9_nr g (hC.sub [0] (by decide) rfl) hm) (hC.at 0 rfl) rfl rfl (Nat.le_of_ble_eq_true rfl) ⟨(Nat.le_of_ble_eq_true rfl), (Nat.le_of_ble_eq_true rfl)⟩ (Nat.le_of_ble_eq_true rfl) (Nat.le_of_ble_eq_true rfl) (fun A hP => ?_)
    subst hP
    refine bw_ok (fun hok => ?_)
    refine bw_newU 42 dX9_times_39 rfl nX9_25 (Nat.le_of_ble_eq_true rfl) (Nat.le_of_ble_eq_true rfl) hz (fun A hU => ?_)
    have hC := hC.nwda hok hz hU
    have hW := hW.nwd hU hz (by omega)
    have hz := (congrArg Prod.fst hU).trans (congrArg (· + 1) hz)
    clear hU hok
    refine bw_dup 43 dX9_times_42 rfl rfl ?_
    refine bw_aload_n 44 dX9_times_43 rfl rfl ?_
    refine bw_get 47 dX9_times_44 rfl lX9_185 ((hW LM hLa hLx).trans hL) rfl ?_
    refine bw_aload 49 dX9_times_47 rfl rfl ?_
    refine bw_get 52 dX9_times_49 rfl lX9_188 ((hW RM hRa hRx).trans hR) rfl ?_
    refine bw_ok (fun hok => ?_)
    refine bw_cIv 55 dX9_times_52 rfl iX9_154 (c5_initB g (hC.sub [4] (by decide) rfl) hz hlr hrc) rfl rfl (Nat.le_of_ble_eq_true rfl) ⟨(Nat.le_of_ble_eq_true rfl), (Nat.le_of_ble_eq_true rfl)⟩ (Nat.le_of_ble_eq_true rfl) (Nat.le_of_ble_eq_true rfl) (fun A hP => ?_)
    obtain ⟨h1, h2, h3⟩ := hP
    have hC := hC.gr hok hz rfl h2 h3 (by simp)
    have hW := hW.gwt h2 (by omega)
    have hz := h1
    refine bw_astore 57 dX9_times_55 rfl (by decide) ?_
    refine bw_iconst (0) 58 dX9_times_57 (by decide) rfl ?_
    refine bw_eqi (y := nI 0) rfl ?_
    refine bw_istore 60 dX9_times_58 rfl (by decide) ?_
    refine bw_loc _ ?_ (k9_times_out g hG hfL hfR hlr hlc hrc ?_ ?_ hm hL hLX hR hRX hLa hLXa hRa hRXa hLx hLXx hRx hRXx hR22 lr 0 (by omega) A (by rw [gtF_0]; exact hC) hW hz)
    · exact ⟨rfl, rfl, rfl, rfl, rfl, trivial⟩
    all_goals exact Nat.le_of_ble_eq_true rfl
  · exact absurd rfl c22
theorem k9_timesZ (g : bw_G) {A : bw_H} {x n rn mn pn sn lr lc rc LM RM k k' : Nat} {MA : Nat → Option Nat} (hC : bw_has A [(x, xob x n rn mn pn sn), (x + 6, bw_aq g 3 40 MA)]) (hk : k < mn) (hk' : k' < mn) (hm : mn = 40) (haL : MA k = some LM) (haR : MA k' = some RM) (hL : A.2 LM = some (mob LM lr lc)) (hR : A.2 RM = some (mob RM lc rc)) : bw_C g (bw_rm 8 20 200) mX9_times [.ref x, .int (nI k), .int (nI k')] A (bw_pz eUO A) := by
  refine bw_C.of (by decide) (Nat.le_of_ble_eq_true rfl) rfl ?_
  refine bw_aload_n 1 dX9_times_0 rfl rfl ?_
  refine bw_iload_n 2 dX9_times_1 rfl rfl ?_
  refine bw_cVr 5 dX9_times_2 rfl vX9_176 (c9_ma g (hC.sub [0, 1] (by decide) rfl) hk (by omega) haL) (hC.at 0 rfl) rfl rfl (Nat.le_of_ble_eq_true rfl) ⟨(Nat.le_of_ble_eq_true rfl), (Nat.le_of_ble_eq_true rfl)⟩ (Nat.le_of_ble_eq_true rfl) (Nat.le_of_ble_eq_true rfl) ?_
  refine bw_astore_n 6 dX9_times_5 rfl (by decide) ?_
  refine bw_aload_n 7 dX9_times_6 rfl rfl ?_
  refine bw_iload_n 8 dX9_times_7 rfl rfl ?_
  refine bw_cVr 11 dX9_times_8 rfl vX9_176 (c9_ma g (hC.sub [0, 1] (by decide) rfl) hk' (by omega) haR) (hC.at 0 rfl) rfl rfl (Nat.le_of_ble_eq_true rfl) ⟨(Nat.le_of_ble_eq_true rfl), (Nat.le_of_ble_eq_true rfl)⟩ (Nat.le_of_ble_eq_true rfl) (Nat.le_of_ble_eq_true rfl) ?_
  refine bw_astore 13 dX9_times_11 rfl (by decide) ?_
  refine bw_aload_n 14 dX9_times_13 rfl rfl ?_
  refine bw_get 17 dX9_times_14 rfl lX9_188 (hL) rfl ?_
  refine bw_aload 19 dX9_times_17 rfl rfl ?_
  refine bw_get 22 dX9_times_19 rfl lX9_185 (hR) rfl ?_
  refine bw_icmp_eq 35 25 dX9_times_22 rfl rfl (fun c22 => ?_) (fun c22 => ?_)
  · refine bw_aload_n 36 dX9_times_35 rfl rfl ?_
    refine bw_cVz 39 dX9_times_36 rfl vX9_151 (c9_nrX g (hC.sub [0] (by decide) rfl) hm) (hC.at 0 rfl) rfl rfl (Nat.le_of_ble_eq_true rfl) ⟨(Nat.le_of_ble_eq_true rfl), (Nat.le_of_ble_eq_true rfl)⟩ (Nat.le_of_ble_eq_true rfl) (Nat.le_of_ble_eq_true rfl) rfl ?_
    exact fun m hm => ⟨rfl, m, hm, rfl⟩
  · exact absurd rfl c22
theorem k9_timesY (g : bw_G) {A : bw_H} {x n rn mn pn sn lr lc rr rc LM RM k k' : Nat} {MA : Nat → Option Nat} (hC : bw_has A [(x, xob x n rn mn pn sn), (x + 6, bw_aq g 3 40 MA)]) (hk : k < mn) (hk' : k' < mn) (hm : mn ≤ 40) (haL : MA k = some LM) (haR : MA k' = some RM) (hL : A.2 LM = some (mob LM lr lc)) (hR : A.2 RM = some (mob RM rr rc)) (hlc : lc ≤ 8) (hrr : rr ≤ 8) (h : lc ≠ rr) : bw_C g (bw_rm 8 20 200) mX9_times [.ref x, .int (nI k), .int (nI k')] A (bw_pz eIS A) := by
  refine bw_C.of (by decide) (Nat.le_of_ble_eq_true rfl) rfl ?_
  refine bw_aload_n 1 dX9_times_0 rfl rfl ?_
  refine bw_iload_n 2 dX9_times_1 rfl rfl ?_
  refine bw_cVr 5 dX9_times_2 rfl vX9_176 (c9_ma g (hC.sub [0, 1] (by decide) rfl) hk (by omega) haL) (hC.at 0 rfl) rfl rfl (Nat.le_of_ble_eq_true rfl) ⟨(Nat.le_of_ble_eq_true rfl), (Nat.le_of_ble_eq_true rfl)⟩ (Nat.le_of_ble_eq_true rfl) (Nat.le_of_ble_eq_true rfl) ?_
  refine bw_astore_n 6 dX9_times_5 rfl (by decide) ?_
  refine bw_aload_n 7 dX9_times_6 rfl rfl ?_
  refine bw_iload_n 8 dX9_times_7 rfl rfl ?_
  refine bw_cVr 11 dX9_times_8 rfl vX9_176 (c9_ma g (hC.sub [0, 1] (by decide) rfl) hk' (by omega) haR) (hC.at 0 rfl) rfl rfl (Nat.le_of_ble_eq_true rfl) ⟨(Nat.le_of_ble_eq_true rfl), (Nat.le_of_ble_eq_true rfl)⟩ (Nat.le_of_ble_eq_true rfl) (Nat.le_of_ble_eq_true rfl) ?_
  refine bw_astore 13 dX9_times_11 rfl (by decide) ?_
  refine bw_aload_n 14 dX9_times_13 rfl rfl ?_
  refine bw_get 17 dX9_times_14 rfl lX9_188 (hL) rfl ?_
  refine bw_aload 19 dX9_times_17 rfl rfl ?_
  refine bw_get 22 dX9_times_19 rfl lX9_185 (hR) rfl ?_
  refine bw_icmp_eq 35 25 dX9_times_22 rfl rfl (fun c22 => ?_) (fun c22 => ?_)
  · exact absurd ((nI_eq (by omega) (by omega)).mp c22) h
  · skip
    refine bw_throw "the sides do not fit" dX9_times_25 dX9_times_28 dX9_times_29 dX9_times_31 dX9_times_34 tX9_163 (by decide +kernel) rfl (Nat.le_of_ble_eq_true rfl) (Nat.le_of_ble_eq_true rfl) (Nat.le_of_ble_eq_true rfl) (Nat.le_of_ble_eq_true rfl) ?_
    exact fun m hm => ⟨rfl, m, hm, rfl⟩
theorem k9_timesX (g : bw_G) {A : bw_H} {x n rn mn pn sn : Nat} {a b : Int32} {MA : Nat → Option Nat} (hC : bw_has A [(x, xob x n rn mn pn sn), (x + 6, bw_aq g 3 40 MA)]) (hm : mn ≤ 40) (hs : ∀ k, k < mn → ∃ M, MA k = some M) (h : ¬ (kI mn a ∧ kI mn b)) : bw_C g (bw_rm 8 20 200) mX9_times [.ref x, .int a, .int b] A (bw_pz eIO A) := by
  refine bw_C.of (by decide) (Nat.le_of_ble_eq_true rfl) rfl ?_
  by_cases ha : kI mn a
  · obtain ⟨k, hk, rfl⟩ := kI_of (by omega) ha
    obtain ⟨LM, haL⟩ := hs k hk
    refine bw_aload_n 1 dX9_times_0 rfl rfl ?_
    refine bw_iload_n 2 dX9_times_1 rfl rfl ?_
    refine bw_cVr 5 dX9_times_2 rfl vX9_176 (c9_ma g (hC.sub [0, 1] (by decide) rfl) hk hm haL) (hC.at 0 rfl) rfl rfl (Nat.le_of_ble_eq_true rfl) ⟨(Nat.le_of_ble_eq_true rfl), (Nat.le_of_ble_eq_true rfl)⟩ (Nat.le_of_ble_eq_true rfl) (Nat.le_of_ble_eq_true rfl) ?_
    refine bw_astore_n 6 dX9_times_5 rfl (by decide) ?_
    refine bw_aload_n 7 dX9_times_6 rfl rfl ?_
    refine bw_iload_n 8 dX9_times_7 rfl rfl ?_
    refine bw_cVz 11 dX9_times_8 rfl vX9_176 (c9_maX g (hC.sub [0] (by decide) rfl) (fun hb => h ⟨ha, hb⟩)) (hC.at 0 rfl) rfl rfl (Nat.le_of_ble_eq_true rfl) ⟨(Nat.le_of_ble_eq_true rfl), (Nat.le_of_ble_eq_true rfl)⟩ (Nat.le_of_ble_eq_true rfl) (Nat.le_of_ble_eq_true rfl) rfl ?_
    exact fun m hm => ⟨rfl, m, hm, rfl⟩
  · skip
    refine bw_aload_n 1 dX9_times_0 rfl rfl ?_
    refine bw_iload_n 2 dX9_times_1 rfl rfl ?_
    refine bw_cVz 5 dX9_times_2 rfl vX9_176 (c9_maX g (hC.sub [0] (by decide) rfl) ha) (hC.at 0 rfl) rfl rfl (Nat.le_of_ble_eq_true rfl) ⟨(Nat.le_of_ble_eq_true rfl), (Nat.le_of_ble_eq_true rfl)⟩ (Nat.le_of_ble_eq_true rfl) (Nat.le_of_ble_eq_true rfl) rfl ?_
    exact fun m hm => ⟨rfl, m, hm, rfl⟩
/-- the row that solves: the first k of it are the solution's -/
def gsr (n q : Nat) (row : Nat → Nat) (W : Nat → Nat → Nat) (pv : Nat → Option Nat) (c k i : Nat) : Nat := if i < k then gsl W pv i c else row i
theorem gsr_s {n q c k : Nat} {row : Nat → Nat} {W : Nat → Nat → Nat} {pv : Nat → Option Nat} : (fun i => if i = k then gsl W pv k c else gsr n q row W pv c k i) = gsr n q row W pv c (k + 1) := by
  funext i
  unfold gsr
  by_cases h : i = k
  · rw [if_pos h, if_pos (by omega), h]
  · rw [if_neg h]
    by_cases h2 : i < k
    · rw [if_pos h2, if_pos (by omega)]
    · rw [if_neg h2, if_neg (by omega)]
theorem gre_rk {n q h wd : Nat} : ∀ (r j : Nat) (W : Nat → Nat → Nat) (rk pp : Nat) (pv : Nat → Option Nat), (gre n q h wd r j W rk pp pv).2.1 ≤ rk + r ∧ (rk ≤ h → (gre n q h wd r j W rk pp pv).2.1 ≤ h) ∧ ∀ i, i < j → (gre n q h wd r j W rk pp pv).2.2.2 i = pv i
  | 0, j, W, rk, pp, pv => ⟨Nat.le_refl rk, fun h => h, fun _ _ => rfl⟩
  | r + 1, j, W, rk, pp, pv => by
    rcases hf : gfr W j (h - rk) rk with _ | i
    · have e : gre n q h wd (r + 1) j W rk pp pv = gre n q h wd r (j + 1) W rk pp (fun i => if i = j then none else pv i) := by
        show (match gfr W j (h - rk) rk with | none => _ | some i => _) = _
        rw [hf]
      obtain ⟨h1, h2, h3⟩ := gre_rk (n := n) (q := q) (h := h) (wd := wd) r (j + 1) W rk pp (fun i => if i = j then none else pv i)
      rw [e]
      exact ⟨by omega, h2, fun i hi => by rw [h3 i (by omega), if_neg (by omega)]⟩
    · obtain ⟨f1, f2, _⟩ := gfr_in hf
      have e : gre n q h wd (r + 1) j W rk pp pv = gre n q h wd r (j + 1) (gfe n q (gxc W i rk wd) (gsc n q (gxc W i rk wd rk) (ginv n q (gxc W i rk wd rk j)) wd) rk j wd h) (rk + 1) (gm n q pp (gxc W i rk wd rk j)) (fun i => if i = j then some rk else pv i) := by
        show (match gfr W j (h - rk) rk with | none => _ | some i => _) = _
        rw [hf]
      obtain ⟨h1, h2, h3⟩ := gre_rk (n := n) (q := q) (h := h) (wd := wd) r (j + 1) (gfe n q (gxc W i rk wd) (gsc n q (gxc W i rk wd rk) (ginv n q (gxc W i rk wd rk j)) wd) rk j wd h) (rk + 1) (gm n q pp (gxc W i rk wd rk j)) (fun i => if i = j then some rk else pv i)
      rw [e]
      exact ⟨by omega, fun hh => h2 (by omega), fun i hi => by rw [h3 i (by omega), if_neg (by omega)]⟩
theorem gre_pv {n q h wd : Nat} : ∀ (r j : Nat) (W : Nat → Nat → Nat) (rk pp : Nat) (pv : Nat → Option Nat) (i s : Nat), j ≤ i → i < j + r → (gre n q h wd r j W rk pp pv).2.2.2 i = some s → s < h
  | 0, _, _, _, _, _, _, _, h1, h2, _ => absurd h2 (by omega)
  | r + 1, j, W, rk, pp, pv, i, s, h1, h2, hs => by
    rcases hf : gfr W j (h - rk) rk with _ | u
    · have e : gre n q h wd (r + 1) j W rk pp pv = gre n q h wd r (j + 1) W rk pp (fun i => if i = j then none else pv i) := by
        show (match gfr W j (h - rk) rk with | none => _ | some i => _) = _
        rw [hf]
      rw [e] at hs
      by_cases hi : i = j
      · rw [(gre_rk r (j + 1) W rk pp _).2.2 i (by omega), if_pos hi] at hs
        cases hs
      · exact gre_pv r (j + 1) _ _ _ _ i s (by omega) (by omega) hs
    · obtain ⟨f1, f2, _⟩ := gfr_in hf
      have e : gre n q h wd (r + 1) j W rk pp pv = gre n q h wd r (j + 1) (gfe n q (gxc W u rk wd) (gsc n q (gxc W u rk wd rk) (ginv n q (gxc W u rk wd rk j)) wd) rk j wd h) (rk + 1) (gm n q pp (gxc W u rk wd rk j)) (fun i => if i = j then some rk else pv i) := by
        show (match gfr W j (h - rk) rk with | none => _ | some i => _) = _
        rw [hf]
      rw [e] at hs
      by_cases hi : i = j
      · rw [(gre_rk r (j + 1) _ _ _ _).2.2 i (by omega), if_pos hi] at hs
        have := Option.some.inj hs
        omega
      · exact gre_pv r (j + 1) _ _ _ _ i s (by omega) (by omega) hs
theorem gre_lt {n q h wd : Nat} (hG : GFp n q) : ∀ (r j : Nat) (W : Nat → Nat → Nat) (rk pp : Nat) (pv : Nat → Option Nat), (∀ a b, W a b < 2 ^ n) → ∀ a b, (gre n q h wd r j W rk pp pv).1 a b < 2 ^ n
  | 0, _, _, _, _, _, hW => hW
  | r + 1, j, W, rk, pp, pv, hW => by
    rcases hf : gfr W j (h - rk) rk with _ | u
    · have e : gre n q h wd (r + 1) j W rk pp pv = gre n q h wd r (j + 1) W rk pp (fun i => if i = j then none else pv i) := by
        show (match gfr W j (h - rk) rk with | none => _ | some i => _) = _
        rw [hf]
      rw [e]
      exact gre_lt hG r (j + 1) W rk pp _ hW
    · have e : gre n q h wd (r + 1) j W rk pp pv = gre n q h wd r (j + 1) (gfe n q (gxc W u rk wd) (gsc n q (gxc W u rk wd rk) (ginv n q (gxc W u rk wd rk j)) wd) rk j wd h) (rk + 1) (gm n q pp (gxc W u rk wd rk j)) (fun i => if i = j then some rk else pv i) := by
        show (match gfr W j (h - rk) rk with | none => _ | some i => _) = _
        rw [hf]
      rw [e]
      exact gre_lt hG r (j + 1) _ _ _ _ (gfe_lt hG (gxc_lt hW) (gsc_lt hG (gxc_lt hW rk) _ _))
/-- what solve leaves -/
def slP (g : bw_G) (n p gg x mn pn sn r c : Nat) (row : Nat → Nat) (pv : Nat → Option Nat) (U : Nat → Nat → Nat) (A0 : bw_H) (y : Int32) (A' : bw_H) : Prop :=
  bw_sm (x :: (x + 5) :: elL (x + 11) (x + 12) (x + 21)) A0 A' ∧ bw_has A' (evl g n p gg (x + 11) (x + 9) (x + 12) (x + 21) r (c + 1) (gre n (2 ^ n ||| p) r (c + 1) c 0 U 0 1 pv).2.1 (gre n (2 ^ n ||| p) r (c + 1) c 0 U 0 1 pv).2.2.1 (gre n (2 ^ n ||| p) r (c + 1) c 0 U 0 1 pv).2.2.2) ∧ bw_rw g A' (x + 12 + 1) 8 16 (gre n (2 ^ n ||| p) r (c + 1) c 0 U 0 1 pv).1 ∧
  ((gfr (gre n (2 ^ n ||| p) r (c + 1) c 0 U 0 1 pv).1 c (r - (gre n (2 ^ n ||| p) r (c + 1) c 0 U 0 1 pv).2.1) (gre n (2 ^ n ||| p) r (c + 1) c 0 U 0 1 pv).2.1 ≠ none ∧ y = -1 ∧ bw_has A' [(x, xob x n 0 mn pn sn), (x + 5, bw_an g 130 row)]) ∨
   (gfr (gre n (2 ^ n ||| p) r (c + 1) c 0 U 0 1 pv).1 c (r - (gre n (2 ^ n ||| p) r (c + 1) c 0 U 0 1 pv).2.1) (gre n (2 ^ n ||| p) r (c + 1) c 0 U 0 1 pv).2.1 = none ∧ y = nI (c - (gre n (2 ^ n ||| p) r (c + 1) c 0 U 0 1 pv).2.1) ∧ bw_has A' [(x, xob x n c mn pn sn), (x + 5, bw_an g 130 (gsr n (2 ^ n ||| p) row (gre n (2 ^ n ||| p) r (c + 1) c 0 U 0 1 pv).1 (gre n (2 ^ n ||| p) r (c + 1) c 0 U 0 1 pv).2.2.2 c c))]))
theorem nI_sb {a b : Nat} (h : b ≤ a) : nI a - nI b = nI (a - b) := by
  have e : nI (a - b) + nI b = nI a := by rw [nI_add, Nat.sub_add_cancel h]
  rw [← e]
  exact Int32.add_sub_cancel _ _
set_option maxHeartbeats 4000000 in
set_option maxRecDepth 100000 in
theorem k9_solve_loop (g : bw_G) {A0 : bw_H} {x n p gg mn pn sn M r c rk pp cu su : Nat} {pv : Nat → Option Nat} {f row : Nat → Nat} {W : Nat → Nat → Nat} {Q : bw_O → bw_H → Prop} (hc : c ≤ 8) (hrkc : rk ≤ c) (hpv : ∀ j r', j < c → pv j = some r' → r' < 8) (hcu : cu ≤ 20) (hsu : su ≤ 200)
    (hQ : ∀ A' : bw_H, bw_sm (x :: (x + 5) :: elL (x + 11) (x + 12) (x + 21)) A0 A' → bw_has A' ((x, xob x n c mn pn sn) :: (x + 5, bw_an g 130 (gsr n (2 ^ n ||| p) row W pv c c)) :: (mcl g M r c f ++ evl g n p gg (x + 11) (x + 9) (x + 12) (x + 21) r (c + 1) rk pp pv)) → bw_rw g A' (x + 12 + 1) 8 16 W → Q (.inl (some (.int (nI (c - rk))))) A') :
    ∀ (d j : Nat), j + d = c → ∀ A : bw_H, bw_has A ((x, xob x n 0 mn pn sn) :: (x + 5, bw_an g 130 (gsr n (2 ^ n ||| p) row W pv c j)) :: (mcl g M r c f ++ evl g n p gg (x + 11) (x + 9) (x + 12) (x + 21) r (c + 1) rk pp pv)) → bw_rw g A (x + 12 + 1) 8 16 W → bw_sm (x :: (x + 5) :: elL (x + 11) (x + 12) (x + 21)) A0 A →
      bw_W g (bw_rm 8 20 200) mX9_solve Q cu su 82 [(0, .ref x), (2, .ref M), (3, .int (nI rk)), (4, .int (nI j))] [] A := by
  intro d
  induction d with
  | zero =>
    intro j hjd A hC hR hS
    have hj : j = c := by omega
    subst hj
    refine bw_iload 84 dX9_solve_82 rfl rfl ?_
    refine bw_aload_n 85 dX9_solve_84 rfl rfl ?_
    refine bw_get 88 dX9_solve_85 rfl lX9_188 (hC.at 2 rfl) rfl ?_
    refine bw_icmp_ge 117 91 dX9_solve_88 rfl rfl (fun c88 => ?_) (fun c88 => ?_)
    · refine bw_aload_n 118 dX9_solve_117 rfl rfl ?_
      refine bw_aload_n 119 dX9_solve_118 rfl rfl ?_
      refine bw_get 122 dX9_solve_119 rfl lX9_188 (hC.at 2 rfl) rfl ?_
      refine bw_putU 125 dX9_solve_122 rfl pX9_135 (hC.at 0 rfl) rfl rfl (Nat.le_of_ble_eq_true rfl) (fun A hU => ?_)
      have hC := hC.upd 0 rfl hU
      have hR := hR.frm (L := [x]) (bw_sm.rf.upd hU (by simp)) (by simp <;> omega)
      have hS := hS.upd hU (by simp)
      clear hU
      refine bw_aload_n 126 dX9_solve_125 rfl rfl ?_
      refine bw_get 129 dX9_solve_126 rfl lX9_188 (hC.at 2 rfl) rfl ?_
      refine bw_iload_n 130 dX9_solve_129 rfl rfl ?_
      refine bw_isub 131 dX9_solve_130 rfl ?_
      refine bw_eqi (nI_sb hrkc) ?_
      refine bw_iret dX9_solve_131 rfl (show cu ≤ 20 by omega) (show su ≤ 200 by omega) ?_
      exact hQ A hS hC hR
    · exact absurd (Int32.le_refl _) c88
  | succ d ih =>
    intro j hjd A hC hR hS
    have hj : j < c := by omega
    refine bw_iload 84 dX9_solve_82 rfl rfl ?_
    refine bw_aload_n 85 dX9_solve_84 rfl rfl ?_
    refine bw_get 88 dX9_solve_85 rfl lX9_188 (hC.at 2 rfl) rfl ?_
    refine bw_icmp_ge 117 91 dX9_solve_88 rfl rfl (fun c88 => ?_) (fun c88 => ?_)
    · exact absurd c88 (nI_ge hj (by omega))
    · skip
      refine bw_aload_n 92 dX9_solve_91 rfl rfl ?_
      refine bw_get 95 dX9_solve_92 rfl lX9_21 (hC.at 0 rfl) rfl ?_
      refine bw_iload 97 dX9_solve_95 rfl rfl ?_
      refine bw_aload_n 98 dX9_solve_97 rfl rfl ?_
      refine bw_get 101 dX9_solve_98 rfl lX9_52 (hC.at 0 rfl) rfl ?_
      refine bw_iload 103 dX9_solve_101 rfl rfl ?_
      refine bw_aload_n 104 dX9_solve_103 rfl rfl ?_
      refine bw_get 107 dX9_solve_104 rfl lX9_188 (hC.at 2 rfl) rfl ?_
      refine bw_cVi 110 dX9_solve_107 rfl vX9_232 (c1_solution g (by omega) (by omega) (hpv j · hj) (hC.sub [4, 5, 6, 7, 8] (by decide) rfl) hR) (hC.at 4 rfl) rfl rfl (Nat.le_of_ble_eq_true rfl) ⟨(Nat.le_of_ble_eq_true rfl), (Nat.le_of_ble_eq_true rfl)⟩ (show cu ≤ 20 by omega) (show su ≤ 200 by omega) ?_
      refine bw_iastN 111 dX9_solve_110 rfl (hC.at 1 rfl) (by omega) (by omega) (G := gsr n (2 ^ n ||| p) row W pv c (j + 1)) (gsr_s) (fun A hU => ?_)
      have hC := hC.upd 1 rfl hU
      have hR := hR.frm (L := [x + 5]) (bw_sm.rf.upd hU (by simp)) (by simp <;> omega)
      have hS := hS.upd hU (by simp)
      clear hU
      refine bw_iincN (1) 114 dX9_solve_111 rfl rfl (by decide) (by decide) ?_
      refine bw_goto 82 dX9_solve_114 rfl ?_
      refine bw_loc _ ?_ (ih (j + 1) (by omega) A hC hR hS)
      exact ⟨rfl, rfl, rfl, congrArg (fun x => some (Value.int x)) (nI_1 ( j )), trivial⟩
set_option maxHeartbeats 4000000 in
set_option maxRecDepth 100000 in
theorem k9_solve (g : bw_G) {A0 : bw_H} {x n p gg rn mn pn sn M r c k h wd rk pp : Nat} {MA pv : Nat → Option Nat} {f row : Nat → Nat} {W : Nat → Nat → Nat} (hG : GFg n p gg) (hC : bw_has A0 ((x, xob x n rn mn pn sn) :: (x + 6, bw_aq g 3 40 MA) :: (x + 5, bw_an g 130 row) :: (mcl g M r c f ++ evl g n p gg (x + 11) (x + 9) (x + 12) (x + 21) h wd rk pp pv))) (hR : bw_rw g A0 (x + 12 + 1) 8 16 W) (hM : x + 22 ≤ M) (hf : ∀ i, f i < 2 ^ n) (hrow : ∀ i, row i < 2 ^ n) (hW : ∀ i j, W i j < 2 ^ n) (hk : k < mn) (hm : mn ≤ 40) (ha : MA k = some M) (hr : r ≤ 8) (hc : c ≤ 8) (hrn : rn = r) : bw_C g (bw_rm 8 20 200) mX9_solve [.ref x, .int (nI k)] A0 (bw_pm (slP g n p gg x mn pn sn r c row pv (gac (gel c f W r) c row r) A0)) := by
  refine bw_C.of (by decide) (Nat.le_of_ble_eq_true rfl) rfl ?_
  refine bw_aload_n 1 dX9_solve_0 rfl rfl ?_
  refine bw_iload_n 2 dX9_solve_1 rfl rfl ?_
  refine bw_cVr 5 dX9_solve_2 rfl vX9_176 (c9_ma g (hC.sub [0, 1] (by decide) rfl) hk hm ha) (hC.at 0 rfl) rfl rfl (Nat.le_of_ble_eq_true rfl) ⟨(Nat.le_of_ble_eq_true rfl), (Nat.le_of_ble_eq_true rfl)⟩ (Nat.le_of_ble_eq_true rfl) (Nat.le_of_ble_eq_true rfl) ?_
  refine bw_astore_n 6 dX9_solve_5 rfl (by decide) ?_
  refine bw_aload_n 7 dX9_solve_6 rfl rfl ?_
  refine bw_get 10 dX9_solve_7 rfl lX9_135 (hC.at 0 rfl) rfl ?_
  refine bw_aload_n 11 dX9_solve_10 rfl rfl ?_
  refine bw_get 14 dX9_solve_11 rfl lX9_185 (hC.at 3 rfl) rfl ?_
  refine bw_icmp_eq 27 17 dX9_solve_14 rfl rfl (fun c14 => ?_) (fun c14 => ?_)
  · refine bw_aload_n 28 dX9_solve_27 rfl rfl ?_
    refine bw_get 31 dX9_solve_28 rfl lX9_52 (hC.at 0 rfl) rfl ?_
    refine bw_aload_n 32 dX9_solve_31 rfl rfl ?_
    refine bw_cVv 35 dX9_solve_32 rfl vX9_205 (c1_load g (by simp <;> omega) hr hc (hC.sub [5, 6, 7, 8, 9, 3, 4] (by decide) rfl) hR) (hC.at 5 rfl) rfl rfl (Nat.le_of_ble_eq_true rfl) ⟨(Nat.le_of_ble_eq_true rfl), (Nat.le_of_ble_eq_true rfl)⟩ (Nat.le_of_ble_eq_true rfl) (Nat.le_of_ble_eq_true rfl) (fun A hP => ?_)
    have hC := el_call (ws := (x, xob x n rn mn pn sn) :: (x + 6, bw_aq g 3 40 MA) :: (x + 5, bw_an g 130 row) :: mcl g M r c f) hC hP (by simp <;> omega)
    have hE := hP
    refine bw_aload_n 36 dX9_solve_35 rfl rfl ?_
    refine bw_get 39 dX9_solve_36 rfl lX9_52 (hC.at 0 rfl) rfl ?_
    refine bw_aload_n 40 dX9_solve_39 rfl rfl ?_
    refine bw_get 43 dX9_solve_40 rfl lX9_21 (hC.at 0 rfl) rfl ?_
    refine bw_cVv 46 dX9_solve_43 rfl vX9_225 (c1_appendColumn g (by simp <;> omega) hr (by omega) (by omega) (by omega) (hC.sub [5, 6, 7, 8, 9, 2] (by decide) rfl) hE.2.2) (hC.at 5 rfl) rfl rfl (Nat.le_of_ble_eq_true rfl) ⟨(Nat.le_of_ble_eq_true rfl), (Nat.le_of_ble_eq_true rfl)⟩ (Nat.le_of_ble_eq_true rfl) (Nat.le_of_ble_eq_true rfl) (fun A hP => ?_)
    have hC := el_call (ws := (x, xob x n rn mn pn sn) :: (x + 6, bw_aq g 3 40 MA) :: (x + 5, bw_an g 130 row) :: mcl g M r c f) hC hP (by simp <;> omega)
    have hE := hE.tr hP
    refine bw_aload_n 47 dX9_solve_46 rfl rfl ?_
    refine bw_get 50 dX9_solve_47 rfl lX9_52 (hC.at 0 rfl) rfl ?_
    refine bw_aload_n 51 dX9_solve_50 rfl rfl ?_
    refine bw_get 54 dX9_solve_51 rfl lX9_188 (hC.at 3 rfl) rfl ?_
    refine bw_cVm 57 dX9_solve_54 rfl vX9_211 (c1_reduce g hG (by simp <;> omega) hr (by omega) hc (gac_lt hrow (gel_lt hf hW r)) (hC.sub [5, 6, 7, 8, 9] (by decide) rfl) hE.2.2) (hC.at 5 rfl) rfl rfl (Nat.le_of_ble_eq_true rfl) ⟨(Nat.le_of_ble_eq_true rfl), (Nat.le_of_ble_eq_true rfl)⟩ (Nat.le_of_ble_eq_true rfl) (Nat.le_of_ble_eq_true rfl) (fun x A hP => ?_)
    obtain ⟨h4, h5⟩ := hP
    subst h4
    have hC := el_call (ws := (x, xob x n rn mn pn sn) :: (x + 6, bw_aq g 3 40 MA) :: (x + 5, bw_an g 130 row) :: mcl g M r c f) hC h5 (by simp <;> omega)
    have hE := hE.tr h5
    obtain ⟨hS0, hE2, hR2⟩ := hE
    have hS : bw_sm (x :: (x + 5) :: elL (x + 11) (x + 12) (x + 21)) A0 A := bw_sm.rf.trans hS0 (fun b hb => List.mem_cons_of_mem _ (List.mem_cons_of_mem _ hb))
    obtain ⟨r1, r2, _⟩ := gre_rk (n := n) (q := 2 ^ n ||| p) (h := r) (wd := c + 1) c 0 (gac (gel c f W r) c row r) 0 1 pv
    have r2 := r2 (Nat.zero_le r)
    have hgl := gre_lt hG.2.2.1 (h := r) (wd := c + 1) c 0 (gac (gel c f W r) c row r) 0 1 pv (gac_lt hrow (gel_lt hf hW r))
    have hpv : ∀ j r', j < c → (gre n (2 ^ n ||| p) r (c + 1) c 0 (gac (gel c f W r) c row r) 0 1 pv).2.2.2 j = some r' → r' < 8 := fun j r' hj hs => Nat.lt_of_lt_of_le (gre_pv c 0 _ 0 1 pv j r' (Nat.zero_le j) (by omega) hs) hr
    generalize hgr : gre n (2 ^ n ||| p) r (c + 1) c 0 (gac (gel c f W r) c row r) 0 1 pv = U at *
    refine bw_istore_n 58 dX9_solve_57 rfl (by decide) ?_
    refine bw_aload_n 59 dX9_solve_58 rfl rfl ?_
    refine bw_iconst (0) 60 dX9_solve_59 (by decide) rfl ?_
    refine bw_eqi (y := nI 0) rfl ?_
    refine bw_putU 63 dX9_solve_60 rfl pX9_135 (hC.at 0 rfl) rfl rfl (Nat.le_of_ble_eq_true rfl) (fun A hU => ?_)
    have hC := hC.upd 0 rfl hU
    have hR2 := hR2.frm (L := [x]) (bw_sm.rf.upd hU (by simp)) (by simp <;> omega)
    have hS := hS.upd hU (by simp)
    clear hU
    refine bw_aload_n 64 dX9_solve_63 rfl rfl ?_
    refine bw_get 67 dX9_solve_64 rfl lX9_52 (hC.at 0 rfl) rfl ?_
    refine bw_aload_n 68 dX9_solve_67 rfl rfl ?_
    refine bw_get 71 dX9_solve_68 rfl lX9_188 (hC.at 3 rfl) rfl ?_
    refine bw_cVi 74 dX9_solve_71 rfl vX9_229 (c1_leavesOver g hr (by omega) r2 hgl hG.p16 (hC.sub [5, 6, 7, 8, 9] (by decide) rfl) hR2) (hC.at 5 rfl) rfl rfl (Nat.le_of_ble_eq_true rfl) ⟨(Nat.le_of_ble_eq_true rfl), (Nat.le_of_ble_eq_true rfl)⟩ (Nat.le_of_ble_eq_true rfl) (Nat.le_of_ble_eq_true rfl) ?_
    refine bw_if_eq 79 77 dX9_solve_74 rfl rfl (fun c74 => ?_) (fun c74 => ?_)
    · have hno : gfr U.1 c (r - U.2.1) U.2.1 = none := by
        by_cases hx : gfr U.1 c (r - U.2.1) U.2.1 = none
        · exact hx
        · rw [if_neg hx] at c74; exact absurd c74 (by decide)
      refine bw_iconst (0) 80 dX9_solve_79 (by decide) rfl ?_
      refine bw_eqi (y := nI 0) rfl ?_
      refine bw_istore 82 dX9_solve_80 rfl (by decide) ?_
      refine bw_loc _ ?_ (k9_solve_loop g (rk := U.2.1) hc (by omega) hpv (Nat.le_of_ble_eq_true rfl) (Nat.le_of_ble_eq_true rfl) (fun A hS hC hR2 => ?_) c 0 (by omega) A (hC.sub [0, 2, 3, 4, 5, 6, 7, 8, 9] (by decide) (by rfl)) hR2 hS)
      · exact ⟨rfl, rfl, rfl, rfl, trivial⟩
      refine ⟨_, rfl, ?_⟩
      unfold slP
      rw [hgr]
      exact ⟨hS, hC.sub [4, 5, 6, 7, 8] (by decide) rfl, hR2, Or.inr ⟨hno, rfl, hC.sub [0, 1] (by decide) rfl⟩⟩
    · have hso : gfr U.1 c (r - U.2.1) U.2.1 ≠ none := fun hx => c74 (by rw [if_pos hx])
      refine bw_iconst (-1) 78 dX9_solve_77 (by decide) rfl ?_
      refine bw_iret dX9_solve_78 rfl (Nat.le_of_ble_eq_true rfl) (Nat.le_of_ble_eq_true rfl) ?_
      refine ⟨_, rfl, ?_⟩
      unfold slP
      rw [hgr]
      exact ⟨hS, hC.sub [5, 6, 7, 8, 9] (by decide) rfl, hR2, Or.inl ⟨hso, rfl, hC.sub [0, 2] (by decide) rfl⟩⟩
  · exact absurd (by rw [hrn]) c14
theorem k9_solveY (g : bw_G) {A : bw_H} {x n rn mn pn sn M r c k : Nat} {MA : Nat → Option Nat} (hC : bw_has A [(x, xob x n rn mn pn sn), (x + 6, bw_aq g 3 40 MA), (M, mob M r c)]) (h130 : rn ≤ 130) (hr : r ≤ 8) (hk : k < mn) (hm : mn ≤ 40) (ha : MA k = some M) (h : rn ≠ r) : bw_C g (bw_rm 8 20 200) mX9_solve [.ref x, .int (nI k)] A (bw_pz eIS A) := by
  refine bw_C.of (by decide) (Nat.le_of_ble_eq_true rfl) rfl ?_
  refine bw_aload_n 1 dX9_solve_0 rfl rfl ?_
  refine bw_iload_n 2 dX9_solve_1 rfl rfl ?_
  refine bw_cVr 5 dX9_solve_2 rfl vX9_176 (c9_ma g (hC.sub [0, 1] (by decide) rfl) hk hm ha) (hC.at 0 rfl) rfl rfl (Nat.le_of_ble_eq_true rfl) ⟨(Nat.le_of_ble_eq_true rfl), (Nat.le_of_ble_eq_true rfl)⟩ (Nat.le_of_ble_eq_true rfl) (Nat.le_of_ble_eq_true rfl) ?_
  refine bw_astore_n 6 dX9_solve_5 rfl (by decide) ?_
  refine bw_aload_n 7 dX9_solve_6 rfl rfl ?_
  refine bw_get 10 dX9_solve_7 rfl lX9_135 (hC.at 0 rfl) rfl ?_
  refine bw_aload_n 11 dX9_solve_10 rfl rfl ?_
  refine bw_get 14 dX9_solve_11 rfl lX9_185 (hC.at 2 rfl) rfl ?_
  refine bw_icmp_eq 27 17 dX9_solve_14 rfl rfl (fun c14 => ?_) (fun c14 => ?_)
  · exact absurd ((nI_eq (by omega) (by omega)).mp c14) h
  · refine bw_throw "the row must have one member for each row of the matrix" dX9_solve_17 dX9_solve_20 dX9_solve_21 dX9_solve_23 dX9_solve_26 tX9_163 (by decide +kernel) rfl (Nat.le_of_ble_eq_true rfl) (Nat.le_of_ble_eq_true rfl) (Nat.le_of_ble_eq_true rfl) (Nat.le_of_ble_eq_true rfl) ?_
    exact fun m hm => ⟨rfl, m, hm, rfl⟩
theorem k9_solveX (g : bw_G) {A : bw_H} {x n rn mn pn sn : Nat} {a : Int32} (hC : bw_has A [(x, xob x n rn mn pn sn)]) (h : ¬ kI mn a) : bw_C g (bw_rm 8 20 200) mX9_solve [.ref x, .int a] A (bw_pz eIO A) := by
  refine bw_C.of (by decide) (Nat.le_of_ble_eq_true rfl) rfl ?_
  refine bw_aload_n 1 dX9_solve_0 rfl rfl ?_
  refine bw_iload_n 2 dX9_solve_1 rfl rfl ?_
  refine bw_cVz 5 dX9_solve_2 rfl vX9_176 (c9_maX g hC h) (hC.at 0 rfl) rfl rfl (Nat.le_of_ble_eq_true rfl) ⟨(Nat.le_of_ble_eq_true rfl), (Nat.le_of_ble_eq_true rfl)⟩ (Nat.le_of_ble_eq_true rfl) (Nat.le_of_ble_eq_true rfl) rfl ?_
  exact fun m hm => ⟨rfl, m, hm, rfl⟩
