/-! the class's calls: powers, sums, times, solve -/
/-- powers of the row's members, up to place i, j -/
def gpF (n q c : Nat) (row : Nat → Nat) (i j t : Nat) : Nat := if t < i * c + j then gpow n q (row (t / c)) (t % c) else 0
theorem gpF_s {n q c i j : Nat} {row : Nat → Nat} (hj : j < c) : (fun t => if t = i * c + j then gpow n q (row i) j else gpF n q c row i j t) = gpF n q c row i (j + 1) := by
  funext t
  unfold gpF
  by_cases h : t = i * c + j
  · obtain ⟨h1, h2⟩ := dm_of (c := c) (k := i) (t := t) (by omega) (by omega)
    rw [if_pos h, if_pos (by omega), h1, h2, show t - i * c = j by omega]
  · rw [if_neg h]
    by_cases h3 : t < i * c + j
    · rw [if_pos h3, if_pos (by omega)]
    · rw [if_neg h3, if_neg (by omega)]
theorem gpF_r {n q c i : Nat} {row : Nat → Nat} : gpF n q c row i c = gpF n q c row (i + 1) 0 := by
  funext t
  unfold gpF
  rw [Nat.succ_mul, Nat.add_zero]
theorem gpF_0 {n q c : Nat} {row : Nat → Nat} : gpF n q c row 0 0 = fun _ => 0 := by
  funext t
  unfold gpF
  rw [if_neg (by omega)]
/-- inverses of the sums -/
def giF (n q r c : Nat) (row : Nat → Nat) (i j t : Nat) : Nat := if t < i * c + j then ginv n q (row (t / c) ^^^ row (r + t % c)) else 0
theorem giF_s {n q r c i j : Nat} {row : Nat → Nat} (hj : j < c) : (fun t => if t = i * c + j then ginv n q (row i ^^^ row (r + j)) else giF n q r c row i j t) = giF n q r c row i (j + 1) := by
  funext t
  unfold giF
  by_cases h : t = i * c + j
  · obtain ⟨h1, h2⟩ := dm_of (c := c) (k := i) (t := t) (by omega) (by omega)
    rw [if_pos h, if_pos (by omega), h1, h2, show t - i * c = j by omega]
  · rw [if_neg h]
    by_cases h3 : t < i * c + j
    · rw [if_pos h3, if_pos (by omega)]
    · rw [if_neg h3, if_neg (by omega)]
theorem giF_r {n q r c i : Nat} {row : Nat → Nat} : giF n q r c row i c = giF n q r c row (i + 1) 0 := by
  funext t
  unfold giF
  rw [Nat.succ_mul, Nat.add_zero]
theorem giF_0 {n q r c : Nat} {row : Nat → Nat} : giF n q r c row 0 0 = fun _ => 0 := by
  funext t
  unfold giF
  rw [if_neg (by omega)]
set_option maxHeartbeats 4000000 in
set_option maxRecDepth 100000 in
theorem k9_powers_in (g : bw_G) {A0 : bw_H} {x n p gg rn mn pn sn r c a i cu su : Nat} {MA : Nat → Option Nat} {row : Nat → Nat} {Q : bw_O → bw_H → Prop} (hG : GFg n p gg) (hrow : ∀ i, row i < 2 ^ n) (hr : r ≤ 8) (hc : c ≤ 8) (hi : i < r) (hcu : cu ≤ 20) (hsu : su ≤ 200)
    (kk : ∀ A : bw_H, bw_has A ((x, xob x n rn mn pn sn) :: (x + 6, bw_aq g 3 40 MA) :: (x + 5, bw_an g 130 row) :: (fcl g n p gg (x + 9) ++ mcl g a r c (gpF n (2 ^ n ||| p) c row i c))) → bw_ff a [x, x + 6] A0 A → A.1 = a + 2 → bw_W g (bw_rm 8 20 200) mX9_powers Q cu su 104 [(0, .ref x), (1, .int (nI r)), (2, .int (nI c)), (3, .ref a), (4, .int (nI i))] [] A) :
    ∀ (d j : Nat), j + d = c → ∀ A : bw_H, bw_has A ((x, xob x n rn mn pn sn) :: (x + 6, bw_aq g 3 40 MA) :: (x + 5, bw_an g 130 row) :: (fcl g n p gg (x + 9) ++ mcl g a r c (gpF n (2 ^ n ||| p) c row i j))) → bw_ff a [x, x + 6] A0 A → A.1 = a + 2 →
      bw_W g (bw_rm 8 20 200) mX9_powers Q cu su 60 [(0, .ref x), (1, .int (nI r)), (2, .int (nI c)), (3, .ref a), (4, .int (nI i)), (5, .int (nI (gpow n (2 ^ n ||| p) (row i) j))), (6, .int (nI j))] [] A := by
  have hrc : r * c ≤ 64 := Nat.mul_le_mul hr hc
  have hic := row_end (c := c) hi
  intro d
  induction d with
  | zero =>
    intro j hjd A hC hW hz
    have hj : j = c := by omega
    subst hj
    refine bw_iload 62 dX9_powers_60 rfl rfl ?_
    refine bw_iload_n 63 dX9_powers_62 rfl rfl ?_
    refine bw_icmp_ge 104 66 dX9_powers_63 rfl rfl (fun c63 => ?_) (fun c63 => ?_)
    · exact bw_loc [(0, .ref x), (1, .int (nI r)), (2, .int (nI j)), (3, .ref a), (4, .int (nI i))] ⟨rfl, rfl, rfl, rfl, rfl, trivial⟩ (kk A hC hW hz)
    · exact absurd (Int32.le_refl _) c63
  | succ d ih =>
    intro j hjd A hC hW hz
    have hj : j < c := by omega
    refine bw_iload 62 dX9_powers_60 rfl rfl ?_
    refine bw_iload_n 63 dX9_powers_62 rfl rfl ?_
    refine bw_icmp_ge 104 66 dX9_powers_63 rfl rfl (fun c63 => ?_) (fun c63 => ?_)
    · exact absurd c63 (nI_ge hj (by omega))
    · skip
      refine bw_aload_n 67 dX9_powers_66 rfl rfl ?_
      refine bw_get 70 dX9_powers_67 rfl lX9_168 (hC.at 5 rfl) rfl ?_
      refine bw_iload 72 dX9_powers_70 rfl rfl ?_
      refine bw_iload_n 73 dX9_powers_72 rfl rfl ?_
      refine bw_imul 74 dX9_powers_73 rfl ?_
      refine bw_eqi (pk_mul i c) ?_
      refine bw_iload 76 dX9_powers_74 rfl rfl ?_
      refine bw_iadd 77 dX9_powers_76 rfl ?_
      refine bw_eqi (nI_add (i * c) j) ?_
      refine bw_iload 79 dX9_powers_77 rfl rfl ?_
      refine bw_iastN 80 dX9_powers_79 rfl (hC.at 6 rfl) (by omega) (by omega) (G := gpF n (2 ^ n ||| p) c row i (j + 1)) (gpF_s hj) (fun A hU => ?_)
      have hC := hC.upd 6 rfl hU
      have hW := hW.upd hU (Or.inl (by omega))
      have hz := (congrArg Prod.fst hU).trans hz
      clear hU
      refine bw_aload_n 81 dX9_powers_80 rfl rfl ?_
      refine bw_get 84 dX9_powers_81 rfl lX9_43 (hC.at 0 rfl) rfl ?_
      refine bw_iload 86 dX9_powers_84 rfl rfl ?_
      refine bw_aload_n 87 dX9_powers_86 rfl rfl ?_
      refine bw_get 90 dX9_powers_87 rfl lX9_21 (hC.at 0 rfl) rfl ?_
      refine bw_iload 92 dX9_powers_90 rfl rfl ?_
      refine bw_ialdN 93 dX9_powers_92 rfl (hC.at 2 rfl) (by omega) (by omega) ?_
      refine bw_cVi 96 dX9_powers_93 rfl vX9_103 (c3_mul g hG (hC.sub [3, 4] (by decide) rfl) (gpow_lt hG.2.2.1 _ j) (hrow i)) (hC.at 3 rfl) rfl rfl (Nat.le_of_ble_eq_true rfl) ⟨(Nat.le_of_ble_eq_true rfl), (Nat.le_of_ble_eq_true rfl)⟩ (show cu ≤ 20 by omega) (show su ≤ 200 by omega) ?_
      refine bw_istore 98 dX9_powers_96 rfl (by decide) ?_
      refine bw_iincN (1) 101 dX9_powers_98 rfl rfl (by decide) (by decide) ?_
      refine bw_goto 60 dX9_powers_101 rfl ?_
      refine bw_loc _ ?_ (ih (j + 1) (by omega) A hC hW hz)
      exact ⟨rfl, rfl, rfl, rfl, rfl, rfl, congrArg (fun x => some (Value.int x)) (nI_1 ( j )), trivial⟩
set_option maxHeartbeats 4000000 in
set_option maxRecDepth 100000 in
theorem k9_powers_out (g : bw_G) {A0 : bw_H} {x n p gg rn mn pn sn r c a cu su : Nat} {MA : Nat → Option Nat} {row : Nat → Nat} (hG : GFg n p gg) (hrow : ∀ i, row i < 2 ^ n) (hr : r ≤ 8) (hc : c ≤ 8) (hcu : cu ≤ 20) (hsu : su ≤ 200) (hm : mn < 40) :
    ∀ (d i : Nat), i + d = r → ∀ A : bw_H, bw_has A ((x, xob x n rn mn pn sn) :: (x + 6, bw_aq g 3 40 MA) :: (x + 5, bw_an g 130 row) :: (fcl g n p gg (x + 9) ++ mcl g a r c (gpF n (2 ^ n ||| p) c row i 0))) → bw_ff a [x, x + 6] A0 A → A.1 = a + 2 →
      bw_W g (bw_rm 8 20 200) mX9_powers (bw_pm (maP g x n 0 mn pn sn a r c MA (gpF n (2 ^ n ||| p) c row r 0) [x, x + 6] A0)) cu su 48 [(0, .ref x), (1, .int (nI r)), (2, .int (nI c)), (3, .ref a), (4, .int (nI i))] [] A := by
  intro d
  induction d with
  | zero =>
    intro i hid A hC hW hz
    have hi : i = r := by omega
    subst hi
    refine bw_iload 50 dX9_powers_48 rfl rfl ?_
    refine bw_iload_n 51 dX9_powers_50 rfl rfl ?_
    refine bw_icmp_ge 110 54 dX9_powers_51 rfl rfl (fun c51 => ?_) (fun c51 => ?_)
    · refine bw_aload_n 111 dX9_powers_110 rfl rfl ?_
      refine bw_iconst (0) 112 dX9_powers_111 (by decide) rfl ?_
      refine bw_eqi (y := nI 0) rfl ?_
      refine bw_putU 115 dX9_powers_112 rfl pX9_135 (hC.at 0 rfl) rfl rfl (Nat.le_of_ble_eq_true rfl) (fun A hU => ?_)
      have hC := hC.upd 0 rfl hU
      have hW := hW.upd hU (Or.inr (by simp))
      have hz := (congrArg Prod.fst hU).trans hz
      clear hU
      refine bw_aload_n 116 dX9_powers_115 rfl rfl ?_
      refine bw_aload_n 117 dX9_powers_116 rfl rfl ?_
      refine bw_cVm 120 dX9_powers_117 rfl vX9_155 (c9_keepMatrix g (hC.sub [0, 1, 5] (by decide) rfl) hm) (hC.at 0 rfl) rfl rfl (Nat.le_of_ble_eq_true rfl) ⟨(Nat.le_of_ble_eq_true rfl), (Nat.le_of_ble_eq_true rfl)⟩ (show cu ≤ 20 by omega) (show su ≤ 200 by omega) (fun x A hP => ?_)
      obtain ⟨h4, h5⟩ := hP
      subst h4
      have hC := (hC.upd 1 rfl rfl).upd 0 rfl h5
      have hW := (hW.upd rfl (Or.inr (by simp))).upd h5 (Or.inr (by simp))
      have hz := (congrArg Prod.fst h5).trans hz
      refine bw_iret dX9_powers_120 rfl (show cu ≤ 20 by omega) (show su ≤ 200 by omega) ?_
      exact ⟨_, rfl, rfl, hz, hC.sub [0, 1, 5, 6] (by decide) rfl, hW⟩
    · exact absurd (Int32.le_refl _) c51
  | succ d ih =>
    intro i hid A hC hW hz
    have hi : i < r := by omega
    refine bw_iload 50 dX9_powers_48 rfl rfl ?_
    refine bw_iload_n 51 dX9_powers_50 rfl rfl ?_
    refine bw_icmp_ge 110 54 dX9_powers_51 rfl rfl (fun c51 => ?_) (fun c51 => ?_)
    · exact absurd c51 (nI_ge hi (by omega))
    · skip
      refine bw_iconst (1) 55 dX9_powers_54 (by decide) rfl ?_
      refine bw_eqi (y := nI 1) rfl ?_
      refine bw_istore 57 dX9_powers_55 rfl (by decide) ?_
      refine bw_iconst (0) 58 dX9_powers_57 (by decide) rfl ?_
      refine bw_eqi (y := nI 0) rfl ?_
      refine bw_istore 60 dX9_powers_58 rfl (by decide) ?_
      refine bw_loc _ ?_ (k9_powers_in g hG hrow hr hc hi hcu hsu (fun A hC hW hz => ?_) c 0 (by omega) A hC hW hz)
      · exact ⟨rfl, rfl, rfl, rfl, rfl, rfl, rfl, trivial⟩
      refine bw_iincN (1) 107 dX9_powers_104 rfl rfl (by decide) (by decide) ?_
      refine bw_goto 48 dX9_powers_107 rfl ?_
      refine bw_loc _ ?_ (ih (i + 1) (by omega) A (by rw [← gpF_r]; exact hC) hW hz)
      exact ⟨rfl, rfl, rfl, rfl, congrArg (fun x => some (Value.int x)) (nI_1 ( i )), trivial⟩
set_option maxHeartbeats 4000000 in
set_option maxRecDepth 100000 in
theorem k9_powers (g : bw_G) {A0 : bw_H} {x n p gg rn mn pn sn r c a : Nat} {MA : Nat → Option Nat} {row : Nat → Nat} (hG : GFg n p gg) (hC : bw_has A0 ((x, xob x n rn mn pn sn) :: (x + 6, bw_aq g 3 40 MA) :: (x + 5, bw_an g 130 row) :: fcl g n p gg (x + 9))) (hz : A0.1 = a) (hrow : ∀ i, row i < 2 ^ n) (hr1 : 1 ≤ r) (hr : r ≤ 8) (hc1 : 1 ≤ c) (hc : c ≤ 8) (hrn : rn = r) (hal0 : ¬ hal row rn 1) (hm : mn < 40) : bw_C g (bw_rm 8 20 200) mX9_powers [.ref x, .int (nI r), .int (nI c)] A0 (bw_pm (maP g x n 0 mn pn sn a r c MA (gpF n (2 ^ n ||| p) c row r 0) [x, x + 6] A0)) := by
  have hW : bw_ff a [x, x + 6] A0 A0 := bw_ff.rf
  refine bw_C.of (by decide) (Nat.le_of_ble_eq_true rfl) rfl ?_
  refine bw_iload_n 1 dX9_powers_0 rfl rfl ?_
  refine bw_iload_n 2 dX9_powers_1 rfl rfl ?_
  refine bw_cSv 5 dX9_powers_2 rfl sX9_148 (c9_ns g (sI_nI hr1 hr) (sI_nI hc1 hc)) rfl rfl (Nat.le_of_ble_eq_true rfl) ⟨(Nat.le_of_ble_eq_true rfl), (Nat.le_of_ble_eq_true rfl)⟩ (Nat.le_of_ble_eq_true rfl) (Nat.le_of_ble_eq_true rfl) (fun A hP => ?_)
  subst hP
  refine bw_aload_n 6 dX9_powers_5 rfl rfl ?_
  refine bw_get 9 dX9_powers_6 rfl lX9_135 (hC.at 0 rfl) rfl ?_
  refine bw_iload_n 10 dX9_powers_9 rfl rfl ?_
  refine bw_icmp_ne 21 13 dX9_powers_10 rfl rfl (fun c10 => ?_) (fun c10 => ?_)
  · exact absurd (by rw [hrn]) c10
  · refine bw_aload_n 14 dX9_powers_13 rfl rfl ?_
    refine bw_iconst (1) 15 dX9_powers_14 (by decide) rfl ?_
    refine bw_cVi 18 dX9_powers_15 rfl vX9_159 (c9_hasAlike g (step := 1) (z := 0) (hC.sub [0, 2] (by decide) rfl) hG.p16 hrow (by omega) (by omega) (by omega) (Or.inr ⟨rfl, hal0⟩)) (hC.at 0 rfl) rfl rfl (Nat.le_of_ble_eq_true rfl) ⟨(Nat.le_of_ble_eq_true rfl), (Nat.le_of_ble_eq_true rfl)⟩ (Nat.le_of_ble_eq_true rfl) (Nat.le_of_ble_eq_true rfl) ?_
    refine bw_if_eq 31 21 dX9_powers_18 rfl rfl (fun c18 => ?_) (fun c18 => ?_)
    · refine bw_aload_n 32 dX9_powers_31 rfl rfl ?_
      refine bw_cVv 35 dX9_powers_32 rfl vX9_151 (c9_nr g (hC.sub [0] (by decide) rfl) hm) (hC.at 0 rfl) rfl rfl (Nat.le_of_ble_eq_true rfl) ⟨(Nat.le_of_ble_eq_true rfl), (Nat.le_of_ble_eq_true rfl)⟩ (Nat.le_of_ble_eq_true rfl) (Nat.le_of_ble_eq_true rfl) (fun A hP => ?_)
      subst hP
      refine bw_ok (fun hok => ?_)
      refine bw_newU 38 dX9_powers_35 rfl nX9_25 (Nat.le_of_ble_eq_true rfl) (Nat.le_of_ble_eq_true rfl) hz (fun A hU => ?_)
      have hC := hC.nwda hok hz hU
      have hW := hW.nwd hU hz (by omega)
      have hz := (congrArg Prod.fst hU).trans (congrArg (· + 1) hz)
      clear hU hok
      refine bw_dup 39 dX9_powers_38 rfl rfl ?_
      refine bw_iload_n 40 dX9_powers_39 rfl rfl ?_
      refine bw_iload_n 41 dX9_powers_40 rfl rfl ?_
      refine bw_ok (fun hok => ?_)
      refine bw_cIv 44 dX9_powers_41 rfl iX9_154 (c5_initB g (hC.sub [5] (by decide) rfl) hz hr hc) rfl rfl (Nat.le_of_ble_eq_true rfl) ⟨(Nat.le_of_ble_eq_true rfl), (Nat.le_of_ble_eq_true rfl)⟩ (Nat.le_of_ble_eq_true rfl) (Nat.le_of_ble_eq_true rfl) (fun A hP => ?_)
      obtain ⟨h1, h2, h3⟩ := hP
      have hC := hC.gr hok hz rfl h2 h3 (by simp)
      have hW := hW.gwt h2 (by omega)
      have hz := h1
      refine bw_astore_n 45 dX9_powers_44 rfl (by decide) ?_
      refine bw_iconst (0) 46 dX9_powers_45 (by decide) rfl ?_
      refine bw_eqi (y := nI 0) rfl ?_
      refine bw_istore 48 dX9_powers_46 rfl (by decide) ?_
      refine bw_loc _ ?_ (k9_powers_out g hG hrow hr hc ?_ ?_ hm r 0 (by omega) A (by rw [gpF_0]; exact hC) hW hz)
      · exact ⟨rfl, rfl, rfl, rfl, rfl, trivial⟩
      all_goals exact Nat.le_of_ble_eq_true rfl
    · exact absurd rfl c18
theorem k9_powersZ (g : bw_G) {A : bw_H} {x n rn mn pn sn : Nat} {a b : Int32} {row : Nat → Nat} (hn : 2 ^ n ≤ 65536) (hrow : ∀ i, row i < 2 ^ n) (hC : bw_has A [(x, xob x n rn mn pn sn), (x + 5, bw_an g 130 row)]) (h130 : rn ≤ 130) (h1 : sI a) (h2 : sI b) (hrn : nI rn = a) (hal0 : ¬ hal row rn 1) (hm : mn = 40) : bw_C g (bw_rm 8 20 200) mX9_powers [.ref x, .int a, .int b] A (bw_pz eUO A) := by
  subst hrn
  refine bw_C.of (by decide) (Nat.le_of_ble_eq_true rfl) rfl ?_
  refine bw_iload_n 1 dX9_powers_0 rfl rfl ?_
  refine bw_iload_n 2 dX9_powers_1 rfl rfl ?_
  refine bw_cSv 5 dX9_powers_2 rfl sX9_148 (c9_ns g h1 h2) rfl rfl (Nat.le_of_ble_eq_true rfl) ⟨(Nat.le_of_ble_eq_true rfl), (Nat.le_of_ble_eq_true rfl)⟩ (Nat.le_of_ble_eq_true rfl) (Nat.le_of_ble_eq_true rfl) (fun A hP => ?_)
  subst hP
  refine bw_aload_n 6 dX9_powers_5 rfl rfl ?_
  refine bw_get 9 dX9_powers_6 rfl lX9_135 (hC.at 0 rfl) rfl ?_
  refine bw_iload_n 10 dX9_powers_9 rfl rfl ?_
  refine bw_icmp_ne 21 13 dX9_powers_10 rfl rfl (fun c10 => ?_) (fun c10 => ?_)
  · exact absurd rfl c10
  · refine bw_aload_n 14 dX9_powers_13 rfl rfl ?_
    refine bw_iconst (1) 15 dX9_powers_14 (by decide) rfl ?_
    refine bw_cVi 18 dX9_powers_15 rfl vX9_159 (c9_hasAlike g (step := 1) (z := 0) (hC.sub [0, 1] (by decide) rfl) hn hrow (by omega) (by omega) (by omega) (Or.inr ⟨rfl, hal0⟩)) (hC.at 0 rfl) rfl rfl (Nat.le_of_ble_eq_true rfl) ⟨(Nat.le_of_ble_eq_true rfl), (Nat.le_of_ble_eq_true rfl)⟩ (Nat.le_of_ble_eq_true rfl) (Nat.le_of_ble_eq_true rfl) ?_
    refine bw_if_eq 31 21 dX9_powers_18 rfl rfl (fun c18 => ?_) (fun c18 => ?_)
    · refine bw_aload_n 32 dX9_powers_31 rfl rfl ?_
      refine bw_cVz 35 dX9_powers_32 rfl vX9_151 (c9_nrX g (hC.sub [0] (by decide) rfl) hm) (hC.at 0 rfl) rfl rfl (Nat.le_of_ble_eq_true rfl) ⟨(Nat.le_of_ble_eq_true rfl), (Nat.le_of_ble_eq_true rfl)⟩ (Nat.le_of_ble_eq_true rfl) (Nat.le_of_ble_eq_true rfl) rfl ?_
      exact fun m hm => ⟨rfl, m, hm, rfl⟩
    · exact absurd rfl c18
theorem k9_powersY (g : bw_G) {A : bw_H} {x n rn mn pn sn : Nat} {a b : Int32} {row : Nat → Nat} (hn : 2 ^ n ≤ 65536) (hrow : ∀ i, row i < 2 ^ n) (hC : bw_has A [(x, xob x n rn mn pn sn), (x + 5, bw_an g 130 row)]) (h130 : rn ≤ 130) (h1 : sI a) (h2 : sI b) (h : ¬ nI rn = a ∨ hal row rn 1) : bw_C g (bw_rm 8 20 200) mX9_powers [.ref x, .int a, .int b] A (bw_pz eIS A) := by
  refine bw_C.of (by decide) (Nat.le_of_ble_eq_true rfl) rfl ?_
  refine bw_iload_n 1 dX9_powers_0 rfl rfl ?_
  refine bw_iload_n 2 dX9_powers_1 rfl rfl ?_
  refine bw_cSv 5 dX9_powers_2 rfl sX9_148 (c9_ns g h1 h2) rfl rfl (Nat.le_of_ble_eq_true rfl) ⟨(Nat.le_of_ble_eq_true rfl), (Nat.le_of_ble_eq_true rfl)⟩ (Nat.le_of_ble_eq_true rfl) (Nat.le_of_ble_eq_true rfl) (fun A hP => ?_)
  subst hP
  refine bw_aload_n 6 dX9_powers_5 rfl rfl ?_
  refine bw_get 9 dX9_powers_6 rfl lX9_135 (hC.at 0 rfl) rfl ?_
  refine bw_iload_n 10 dX9_powers_9 rfl rfl ?_
  refine bw_icmp_ne 21 13 dX9_powers_10 rfl rfl (fun c10 => ?_) (fun c10 => ?_)
  · skip
    refine bw_throw "the row must have one member for each row, none alike" dX9_powers_21 dX9_powers_24 dX9_powers_25 dX9_powers_27 dX9_powers_30 tX9_163 (by decide +kernel) rfl (Nat.le_of_ble_eq_true rfl) (Nat.le_of_ble_eq_true rfl) (Nat.le_of_ble_eq_true rfl) (Nat.le_of_ble_eq_true rfl) ?_
    exact fun m hm => ⟨rfl, m, hm, rfl⟩
  · have hha : hal row rn 1 := by
      rcases h with h | h
      · exact absurd c10 h
      · exact h
    refine bw_aload_n 14 dX9_powers_13 rfl rfl ?_
    refine bw_iconst (1) 15 dX9_powers_14 (by decide) rfl ?_
    refine bw_cVi 18 dX9_powers_15 rfl vX9_159 (c9_hasAlike g (step := 1) (z := 1) (hC.sub [0, 1] (by decide) rfl) hn hrow (by omega) (by omega) (by omega) (Or.inl ⟨rfl, hha⟩)) (hC.at 0 rfl) rfl rfl (Nat.le_of_ble_eq_true rfl) ⟨(Nat.le_of_ble_eq_true rfl), (Nat.le_of_ble_eq_true rfl)⟩ (Nat.le_of_ble_eq_true rfl) (Nat.le_of_ble_eq_true rfl) ?_
    refine bw_if_eq 31 21 dX9_powers_18 rfl rfl (fun c18 => ?_) (fun c18 => ?_)
    · exact absurd c18 (by decide)
    · skip
      refine bw_throw "the row must have one member for each row, none alike" dX9_powers_21 dX9_powers_24 dX9_powers_25 dX9_powers_27 dX9_powers_30 tX9_163 (by decide +kernel) rfl (Nat.le_of_ble_eq_true rfl) (Nat.le_of_ble_eq_true rfl) (Nat.le_of_ble_eq_true rfl) (Nat.le_of_ble_eq_true rfl) ?_
      exact fun m hm => ⟨rfl, m, hm, rfl⟩
theorem k9_powersX (g : bw_G) {A : bw_H} {x : Nat} {a b : Int32} (h : ¬ (sI a ∧ sI b)) : bw_C g (bw_rm 8 20 200) mX9_powers [.ref x, .int a, .int b] A (bw_pz eIA A) := by
  refine bw_C.of (by decide) (Nat.le_of_ble_eq_true rfl) rfl ?_
  refine bw_iload_n 1 dX9_powers_0 rfl rfl ?_
  refine bw_iload_n 2 dX9_powers_1 rfl rfl ?_
  refine bw_cSz 5 dX9_powers_2 rfl sX9_148 (c9_nsX g h) rfl rfl (Nat.le_of_ble_eq_true rfl) ⟨(Nat.le_of_ble_eq_true rfl), (Nat.le_of_ble_eq_true rfl)⟩ (Nat.le_of_ble_eq_true rfl) (Nat.le_of_ble_eq_true rfl) rfl ?_
  exact fun m hm => ⟨rfl, m, hm, rfl⟩
