/-! the reference: solve -/
/-- row, rows, columns, cells, work, lead -/
noncomputable abbrev slc (g : bw_G) (M : Nat) (row rr cc C T : Nat → Nat) (L : Nat → Option Nat) : List (Nat × va_E) := (M + 1, bw_an g 130 row) :: (mmc g M rr cc C ++ [(M + 6, bw_an g 72 T), (M + 7, bw_ao g 8 L)])
abbrev slL (M : Nat) : List Nat := [M, M + 1, M + 6, M + 7]
/-- the work is W, up to row i and there up to column j -/
def wkp (T : Nat → Nat) (W : Nat → Nat → Nat) (c i j : Nat) : Prop := ∀ a b, (a < i ∧ b ≤ c) ∨ (a = i ∧ b < j) → T (9 * a + b) = W a b
/-- the work is W -/
def wkr (T : Nat → Nat) (W : Nat → Nat → Nat) (r c : Nat) : Prop := ∀ a b, a < r → b ≤ c → T (9 * a + b) = W a b
theorem wk_ne {a b i j c : Nat} (hc : c ≤ 8) (hb : b ≤ c) (hj : j ≤ c) (h : 9 * a + b = 9 * i + j) : a = i ∧ b = j := by omega
theorem wkp.set {T : Nat → Nat} {W : Nat → Nat → Nat} {c i j x : Nat} (h : wkp T W c i j) (hc : c ≤ 8) (hj : j ≤ c) (hx : x = W i j) : wkp (fun t => if t = 9 * i + j then x else T t) W c i (j + 1) := by
  intro a b hab
  show (if 9 * a + b = 9 * i + j then x else T (9 * a + b)) = W a b
  by_cases he : 9 * a + b = 9 * i + j
  · obtain ⟨h1, h2⟩ := wk_ne hc (by omega) hj he
    rw [if_pos he, hx, h1, h2]
  · rw [if_neg he]
    refine h a b ?_
    rcases hab with h1 | h1
    · exact Or.inl h1
    · refine Or.inr ⟨h1.1, ?_⟩
      have : b ≠ j := fun h2 => he (by rw [h1.1, h2])
      omega
theorem wkp.row {T : Nat → Nat} {W : Nat → Nat → Nat} {c i : Nat} (h : wkp T W c i (c + 1)) : wkp T W c (i + 1) 0 := by
  intro a b hab
  refine h a b ?_
  omega
theorem wkp.all {T : Nat → Nat} {W : Nat → Nat → Nat} {c r : Nat} (h : wkp T W c r 0) : wkr T W r c := fun a b ha hb => h a b (Or.inl ⟨ha, hb⟩)
/-- one cell changes -/
theorem wkr.set {T : Nat → Nat} {W W' : Nat → Nat → Nat} {r c i j x : Nat} (h : wkr T W r c) (hc : c ≤ 8) (hj : j ≤ c) (hx : x = W' i j) (hW : ∀ a b, ¬ (a = i ∧ b = j) → W' a b = W a b) : wkr (fun t => if t = 9 * i + j then x else T t) W' r c := by
  intro a b ha hb
  show (if 9 * a + b = 9 * i + j then x else T (9 * a + b)) = W' a b
  by_cases he : 9 * a + b = 9 * i + j
  · obtain ⟨h1, h2⟩ := wk_ne hc hb hj he
    rw [if_pos he, hx, h1, h2]
  · rw [if_neg he, hW a b (fun h2 => he (by rw [h2.1, h2.2]))]
    exact h a b ha hb
set_option maxHeartbeats 4000000 in
theorem m_solve_fj (g : bw_G) {A0 : bw_H} {M n p gg rn mn pn rd rs pt sn r c i m : Nat} {row rr cc C : Nat → Nat} {L : Nat → Option Nat} {U : Nat → Nat → Nat} {Q : bw_O → bw_H → Prop} (hm : m < 40) (hr : r ≤ 8) (hc : c ≤ 8) (hi : i < r) (hU : ∀ k, k < c → U i k = C (64 * m + 8 * i + k)) (hUc : U i c = row i)
    (kk : ∀ (A : bw_H) (T : Nat → Nat), wkp T U c i (c + 1) → bw_has A ((M, mdo M n p gg 0 rn mn pn rd rs pt sn) :: slc g M row rr cc C T L) → bw_sm (slL M) A0 A → bw_W g (bw_rm 8 0 0) mX10_solve Q 0 0 119 [(0, .ref M), (1, .int (nI m)), (2, .int (nI r)), (3, .int (nI c)), (4, .int (nI i))] [] A) :
    ∀ (d j : Nat), j + d = c + 1 → ∀ (A : bw_H) (T : Nat → Nat), wkp T U c i j → bw_has A ((M, mdo M n p gg 0 rn mn pn rd rs pt sn) :: slc g M row rr cc C T L) → bw_sm (slL M) A0 A →
      bw_W g (bw_rm 8 0 0) mX10_solve Q 0 0 64 [(0, .ref M), (1, .int (nI m)), (2, .int (nI r)), (3, .int (nI c)), (4, .int (nI i)), (5, .int (nI j))] [] A := by
  intro d
  induction d with
  | zero =>
    intro j hj A T hT hC hS
    have hj : j = c + 1 := by omega
    subst hj
    refine bw_iload 66 dX10_solve_64 rfl rfl ?_
    refine bw_iload_n 67 dX10_solve_66 rfl rfl ?_
    refine bw_icmp_gt 119 70 dX10_solve_67 rfl rfl (fun c67 => ?_) (fun c67 => ?_)
    · exact bw_loc [(0, .ref M), (1, .int (nI m)), (2, .int (nI r)), (3, .int (nI c)), (4, .int (nI i))] ⟨rfl, rfl, rfl, rfl, rfl, trivial⟩ (kk A T hT hC hS)
    · exact absurd (nI_lt (by omega) (by omega)) c67
  | succ d ih =>
    intro j hj A T hT hC hS
    refine bw_iload 66 dX10_solve_64 rfl rfl ?_
    refine bw_iload_n 67 dX10_solve_66 rfl rfl ?_
    refine bw_icmp_gt 119 70 dX10_solve_67 rfl rfl (fun c67 => ?_) (fun c67 => ?_)
    · exact absurd c67 (nI_nlt (by omega) (by omega))
    · skip
      refine bw_aload_n 71 dX10_solve_70 rfl rfl ?_
      refine bw_get 74 dX10_solve_71 rfl lX10_30 (hC.at 0 rfl) rfl ?_
      refine bw_bipush (9) 76 dX10_solve_74 (by decide) rfl ?_
      refine bw_eqi (y := nI 9) rfl ?_
      refine bw_iload 78 dX10_solve_76 rfl rfl ?_
      refine bw_imul 79 dX10_solve_78 rfl ?_
      refine bw_eqi (pk_mul 9 i) ?_
      refine bw_iload 81 dX10_solve_79 rfl rfl ?_
      refine bw_iadd 82 dX10_solve_81 rfl ?_
      refine bw_eqi (nI_add (9 * i) j) ?_
      refine bw_iload 84 dX10_solve_82 rfl rfl ?_
      refine bw_iload_n 85 dX10_solve_84 rfl rfl ?_
      refine bw_icmp_ge 105 88 dX10_solve_85 rfl rfl (fun c85 => ?_) (fun c85 => ?_)
      · have hjc : c ≤ j := (nI_leI (by omega) (by omega)).mp c85
        have hx : row i = U i j := by rw [show j = c by omega]; exact hUc.symm
        refine bw_aload_n 106 dX10_solve_105 rfl rfl ?_
        refine bw_get 109 dX10_solve_106 rfl lX10_13 (hC.at 0 rfl) rfl ?_
        refine bw_iload 111 dX10_solve_109 rfl rfl ?_
        refine bw_ialdN 112 dX10_solve_111 rfl (hC.at 1 rfl) (by omega) (by omega) ?_
        refine bw_iastN 113 dX10_solve_112 rfl (hC.at 5 rfl) (by omega) (by omega) (G := _) (rfl) (fun A hU => ?_)
        have hC := hC.upd 5 rfl hU
        have hS := hS.upd hU (by simp)
        clear hU
        refine bw_iincN (1) 116 dX10_solve_113 rfl rfl (by decide) (by decide) ?_
        refine bw_goto 64 dX10_solve_116 rfl ?_
        refine bw_loc _ ?_ (ih (j + 1) (by omega) A _ (hT.set hc (by omega) hx) hC hS)
        exact ⟨rfl, rfl, rfl, rfl, rfl, congrArg (fun x => some (Value.int x)) (nI_1 ( j )), trivial⟩
      · have hjc : j < c := Nat.lt_of_not_le (fun h => c85 (nI_le h (by omega)))
        have hx : C (64 * m + 8 * i + j) = U i j := (hU j hjc).symm
        refine bw_aload_n 89 dX10_solve_88 rfl rfl ?_
        refine bw_get 92 dX10_solve_89 rfl lX10_23 (hC.at 0 rfl) rfl ?_
        refine bw_aload_n 93 dX10_solve_92 rfl rfl ?_
        refine bw_iload_n 94 dX10_solve_93 rfl rfl ?_
        refine bw_iload 96 dX10_solve_94 rfl rfl ?_
        refine bw_iload 98 dX10_solve_96 rfl rfl ?_
        refine bw_cVi 101 dX10_solve_98 rfl vX10_140 (m_at g) (hC.at 0 rfl) rfl rfl (Nat.le_of_ble_eq_true rfl) ⟨(Nat.le_of_ble_eq_true rfl), (Nat.le_of_ble_eq_true rfl)⟩ (Nat.le_of_ble_eq_true rfl) (Nat.le_of_ble_eq_true rfl) ?_
        refine bw_ialdN 102 dX10_solve_101 rfl (hC.at 4 rfl) (by omega) (by omega) ?_
        refine bw_goto 112 dX10_solve_102 rfl ?_
        refine bw_iastN 113 dX10_solve_112 rfl (hC.at 5 rfl) (by omega) (by omega) (G := _) (rfl) (fun A hU => ?_)
        have hC := hC.upd 5 rfl hU
        have hS := hS.upd hU (by simp)
        clear hU
        refine bw_iincN (1) 116 dX10_solve_113 rfl rfl (by decide) (by decide) ?_
        refine bw_goto 64 dX10_solve_116 rfl ?_
        refine bw_loc _ ?_ (ih (j + 1) (by omega) A _ (hT.set hc (by omega) hx) hC hS)
        exact ⟨rfl, rfl, rfl, rfl, rfl, congrArg (fun x => some (Value.int x)) (nI_1 ( j )), trivial⟩
set_option maxHeartbeats 4000000 in
theorem m_solve_fi (g : bw_G) {A0 : bw_H} {M n p gg rn mn pn rd rs pt sn r c m : Nat} {row rr cc C : Nat → Nat} {L : Nat → Option Nat} {U : Nat → Nat → Nat} {Q : bw_O → bw_H → Prop} (hm : m < 40) (hr : r ≤ 8) (hc : c ≤ 8) (hU : ∀ i k, i < r → k < c → U i k = C (64 * m + 8 * i + k)) (hUc : ∀ i, i < r → U i c = row i)
    (kk : ∀ (A : bw_H) (T : Nat → Nat), wkr T U r c → bw_has A ((M, mdo M n p gg 0 rn mn pn rd rs pt sn) :: slc g M row rr cc C T L) → bw_sm (slL M) A0 A → bw_W g (bw_rm 8 0 0) mX10_solve Q 0 0 125 [(0, .ref M), (2, .int (nI r)), (3, .int (nI c))] [] A) :
    ∀ (d i : Nat), i + d = r → ∀ (A : bw_H) (T : Nat → Nat), wkp T U c i 0 → bw_has A ((M, mdo M n p gg 0 rn mn pn rd rs pt sn) :: slc g M row rr cc C T L) → bw_sm (slL M) A0 A →
      bw_W g (bw_rm 8 0 0) mX10_solve Q 0 0 55 [(0, .ref M), (1, .int (nI m)), (2, .int (nI r)), (3, .int (nI c)), (4, .int (nI i))] [] A := by
  intro d
  induction d with
  | zero =>
    intro i hi A T hT hC hS
    have hi : r = i := by omega
    subst hi
    refine bw_iload 57 dX10_solve_55 rfl rfl ?_
    refine bw_iload_n 58 dX10_solve_57 rfl rfl ?_
    refine bw_icmp_ge 125 61 dX10_solve_58 rfl rfl (fun c58 => ?_) (fun c58 => ?_)
    · exact bw_loc [(0, .ref M), (2, .int (nI r)), (3, .int (nI c))] ⟨rfl, rfl, rfl, trivial⟩ (kk A T hT.all hC hS)
    · exact absurd (Int32.le_refl _) c58
  | succ d ih =>
    intro i hi A T hT hC hS
    refine bw_iload 57 dX10_solve_55 rfl rfl ?_
    refine bw_iload_n 58 dX10_solve_57 rfl rfl ?_
    refine bw_icmp_ge 125 61 dX10_solve_58 rfl rfl (fun c58 => ?_) (fun c58 => ?_)
    · exact absurd c58 (nI_ge (by omega) (by omega))
    · skip
      refine bw_iconst (0) 62 dX10_solve_61 (by decide) rfl ?_
      refine bw_eqi (y := nI 0) rfl ?_
      refine bw_istore 64 dX10_solve_62 rfl (by decide) ?_
      refine bw_loc _ ?_ (m_solve_fj g hm hr hc (show i < r by omega) (fun k hk => hU i k (by omega) hk) (hUc i (by omega)) (fun A T hT hC hS => ?_) (c + 1) 0 (by omega) A T hT hC hS)
      · exact ⟨rfl, rfl, rfl, rfl, rfl, rfl, trivial⟩
      refine bw_iincN (1) 122 dX10_solve_119 rfl rfl (by decide) (by decide) ?_
      refine bw_goto 55 dX10_solve_122 rfl ?_
      refine bw_loc _ ?_ (ih (i + 1) (by omega) A T hT.row hC hS)
      exact ⟨rfl, rfl, rfl, rfl, congrArg (fun x => some (Value.int x)) (nI_1 ( i )), trivial⟩
set_option maxHeartbeats 4000000 in
theorem m_solve_pv (g : bw_G) {A : bw_H} {M n p gg rn mn pn rd rs pt sn r c j rk : Nat} {row rr cc C T : Nat → Nat} {L : Nat → Option Nat} {W : Nat → Nat → Nat} {o : Option Nat} {Q : bw_O → bw_H → Prop} (hn : 2 ^ n ≤ 65536) (hW : ∀ a b, W a b < 2 ^ n) (hr : r ≤ 8) (hc : c ≤ 8) (hj : j < c) (hT : wkr T W r c) (hC : bw_has A ((M, mdo M n p gg 0 rn mn pn rd rs pt sn) :: slc g M row rr cc C T L))
    (kk : bw_W g (bw_rm 8 0 0) mX10_solve Q 0 0 169 [(0, .ref M), (2, .int (nI r)), (3, .int (nI c)), (4, .int (nI rk)), (5, .int (nI j)), (6, .int (nI (o.getD r)))] [] A) :
    ∀ (d pp : Nat), pp + d = r → gfr W j d pp = o →
      bw_W g (bw_rm 8 0 0) mX10_solve Q 0 0 141 [(0, .ref M), (2, .int (nI r)), (3, .int (nI c)), (4, .int (nI rk)), (5, .int (nI j)), (6, .int (nI pp))] [] A := by
  intro d
  induction d with
  | zero =>
    intro pp hp ho
    have hp : r = pp := by omega
    subst hp
    have ho : none = o := ho
    subst ho
    refine bw_iload 143 dX10_solve_141 rfl rfl ?_
    refine bw_iload_n 144 dX10_solve_143 rfl rfl ?_
    refine bw_icmp_ge 169 147 dX10_solve_144 rfl rfl (fun c144 => ?_) (fun c144 => ?_)
    · exact kk
    · exact absurd (Int32.le_refl _) c144
  | succ d ih =>
    intro pp hp ho
    have hl := hW pp j
    refine bw_iload 143 dX10_solve_141 rfl rfl ?_
    refine bw_iload_n 144 dX10_solve_143 rfl rfl ?_
    refine bw_icmp_ge 169 147 dX10_solve_144 rfl rfl (fun c144 => ?_) (fun c144 => ?_)
    · exact absurd c144 (nI_ge (by omega) (by omega))
    · skip
      refine bw_aload_n 148 dX10_solve_147 rfl rfl ?_
      refine bw_get 151 dX10_solve_148 rfl lX10_30 (hC.at 0 rfl) rfl ?_
      refine bw_bipush (9) 153 dX10_solve_151 (by decide) rfl ?_
      refine bw_eqi (y := nI 9) rfl ?_
      refine bw_iload 155 dX10_solve_153 rfl rfl ?_
      refine bw_imul 156 dX10_solve_155 rfl ?_
      refine bw_eqi (pk_mul 9 pp) ?_
      refine bw_iload 158 dX10_solve_156 rfl rfl ?_
      refine bw_iadd 159 dX10_solve_158 rfl ?_
      refine bw_eqi (nI_add (9 * pp) j) ?_
      refine bw_ialdN 160 dX10_solve_159 rfl (hC.at 5 rfl) (by omega) (by omega) ?_
      refine bw_eqi (congrArg nI (hT pp j (by omega) (by omega))) ?_
      refine bw_if_ne 169 163 dX10_solve_160 rfl rfl (fun c160 => ?_) (fun c160 => ?_)
      · have h0 : W pp j ≠ 0 := fun h => c160 (by rw [h]; rfl)
        have ho : some pp = o := by rw [← ho]; exact (if_neg h0).symm
        subst ho
        exact kk
      · have h0 : W pp j = 0 := (xn_eq0 (by omega)).mp c160
        have ho : gfr W j d (pp + 1) = o := by rw [← ho]; exact (if_pos h0).symm
        refine bw_iincN (1) 166 dX10_solve_163 rfl rfl (by decide) (by decide) ?_
        refine bw_goto 141 dX10_solve_166 rfl ?_
        refine bw_loc _ ?_ (ih (pp + 1) (by omega) ho)
        exact ⟨rfl, rfl, rfl, rfl, rfl, congrArg (fun x => some (Value.int x)) (nI_1 ( pp )), trivial⟩
/-- rows i and rk change places in the first k columns, row rk by v -/
def gxs (n q : Nat) (W : Nat → Nat → Nat) (i rk v k a b : Nat) : Nat := if b < k then (if a = rk then gm n q (W i b) v else if a = i then W rk b else W a b) else W a b
theorem gxs_0 {n q : Nat} {W : Nat → Nat → Nat} {i rk v : Nat} : gxs n q W i rk v 0 = W := by
  funext a b
  exact if_neg (by omega)
theorem gxs_at {n q : Nat} {W : Nat → Nat → Nat} {i rk v k a : Nat} : gxs n q W i rk v k a k = W a k := if_neg (Nat.lt_irrefl k)
theorem wkr.xs {T : Nat → Nat} {W : Nat → Nat → Nat} {n q r c i rk v k x y : Nat} (h : wkr T (gxs n q W i rk v k) r c) (hc : c ≤ 8) (hk : k ≤ c) (hx : x = W rk k) (hy : y = gm n q (W i k) v) : wkr (fun t => if t = 9 * rk + k then y else if t = 9 * i + k then x else T t) (gxs n q W i rk v (k + 1)) r c := by
  have h1 := h.set (W' := fun a b => if a = i ∧ b = k then x else gxs n q W i rk v k a b) (x := x) (i := i) hc hk (if_pos ⟨rfl, rfl⟩).symm (fun a b hab => if_neg hab)
  refine h1.set hc hk ?_ (fun a b hab => ?_)
  · show y = if k < k + 1 then (if rk = rk then gm n q (W i k) v else if rk = i then W rk k else W rk k) else W rk k
    rw [if_pos (Nat.lt_succ_self k), if_pos rfl, hy]
  · show (if b < k + 1 then (if a = rk then gm n q (W i b) v else if a = i then W rk b else W a b) else W a b) = if a = i ∧ b = k then x else (if b < k then (if a = rk then gm n q (W i b) v else if a = i then W rk b else W a b) else W a b)
    by_cases hb : b = k
    · subst hb
      have ha : a ≠ rk := fun h => hab ⟨h, rfl⟩
      rw [if_pos (Nat.lt_succ_self b), if_neg ha, if_neg (Nat.lt_irrefl b)]
      by_cases hi : a = i
      · rw [if_pos hi, if_pos ⟨hi, rfl⟩, hx]
      · rw [if_neg hi, if_neg (fun h => hi h.1)]
    · rw [if_neg (fun h : a = i ∧ b = k => hb h.2)]
      by_cases hl : b < k
      · rw [if_pos hl, if_pos (by omega)]
      · rw [if_neg hl, if_neg (by omega)]
set_option maxHeartbeats 4000000 in
theorem m_solve_xs (g : bw_G) {A0 : bw_H} {M n p gg rn mn pn rd rs pt sn r c i rk v j : Nat} {row rr cc C : Nat → Nat} {L : Nat → Option Nat} {W : Nat → Nat → Nat} {Q : bw_O → bw_H → Prop} (hG : GFg n p gg) (hW : ∀ a b, W a b < 2 ^ n) (hr : r ≤ 8) (hc : c ≤ 8) (hi : i < r) (hrk : rk < r) (hv : v < 2 ^ n)
    (kk : ∀ (A : bw_H) (T : Nat → Nat), wkr T (gxs n (2 ^ n ||| p) W i rk v (c + 1)) r c → bw_has A ((M, mdo M n p gg 0 rn mn pn rd rs pt sn) :: slc g M row rr cc C T L) → bw_sm (slL M) A0 A → bw_W g (bw_rm 8 0 0) mX10_solve Q 0 0 293 [(0, .ref M), (2, .int (nI r)), (3, .int (nI c)), (4, .int (nI rk)), (5, .int (nI j))] [] A) :
    ∀ (d k : Nat), k + d = c + 1 → ∀ (A : bw_H) (T : Nat → Nat), wkr T (gxs n (2 ^ n ||| p) W i rk v k) r c → bw_has A ((M, mdo M n p gg 0 rn mn pn rd rs pt sn) :: slc g M row rr cc C T L) → bw_sm (slL M) A0 A →
      bw_W g (bw_rm 8 0 0) mX10_solve Q 0 0 219 [(0, .ref M), (2, .int (nI r)), (3, .int (nI c)), (4, .int (nI rk)), (5, .int (nI j)), (6, .int (nI i)), (7, .int (nI v)), (8, .int (nI k))] [] A := by
  intro d
  induction d with
  | zero =>
    intro k hk A T hT hC hS
    have hk : k = c + 1 := by omega
    subst hk
    refine bw_iload 221 dX10_solve_219 rfl rfl ?_
    refine bw_iload_n 222 dX10_solve_221 rfl rfl ?_
    refine bw_icmp_gt 293 225 dX10_solve_222 rfl rfl (fun c222 => ?_) (fun c222 => ?_)
    · exact bw_loc [(0, .ref M), (2, .int (nI r)), (3, .int (nI c)), (4, .int (nI rk)), (5, .int (nI j))] ⟨rfl, rfl, rfl, rfl, rfl, trivial⟩ (kk A T hT hC hS)
    · exact absurd (nI_lt (by omega) (by omega)) c222
  | succ d ih =>
    intro k hk A T hT hC hS
    refine bw_iload 221 dX10_solve_219 rfl rfl ?_
    refine bw_iload_n 222 dX10_solve_221 rfl rfl ?_
    refine bw_icmp_gt 293 225 dX10_solve_222 rfl rfl (fun c222 => ?_) (fun c222 => ?_)
    · exact absurd c222 (nI_nlt (by omega) (by omega))
    · skip
      refine bw_aload_n 226 dX10_solve_225 rfl rfl ?_
      refine bw_get 229 dX10_solve_226 rfl lX10_30 (hC.at 0 rfl) rfl ?_
      refine bw_bipush (9) 231 dX10_solve_229 (by decide) rfl ?_
      refine bw_eqi (y := nI 9) rfl ?_
      refine bw_iload 233 dX10_solve_231 rfl rfl ?_
      refine bw_imul 234 dX10_solve_233 rfl ?_
      refine bw_eqi (pk_mul 9 i) ?_
      refine bw_iload 236 dX10_solve_234 rfl rfl ?_
      refine bw_iadd 237 dX10_solve_236 rfl ?_
      refine bw_eqi (nI_add (9 * i) k) ?_
      refine bw_ialdN 238 dX10_solve_237 rfl (hC.at 5 rfl) (by omega) (by omega) ?_
      refine bw_eqi (congrArg nI ((hT i k hi (by omega)).trans gxs_at)) ?_
      refine bw_istore 240 dX10_solve_238 rfl (by decide) ?_
      refine bw_aload_n 241 dX10_solve_240 rfl rfl ?_
      refine bw_get 244 dX10_solve_241 rfl lX10_30 (hC.at 0 rfl) rfl ?_
      refine bw_bipush (9) 246 dX10_solve_244 (by decide) rfl ?_
      refine bw_eqi (y := nI 9) rfl ?_
      refine bw_iload 248 dX10_solve_246 rfl rfl ?_
      refine bw_imul 249 dX10_solve_248 rfl ?_
      refine bw_eqi (pk_mul 9 i) ?_
      refine bw_iload 251 dX10_solve_249 rfl rfl ?_
      refine bw_iadd 252 dX10_solve_251 rfl ?_
      refine bw_eqi (nI_add (9 * i) k) ?_
      refine bw_aload_n 253 dX10_solve_252 rfl rfl ?_
      refine bw_get 256 dX10_solve_253 rfl lX10_30 (hC.at 0 rfl) rfl ?_
      refine bw_bipush (9) 258 dX10_solve_256 (by decide) rfl ?_
      refine bw_eqi (y := nI 9) rfl ?_
      refine bw_iload 260 dX10_solve_258 rfl rfl ?_
      refine bw_imul 261 dX10_solve_260 rfl ?_
      refine bw_eqi (pk_mul 9 rk) ?_
      refine bw_iload 263 dX10_solve_261 rfl rfl ?_
      refine bw_iadd 264 dX10_solve_263 rfl ?_
      refine bw_eqi (nI_add (9 * rk) k) ?_
      refine bw_ialdN 265 dX10_solve_264 rfl (hC.at 5 rfl) (by omega) (by omega) ?_
      refine bw_eqi (congrArg nI ((hT rk k hrk (by omega)).trans gxs_at)) ?_
      refine bw_iastN 266 dX10_solve_265 rfl (hC.at 5 rfl) (by omega) (by omega) (G := _) (rfl) (fun A hU => ?_)
      have hC := hC.upd 5 rfl hU
      have hS := hS.upd hU (by simp)
      clear hU
      refine bw_aload_n 267 dX10_solve_266 rfl rfl ?_
      refine bw_get 270 dX10_solve_267 rfl lX10_30 (hC.at 0 rfl) rfl ?_
      refine bw_bipush (9) 272 dX10_solve_270 (by decide) rfl ?_
      refine bw_eqi (y := nI 9) rfl ?_
      refine bw_iload 274 dX10_solve_272 rfl rfl ?_
      refine bw_imul 275 dX10_solve_274 rfl ?_
      refine bw_eqi (pk_mul 9 rk) ?_
      refine bw_iload 277 dX10_solve_275 rfl rfl ?_
      refine bw_iadd 278 dX10_solve_277 rfl ?_
      refine bw_eqi (nI_add (9 * rk) k) ?_
      refine bw_aload_n 279 dX10_solve_278 rfl rfl ?_
      refine bw_iload 281 dX10_solve_279 rfl rfl ?_
      refine bw_iload 283 dX10_solve_281 rfl rfl ?_
      refine bw_cVi 286 dX10_solve_283 rfl vX10_102 (m_mul g hG (hC.sub [0] (by decide) rfl) (hW i k) hv) (hC.at 0 rfl) rfl rfl (Nat.le_of_ble_eq_true rfl) ⟨(Nat.le_of_ble_eq_true rfl), (Nat.le_of_ble_eq_true rfl)⟩ (Nat.le_of_ble_eq_true rfl) (Nat.le_of_ble_eq_true rfl) ?_
      refine bw_iastN 287 dX10_solve_286 rfl (hC.at 5 rfl) (by omega) (by omega) (G := _) (rfl) (fun A hU => ?_)
      have hC := hC.upd 5 rfl hU
      have hS := hS.upd hU (by simp)
      clear hU
      refine bw_iincN (1) 290 dX10_solve_287 rfl rfl (by decide) (by decide) ?_
      refine bw_goto 219 dX10_solve_290 rfl ?_
      refine bw_loc _ ?_ (ih (k + 1) (by omega) A _ (hT.xs hc (by omega) rfl rfl) hC hS)
      exact ⟨rfl, rfl, rfl, rfl, rfl, rfl, rfl, congrArg (fun x => some (Value.int x)) (nI_1 ( k )), trivial⟩
/-- row i has lost its multiple in the first k columns -/
def gfk (n q : Nat) (V : Nat → Nat → Nat) (P : Nat → Nat) (rk j wd i k a : Nat) : Nat → Nat := if a = i then gam n q (V i) P 0 0 (V i j) k else gfe n q V P rk j wd i a
theorem gfk_0 {n q : Nat} {V : Nat → Nat → Nat} {P : Nat → Nat} {rk j wd i : Nat} (hi : i ≠ rk) : gfk n q V P rk j wd i 0 = gfe n q V P rk j wd i := by
  funext a
  unfold gfk
  by_cases ha : a = i
  · rw [if_pos ha, gam_0, ha, gfe_at hi]
  · rw [if_neg ha]
theorem gfk_wd {n q : Nat} {V : Nat → Nat → Nat} {P : Nat → Nat} {rk j wd i : Nat} (hi : i ≠ rk) : gfk n q V P rk j wd i wd = gfe n q V P rk j wd (i + 1) := by
  funext a
  exact gfe_s (q := q) (P := P) (col := j) (wd := wd) hi a
theorem gfk_at {n q : Nat} {V : Nat → Nat → Nat} {P : Nat → Nat} {rk j wd i k : Nat} : gfk n q V P rk j wd i k i k = V i k := by
  unfold gfk
  rw [if_pos rfl, gam_at']
theorem gfk_pv {n q : Nat} {V : Nat → Nat → Nat} {P : Nat → Nat} {rk j wd i k : Nat} (hi : i ≠ rk) : gfk n q V P rk j wd i k rk = P := by
  unfold gfk
  rw [if_neg (Ne.symm hi), gfe_pv]
theorem wkr.fk {T : Nat → Nat} {V : Nat → Nat → Nat} {P : Nat → Nat} {n q r c rk j wd i k x : Nat} (h : wkr T (gfk n q V P rk j wd i k) r c) (hc : c ≤ 8) (hk : k ≤ c) (hx : x = V i k ^^^ gm n q (V i j) (P k)) : wkr (fun t => if t = 9 * i + k then x else T t) (gfk n q V P rk j wd i (k + 1)) r c := by
  refine h.set hc hk ?_ (fun a b hab => ?_)
  · unfold gfk
    rw [if_pos rfl, ← gam_s', hx]
    exact (if_pos rfl).symm
  · unfold gfk
    by_cases ha : a = i
    · rw [if_pos ha, if_pos ha, ← gam_s']
      exact if_neg (fun h => hab ⟨ha, h⟩)
    · rw [if_neg ha, if_neg ha]
set_option maxHeartbeats 4000000 in
theorem m_solve_fk (g : bw_G) {A0 : bw_H} {M n p gg rn mn pn rd rs pt sn r c i rk j : Nat} {row rr cc C P : Nat → Nat} {L : Nat → Option Nat} {V : Nat → Nat → Nat} {Q : bw_O → bw_H → Prop} (hG : GFg n p gg) (hV : ∀ a b, V a b < 2 ^ n) (hP : ∀ b, P b < 2 ^ n) (hr : r ≤ 8) (hc : c ≤ 8) (hi : i < r) (hrk : rk < r) (hik : i ≠ rk)
    (kk : ∀ (A : bw_H) (T : Nat → Nat), wkr T (gfk n (2 ^ n ||| p) V P rk j (c + 1) i (c + 1)) r c → bw_has A ((M, mdo M n p gg 0 rn mn pn rd rs pt sn) :: slc g M row rr cc C T L) → bw_sm (slL M) A0 A → bw_W g (bw_rm 8 0 0) mX10_solve Q 0 0 374 [(0, .ref M), (2, .int (nI r)), (3, .int (nI c)), (4, .int (nI rk)), (5, .int (nI j)), (8, .int (nI i))] [] A) :
    ∀ (d k : Nat), k + d = c + 1 → ∀ (A : bw_H) (T : Nat → Nat), wkr T (gfk n (2 ^ n ||| p) V P rk j (c + 1) i k) r c → bw_has A ((M, mdo M n p gg 0 rn mn pn rd rs pt sn) :: slc g M row rr cc C T L) → bw_sm (slL M) A0 A →
      bw_W g (bw_rm 8 0 0) mX10_solve Q 0 0 320 [(0, .ref M), (2, .int (nI r)), (3, .int (nI c)), (4, .int (nI rk)), (5, .int (nI j)), (8, .int (nI i)), (9, .int (nI (V i j))), (10, .int (nI k))] [] A := by
  intro d
  induction d with
  | zero =>
    intro k hk A T hT hC hS
    have hk : k = c + 1 := by omega
    subst hk
    refine bw_iload 322 dX10_solve_320 rfl rfl ?_
    refine bw_iload_n 323 dX10_solve_322 rfl rfl ?_
    refine bw_icmp_gt 374 326 dX10_solve_323 rfl rfl (fun c323 => ?_) (fun c323 => ?_)
    · exact bw_loc [(0, .ref M), (2, .int (nI r)), (3, .int (nI c)), (4, .int (nI rk)), (5, .int (nI j)), (8, .int (nI i))] ⟨rfl, rfl, rfl, rfl, rfl, rfl, trivial⟩ (kk A T hT hC hS)
    · exact absurd (nI_lt (by omega) (by omega)) c323
  | succ d ih =>
    intro k hk A T hT hC hS
    refine bw_iload 322 dX10_solve_320 rfl rfl ?_
    refine bw_iload_n 323 dX10_solve_322 rfl rfl ?_
    refine bw_icmp_gt 374 326 dX10_solve_323 rfl rfl (fun c323 => ?_) (fun c323 => ?_)
    · exact absurd c323 (nI_nlt (by omega) (by omega))
    · skip
      refine bw_iload 328 dX10_solve_326 rfl rfl ?_
      refine bw_iload 330 dX10_solve_328 rfl rfl ?_
      refine bw_icmp_eq 374 333 dX10_solve_330 rfl rfl (fun c330 => ?_) (fun c330 => ?_)
      · exact absurd ((nI_eq (by omega) (by omega)).mp c330) hik
      · skip
        refine bw_aload_n 334 dX10_solve_333 rfl rfl ?_
        refine bw_get 337 dX10_solve_334 rfl lX10_30 (hC.at 0 rfl) rfl ?_
        refine bw_bipush (9) 339 dX10_solve_337 (by decide) rfl ?_
        refine bw_eqi (y := nI 9) rfl ?_
        refine bw_iload 341 dX10_solve_339 rfl rfl ?_
        refine bw_imul 342 dX10_solve_341 rfl ?_
        refine bw_eqi (pk_mul 9 i) ?_
        refine bw_iload 344 dX10_solve_342 rfl rfl ?_
        refine bw_iadd 345 dX10_solve_344 rfl ?_
        refine bw_eqi (nI_add (9 * i) k) ?_
        refine bw_dup2 346 dX10_solve_345 rfl rfl rfl ?_
        refine bw_ialdN 347 dX10_solve_346 rfl (hC.at 5 rfl) (by omega) (by omega) ?_
        refine bw_eqi (congrArg nI ((hT i k hi (by omega)).trans gfk_at)) ?_
        refine bw_aload_n 348 dX10_solve_347 rfl rfl ?_
        refine bw_iload 350 dX10_solve_348 rfl rfl ?_
        refine bw_aload_n 351 dX10_solve_350 rfl rfl ?_
        refine bw_get 354 dX10_solve_351 rfl lX10_30 (hC.at 0 rfl) rfl ?_
        refine bw_bipush (9) 356 dX10_solve_354 (by decide) rfl ?_
        refine bw_eqi (y := nI 9) rfl ?_
        refine bw_iload 358 dX10_solve_356 rfl rfl ?_
        refine bw_imul 359 dX10_solve_358 rfl ?_
        refine bw_eqi (pk_mul 9 rk) ?_
        refine bw_iload 361 dX10_solve_359 rfl rfl ?_
        refine bw_iadd 362 dX10_solve_361 rfl ?_
        refine bw_eqi (nI_add (9 * rk) k) ?_
        refine bw_ialdN 363 dX10_solve_362 rfl (hC.at 5 rfl) (by omega) (by omega) ?_
        refine bw_eqi (congrArg nI ((hT rk k hrk (by omega)).trans (by rw [gfk_pv hik]))) ?_
        refine bw_cVi 366 dX10_solve_363 rfl vX10_102 (m_mul g hG (hC.sub [0] (by decide) rfl) (hV i j) (hP k)) (hC.at 0 rfl) rfl rfl (Nat.le_of_ble_eq_true rfl) ⟨(Nat.le_of_ble_eq_true rfl), (Nat.le_of_ble_eq_true rfl)⟩ (Nat.le_of_ble_eq_true rfl) (Nat.le_of_ble_eq_true rfl) ?_
        refine bw_ixor 367 dX10_solve_366 rfl ?_
        refine bw_eqi (xn_xor _ _) ?_
        refine bw_iastN 368 dX10_solve_367 rfl (hC.at 5 rfl) (by omega) (by omega) (G := _) (rfl) (fun A hU => ?_)
        have hC := hC.upd 5 rfl hU
        have hS := hS.upd hU (by simp)
        clear hU
        refine bw_iincN (1) 371 dX10_solve_368 rfl rfl (by decide) (by decide) ?_
        refine bw_goto 320 dX10_solve_371 rfl ?_
        refine bw_loc _ ?_ (ih (k + 1) (by omega) A _ (hT.fk hc (by omega) rfl) hC hS)
        exact ⟨rfl, rfl, rfl, rfl, rfl, rfl, rfl, congrArg (fun x => some (Value.int x)) (nI_1 ( k )), trivial⟩
set_option maxHeartbeats 4000000 in
theorem m_solve_fr (g : bw_G) {A0 : bw_H} {M n p gg rn mn pn rd rs pt sn r c rk j : Nat} {row rr cc C P : Nat → Nat} {L : Nat → Option Nat} {V : Nat → Nat → Nat} {Q : bw_O → bw_H → Prop} (hG : GFg n p gg) (hV : ∀ a b, V a b < 2 ^ n) (hP : ∀ b, P b < 2 ^ n) (hr : r ≤ 8) (hc : c ≤ 8) (hrk : rk < r) (hj : j < c)
    (kk : ∀ (A : bw_H) (T : Nat → Nat), wkr T (gfe n (2 ^ n ||| p) V P rk j (c + 1) r) r c → bw_has A ((M, mdo M n p gg 0 rn mn pn rd rs pt sn) :: slc g M row rr cc C T L) → bw_sm (slL M) A0 A → bw_W g (bw_rm 8 0 0) mX10_solve Q 0 0 380 [(0, .ref M), (2, .int (nI r)), (3, .int (nI c)), (4, .int (nI rk)), (5, .int (nI j))] [] A) :
    ∀ (d i : Nat), i + d = r → ∀ (A : bw_H) (T : Nat → Nat), wkr T (gfe n (2 ^ n ||| p) V P rk j (c + 1) i) r c → bw_has A ((M, mdo M n p gg 0 rn mn pn rd rs pt sn) :: slc g M row rr cc C T L) → bw_sm (slL M) A0 A →
      bw_W g (bw_rm 8 0 0) mX10_solve Q 0 0 296 [(0, .ref M), (2, .int (nI r)), (3, .int (nI c)), (4, .int (nI rk)), (5, .int (nI j)), (8, .int (nI i))] [] A := by
  intro d
  induction d with
  | zero =>
    intro i hi A T hT hC hS
    have hi : r = i := by omega
    subst hi
    refine bw_iload 298 dX10_solve_296 rfl rfl ?_
    refine bw_iload_n 299 dX10_solve_298 rfl rfl ?_
    refine bw_icmp_ge 380 302 dX10_solve_299 rfl rfl (fun c299 => ?_) (fun c299 => ?_)
    · exact bw_loc [(0, .ref M), (2, .int (nI r)), (3, .int (nI c)), (4, .int (nI rk)), (5, .int (nI j))] ⟨rfl, rfl, rfl, rfl, rfl, trivial⟩ (kk A T hT hC hS)
    · exact absurd (Int32.le_refl _) c299
  | succ d ih =>
    intro i hi A T hT hC hS
    by_cases hik : i = rk
    · subst hik
      refine bw_iload 298 dX10_solve_296 rfl rfl ?_
      refine bw_iload_n 299 dX10_solve_298 rfl rfl ?_
      refine bw_icmp_ge 380 302 dX10_solve_299 rfl rfl (fun c299 => ?_) (fun c299 => ?_)
      · exact absurd c299 (nI_ge (by omega) (by omega))
      · skip
        refine bw_aload_n 303 dX10_solve_302 rfl rfl ?_
        refine bw_get 306 dX10_solve_303 rfl lX10_30 (hC.at 0 rfl) rfl ?_
        refine bw_bipush (9) 308 dX10_solve_306 (by decide) rfl ?_
        refine bw_eqi (y := nI 9) rfl ?_
        refine bw_iload 310 dX10_solve_308 rfl rfl ?_
        refine bw_imul 311 dX10_solve_310 rfl ?_
        refine bw_eqi (pk_mul 9 i) ?_
        refine bw_iload 313 dX10_solve_311 rfl rfl ?_
        refine bw_iadd 314 dX10_solve_313 rfl ?_
        refine bw_eqi (nI_add (9 * i) j) ?_
        refine bw_ialdN 315 dX10_solve_314 rfl (hC.at 5 rfl) (by omega) (by omega) ?_
        refine bw_istore 317 dX10_solve_315 rfl (by decide) ?_
        refine bw_iconst (0) 318 dX10_solve_317 (by decide) rfl ?_
        refine bw_eqi (y := nI 0) rfl ?_
        refine bw_istore 320 dX10_solve_318 rfl (by decide) ?_
        refine bw_iload 322 dX10_solve_320 rfl rfl ?_
        refine bw_iload_n 323 dX10_solve_322 rfl rfl ?_
        refine bw_icmp_gt 374 326 dX10_solve_323 rfl rfl (fun c323 => ?_) (fun c323 => ?_)
        · exact absurd c323 (nI_nlt (by omega) (by omega))
        · refine bw_iload 328 dX10_solve_326 rfl rfl ?_
          refine bw_iload 330 dX10_solve_328 rfl rfl ?_
          refine bw_icmp_eq 374 333 dX10_solve_330 rfl rfl (fun c330 => ?_) (fun c330 => ?_)
          · refine bw_iincN (1) 377 dX10_solve_374 rfl rfl (by decide) (by decide) ?_
            refine bw_goto 296 dX10_solve_377 rfl ?_
            refine bw_loc _ ?_ (ih (i + 1) (by omega) A T (by rw [← gfe_rk]; exact hT) hC hS)
            exact ⟨rfl, rfl, rfl, rfl, rfl, congrArg (fun x => some (Value.int x)) (nI_1 ( i )), trivial⟩
          · exact absurd rfl c330
    · skip
      refine bw_iload 298 dX10_solve_296 rfl rfl ?_
      refine bw_iload_n 299 dX10_solve_298 rfl rfl ?_
      refine bw_icmp_ge 380 302 dX10_solve_299 rfl rfl (fun c299 => ?_) (fun c299 => ?_)
      · exact absurd c299 (nI_ge (by omega) (by omega))
      · skip
        refine bw_aload_n 303 dX10_solve_302 rfl rfl ?_
        refine bw_get 306 dX10_solve_303 rfl lX10_30 (hC.at 0 rfl) rfl ?_
        refine bw_bipush (9) 308 dX10_solve_306 (by decide) rfl ?_
        refine bw_eqi (y := nI 9) rfl ?_
        refine bw_iload 310 dX10_solve_308 rfl rfl ?_
        refine bw_imul 311 dX10_solve_310 rfl ?_
        refine bw_eqi (pk_mul 9 i) ?_
        refine bw_iload 313 dX10_solve_311 rfl rfl ?_
        refine bw_iadd 314 dX10_solve_313 rfl ?_
        refine bw_eqi (nI_add (9 * i) j) ?_
        refine bw_ialdN 315 dX10_solve_314 rfl (hC.at 5 rfl) (by omega) (by omega) ?_
        refine bw_eqi (congrArg nI ((hT i j (by omega) (by omega)).trans (by rw [gfe_at hik]))) ?_
        refine bw_istore 317 dX10_solve_315 rfl (by decide) ?_
        refine bw_iconst (0) 318 dX10_solve_317 (by decide) rfl ?_
        refine bw_eqi (y := nI 0) rfl ?_
        refine bw_istore 320 dX10_solve_318 rfl (by decide) ?_
        refine bw_loc _ ?_ (m_solve_fk g hG hV hP hr hc (show i < r by omega) hrk hik (fun A T hT hC hS => ?_) (c + 1) 0 (by omega) A T (by rw [gfk_0 hik]; exact hT) hC hS)
        · exact ⟨rfl, rfl, rfl, rfl, rfl, rfl, rfl, rfl, trivial⟩
        refine bw_iincN (1) 377 dX10_solve_374 rfl rfl (by decide) (by decide) ?_
        refine bw_goto 296 dX10_solve_377 rfl ?_
        refine bw_loc _ ?_ (ih (i + 1) (by omega) A T (by rw [← gfk_wd hik]; exact hT) hC hS)
        exact ⟨rfl, rfl, rfl, rfl, rfl, congrArg (fun x => some (Value.int x)) (nI_1 ( i )), trivial⟩
