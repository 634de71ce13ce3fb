/-! the reference: span -/
theorem gxo_add {row : Nat → Nat} (j : Nat) : ∀ (k m : Nat), k ≤ m → gxo row (2 ^ m + j) k = gxo row j k
  | 0, _, _ => rfl
  | k + 1, m, h => by
    show (if (2 ^ m + j) / 2 ^ k % 2 = 0 then gxo row (2 ^ m + j) k else gxo row (2 ^ m + j) k ^^^ row k) = (if j / 2 ^ k % 2 = 0 then gxo row j k else gxo row j k ^^^ row k)
    rw [gxo_add j k m (by omega)]
    have e : (2 ^ m + j) / 2 ^ k % 2 = j / 2 ^ k % 2 := by
      obtain ⟨d, hd⟩ : ∃ d, m = k + 1 + d := ⟨m - (k + 1), by omega⟩
      rw [hd, Nat.pow_add, Nat.pow_succ, show 2 ^ k * 2 * 2 ^ d = 2 ^ k * (2 * 2 ^ d) by rw [Nat.mul_assoc], Nat.mul_add_div (Nat.two_pow_pos k), Nat.mul_add_mod]
    rw [e]
theorem gxo_z {row : Nat → Nat} : ∀ k, gxo row 0 k = 0
  | 0 => rfl
  | k + 1 => by
    show (if 0 / 2 ^ k % 2 = 0 then gxo row 0 k else _) = 0
    rw [Nat.zero_div, if_pos rfl, gxo_z k]
/-- the first i of the second half -/
def gsd (T : Nat → Nat) (m v i j : Nat) : Nat := if m ≤ j ∧ j < m + i then T (j - m) ^^^ v else T j
theorem gsd_0 {T : Nat → Nat} {m v : Nat} : gsd T m v 0 = T := funext (fun j => if_neg (by omega))
theorem gsd_at {T : Nat → Nat} {m v i : Nat} (h : i < m) : gsd T m v i i = T i := if_neg (by omega)
theorem gsd_s {T : Nat → Nat} {m v i : Nat} : (fun j => if j = m + i then T i ^^^ v else gsd T m v i j) = gsd T m v (i + 1) := by
  funext j
  unfold gsd
  by_cases h : j = m + i
  · rw [if_pos h, if_pos (by omega), h, show m + i - m = i by omega]
  · rw [if_neg h]
    by_cases h2 : m ≤ j ∧ j < m + i
    · rw [if_pos h2, if_pos (by omega)]
    · rw [if_neg h2, if_neg (by omega)]
/-- the sums of the first k -/
def tkk (row T : Nat → Nat) (k : Nat) : Prop := ∀ j, j < 2 ^ k → T j = gxo row j k
theorem tkk_s {row T : Nat → Nat} {k : Nat} (h : tkk row T k) : tkk row (gsd T (2 ^ k) (row k) (2 ^ k)) (k + 1) := by
  intro j hj
  rw [Nat.pow_succ] at hj
  unfold gsd
  show _ = (if j / 2 ^ k % 2 = 0 then gxo row j k else gxo row j k ^^^ row k)
  by_cases h1 : j < 2 ^ k
  · rw [if_neg (by omega), Nat.div_eq_of_lt h1, if_pos rfl]
    exact h j h1
  · have e : j = 2 ^ k + (j - 2 ^ k) := by omega
    have e2 : j / 2 ^ k = 1 := by
      rw [e]
      have := Nat.add_div_left (j - 2 ^ k) (Nat.two_pow_pos k)
      rw [this, Nat.div_eq_of_lt (by omega)]
    rw [if_pos (by omega), e2, if_neg (by decide), h (j - 2 ^ k) (by omega)]
    have := gxo_add (row := row) (j - 2 ^ k) k k (Nat.le_refl k)
    rw [← e] at this
    rw [this]
theorem gsd_z {T : Nat → Nat} {m v i : Nat} (hT : zz T) (h : m + i ≤ 200) : zz (gsd T m v i) := fun j hj => by
  unfold gsd
  rw [if_neg (by omega)]
  exact hT j hj
/-- right so far -/
def zok (P : Prop) (z : Nat) : Prop := z = 1 ∧ P ∨ z = 0 ∧ ¬ P
noncomputable abbrev spc (g : bw_G) (M : Nat) (row T S : Nat → Nat) : List (Nat × va_E) := [(M + 1, bw_an g 130 row), (M + 13, bw_an g 200 T), (M + 18, bw_an g 64 S)]
set_option maxHeartbeats 4000000 in
theorem m_span_chk (g : bw_G) {A : bw_H} {M n p gg rn mn pn rd rs pt sn k : Nat} {row T S : Nat → Nat} {Q : bw_O → bw_H → Prop} (hC : bw_has A ((M, mdo M n p gg 0 rn mn pn rd rs pt sn) :: spc g M row T S)) (hk0 : 0 < k) (hk : k < 6) (hT : tkk row T k) (h31 : ∀ i, row i < 2 ^ 31)
    (kk : ∀ z, zok (∀ c, c < 2 ^ k → gxo row c k ≠ row k) z → bw_W g (bw_rm 8 0 0) mX10_span Q 0 0 79 [(0, .ref M), (1, .int (nI (2 ^ k))), (2, .int (nI z)), (3, .int (nI k))] [] A) (hTl : ∀ j, j < 2 ^ k → T j < 2 ^ 31) :
    ∀ (d i : Nat), i + d = 2 ^ k → ∀ z, zok (∀ c, c < i → gxo row c k ≠ row k) z →
      bw_W g (bw_rm 8 0 0) mX10_span Q 0 0 39 [(0, .ref M), (1, .int (nI (2 ^ k))), (2, .int (nI z)), (3, .int (nI k)), (4, .int (nI i))] [] A := by
  have h2k : 2 ^ k ≤ 2 ^ 5 := Nat.pow_le_pow_right (by omega) (by omega)
  intro d
  induction d with
  | zero =>
    intro i hi z hz
    have hi : i = 2 ^ k := by omega
    rw [hi] at hz ⊢
    refine bw_iload 41 dX10_span_39 rfl rfl ?_
    refine bw_iload_n 42 dX10_span_41 rfl rfl ?_
    refine bw_icmp_ge 79 45 dX10_span_42 rfl rfl (fun c42 => ?_) (fun c42 => ?_)
    · exact bw_loc [(0, .ref M), (1, .int (nI (2 ^ k))), (2, .int (nI z)), (3, .int (nI k))] ⟨rfl, rfl, rfl, rfl, trivial⟩ (kk z hz)
    · exact absurd (Int32.le_refl _) c42
  | succ d ih =>
    intro i hi z hz
    have hz1 : z ≤ 1 := by rcases hz with h | h <;> omega
    refine bw_iload 41 dX10_span_39 rfl rfl ?_
    refine bw_iload_n 42 dX10_span_41 rfl rfl ?_
    refine bw_icmp_ge 79 45 dX10_span_42 rfl rfl (fun c42 => ?_) (fun c42 => ?_)
    · exact absurd c42 (nI_ge (by omega) (by omega))
    · skip
      refine bw_iload_n 46 dX10_span_45 rfl rfl ?_
      refine bw_if_le 79 49 dX10_span_46 rfl rfl (fun c46 => ?_) (fun c46 => ?_)
      · exact absurd ((xn_le0 (by omega)).mp c46) (by omega)
      · skip
        refine bw_iload_n 50 dX10_span_49 rfl rfl ?_
        refine bw_aload_n 51 dX10_span_50 rfl rfl ?_
        refine bw_get 54 dX10_span_51 rfl lX10_51 (hC.at 0 rfl) rfl ?_
        refine bw_iload 56 dX10_span_54 rfl rfl ?_
        refine bw_ialdN 57 dX10_span_56 rfl (hC.at 2 rfl) (by omega) (by omega) ?_
        refine bw_aload_n 58 dX10_span_57 rfl rfl ?_
        refine bw_get 61 dX10_span_58 rfl lX10_13 (hC.at 0 rfl) rfl ?_
        refine bw_iload_n 62 dX10_span_61 rfl rfl ?_
        refine bw_ialdN 63 dX10_span_62 rfl (hC.at 1 rfl) (by omega) (by omega) ?_
        refine bw_icmp_eq 70 66 dX10_span_63 rfl rfl (fun c63 => ?_) (fun c63 => ?_)
        · have he : T i = row k := (nI_eq (hTl i (by omega)) (h31 k)).mp c63
          have hz' : zok (∀ c, c < i + 1 → gxo row c k ≠ row k) 0 := Or.inr ⟨rfl, fun h => h i (by omega) (by rw [← hT i (by omega)]; exact he)⟩
          refine bw_iconst (0) 71 dX10_span_70 (by decide) rfl ?_
          refine bw_eqi (y := nI 0) rfl ?_
          refine bw_iand 72 dX10_span_71 rfl ?_
          refine bw_eqi (xn_and _ _) ?_
          refine bw_istore_n 73 dX10_span_72 rfl (by decide) ?_
          refine bw_iincN (1) 76 dX10_span_73 rfl rfl (by decide) (by decide) ?_
          refine bw_goto 39 dX10_span_76 rfl ?_
          first
            | refine bw_loc _ ?_ (ih (i + 1) (by omega) 0 hz')
              exact ⟨rfl, rfl, congrArg (fun x => some (Value.int (nI x))) (Nat.and_zero z), rfl, congrArg (fun x => some (Value.int x)) (nI_1 ( i )), trivial⟩
            | refine bw_loc _ ?_ (ih (i + 1) (by omega) z hz')
              exact ⟨rfl, rfl, congrArg (fun x => some (Value.int (nI x))) (show z &&& 1 = z by rcases (show z = 0 ∨ z = 1 by omega) with h | h <;> rw [h] <;> rfl), rfl, congrArg (fun x => some (Value.int x)) (nI_1 ( i )), trivial⟩
        · have hne : T i ≠ row k := fun h => c63 (by rw [h])
          have hz' : zok (∀ c, c < i + 1 → gxo row c k ≠ row k) z := by
            rcases hz with h | h
            · exact Or.inl ⟨h.1, fun c hc => by rcases Nat.lt_or_ge c i with h1 | h1; exact h.2 c h1; rw [show c = i by omega, ← hT i (by omega)]; exact hne⟩
            · exact Or.inr ⟨h.1, fun h1 => h.2 (fun c hc => h1 c (by omega))⟩
          refine bw_iconst (1) 67 dX10_span_66 (by decide) rfl ?_
          refine bw_eqi (y := nI 1) rfl ?_
          refine bw_goto 71 dX10_span_67 rfl ?_
          refine bw_iand 72 dX10_span_71 rfl ?_
          refine bw_eqi (xn_and _ _) ?_
          refine bw_istore_n 73 dX10_span_72 rfl (by decide) ?_
          refine bw_iincN (1) 76 dX10_span_73 rfl rfl (by decide) (by decide) ?_
          refine bw_goto 39 dX10_span_76 rfl ?_
          first
            | refine bw_loc _ ?_ (ih (i + 1) (by omega) 0 hz')
              exact ⟨rfl, rfl, congrArg (fun x => some (Value.int (nI x))) (Nat.and_zero z), rfl, congrArg (fun x => some (Value.int x)) (nI_1 ( i )), trivial⟩
            | refine bw_loc _ ?_ (ih (i + 1) (by omega) z hz')
              exact ⟨rfl, rfl, congrArg (fun x => some (Value.int (nI x))) (show z &&& 1 = z by rcases (show z = 0 ∨ z = 1 by omega) with h | h <;> rw [h] <;> rfl), rfl, congrArg (fun x => some (Value.int x)) (nI_1 ( i )), trivial⟩
set_option maxHeartbeats 4000000 in
theorem m_span_dbl (g : bw_G) {A0 : bw_H} {M n p gg rn mn pn rd rs pt sn k z : Nat} {row T S : Nat → Nat} {Q : bw_O → bw_H → Prop} (hk : k < 6)
    (kk : ∀ A : bw_H, bw_has A ((M, mdo M n p gg 0 rn mn pn rd rs pt sn) :: spc g M row (gsd T (2 ^ k) (row k) (2 ^ k)) S) → bw_sm [M, M + 13, M + 18] A0 A → bw_W g (bw_rm 8 0 0) mX10_span Q 0 0 145 [(0, .ref M), (1, .int (nI (2 ^ k))), (2, .int (nI z)), (3, .int (nI k))] [] A) :
    ∀ (d i : Nat), i + d = 2 ^ k → ∀ A : bw_H, bw_has A ((M, mdo M n p gg 0 rn mn pn rd rs pt sn) :: spc g M row (gsd T (2 ^ k) (row k) i) S) → bw_sm [M, M + 13, M + 18] A0 A →
      bw_W g (bw_rm 8 0 0) mX10_span Q 0 0 110 [(0, .ref M), (1, .int (nI (2 ^ k))), (2, .int (nI z)), (3, .int (nI k)), (4, .int (nI i))] [] A := by
  have h2k : 2 ^ k ≤ 2 ^ 5 := Nat.pow_le_pow_right (by omega) (by omega)
  intro d
  induction d with
  | zero =>
    intro i hi A hC hS
    have hi : i = 2 ^ k := by omega
    rw [hi] at hC ⊢
    refine bw_iload 112 dX10_span_110 rfl rfl ?_
    refine bw_iload_n 113 dX10_span_112 rfl rfl ?_
    refine bw_icmp_ge 145 116 dX10_span_113 rfl rfl (fun c113 => ?_) (fun c113 => ?_)
    · exact bw_loc [(0, .ref M), (1, .int (nI (2 ^ k))), (2, .int (nI z)), (3, .int (nI k))] ⟨rfl, rfl, rfl, rfl, trivial⟩ (kk A hC hS)
    · exact absurd (Int32.le_refl _) c113
  | succ d ih =>
    intro i hi A hC hS
    refine bw_iload 112 dX10_span_110 rfl rfl ?_
    refine bw_iload_n 113 dX10_span_112 rfl rfl ?_
    refine bw_icmp_ge 145 116 dX10_span_113 rfl rfl (fun c113 => ?_) (fun c113 => ?_)
    · exact absurd c113 (nI_ge (by omega) (by omega))
    · skip
      refine bw_aload_n 117 dX10_span_116 rfl rfl ?_
      refine bw_get 120 dX10_span_117 rfl lX10_51 (hC.at 0 rfl) rfl ?_
      refine bw_iload_n 121 dX10_span_120 rfl rfl ?_
      refine bw_iload 123 dX10_span_121 rfl rfl ?_
      refine bw_iadd 124 dX10_span_123 rfl ?_
      refine bw_eqi (nI_add (2 ^ k) i) ?_
      refine bw_aload_n 125 dX10_span_124 rfl rfl ?_
      refine bw_get 128 dX10_span_125 rfl lX10_51 (hC.at 0 rfl) rfl ?_
      refine bw_iload 130 dX10_span_128 rfl rfl ?_
      refine bw_ialdN 131 dX10_span_130 rfl (hC.at 2 rfl) (by omega) (by omega) ?_
      refine bw_eqi (congrArg nI (gsd_at (show i < 2 ^ k by omega))) ?_
      refine bw_aload_n 132 dX10_span_131 rfl rfl ?_
      refine bw_get 135 dX10_span_132 rfl lX10_13 (hC.at 0 rfl) rfl ?_
      refine bw_iload_n 136 dX10_span_135 rfl rfl ?_
      refine bw_ialdN 137 dX10_span_136 rfl (hC.at 1 rfl) (by omega) (by omega) ?_
      refine bw_ixor 138 dX10_span_137 rfl ?_
      refine bw_eqi (xn_xor _ _) ?_
      refine bw_iastN 139 dX10_span_138 rfl (hC.at 2 rfl) (by omega) (by omega) (G := gsd T (2 ^ k) (row k) (i + 1)) (gsd_s) (fun A hU => ?_)
      have hC := hC.upd 2 rfl hU
      have hS := hS.upd hU (by simp)
      clear hU
      refine bw_iincN (1) 142 dX10_span_139 rfl rfl (by decide) (by decide) ?_
      refine bw_goto 110 dX10_span_142 rfl ?_
      refine bw_loc _ ?_ (ih (i + 1) (by omega) A hC hS)
      exact ⟨rfl, rfl, rfl, rfl, congrArg (fun x => some (Value.int x)) (nI_1 ( i )), trivial⟩
set_option maxHeartbeats 4000000 in
theorem m_span_79 (g : bw_G) {A A0 : bw_H} {M n p gg rn mn pn rd rs pt sn k z : Nat} {row T S : Nat → Nat} {Q : bw_O → bw_H → Prop} (hC : bw_has A ((M, mdo M n p gg 0 rn mn pn rd rs pt sn) :: spc g M row T S)) (hS : bw_sm [M, M + 13, M + 18] A0 A) (hk : k < 6) (h31 : ∀ i, row i < 2 ^ 31) (hz1 : z ≤ 1) (hyes : row k ≠ 0 → zok (∀ c, c < 2 ^ k → gxo row c k ≠ row k) z) (hT : 0 < k → tkk row T k) (hTz : zz T)
    (kk : ∀ (A : bw_H) (T' : Nat → Nat) (z' : Nat), bw_has A ((M, mdo M n p gg 0 rn mn pn rd rs pt sn) :: spc g M row T' S) → bw_sm [M, M + 13, M + 18] A0 A → zok (∀ c, c < 2 ^ k → gxo row c k ≠ row k) z' → tkk row T' (k + 1) → zz T' → bw_W g (bw_rm 8 0 0) mX10_span Q 0 0 24 [(0, .ref M), (1, .int (nI (2 ^ (k + 1)))), (2, .int (nI z')), (3, .int (nI (k + 1)))] [] A) :
      bw_W g (bw_rm 8 0 0) mX10_span Q 0 0 79 [(0, .ref M), (1, .int (nI (2 ^ k))), (2, .int (nI z)), (3, .int (nI k))] [] A := by
  have h2k : 2 ^ k ≤ 2 ^ 5 := Nat.pow_le_pow_right (by omega) (by omega)
  have fin : ∀ (z' : Nat) (T : Nat → Nat), zok (∀ c, c < 2 ^ k → gxo row c k ≠ row k) z' → tkk row T k → zz T → ∀ A : bw_H, bw_has A ((M, mdo M n p gg 0 rn mn pn rd rs pt sn) :: spc g M row (gsd T (2 ^ k) (row k) (2 ^ k)) S) → bw_sm [M, M + 13, M + 18] A0 A → bw_W g (bw_rm 8 0 0) mX10_span Q 0 0 145 [(0, .ref M), (1, .int (nI (2 ^ k))), (2, .int (nI z')), (3, .int (nI k))] [] A := by
    intro z' T hz' hT hTz A hC hS
    refine bw_iload_n 146 dX10_span_145 rfl rfl ?_
    refine bw_iconst (2) 147 dX10_span_146 (by decide) rfl ?_
    refine bw_eqi (y := nI 2) rfl ?_
    refine bw_imul 148 dX10_span_147 rfl ?_
    refine bw_eqi (pk_mul (2 ^ k) 2) ?_
    refine bw_istore_n 149 dX10_span_148 rfl (by decide) ?_
    refine bw_iincN (1) 152 dX10_span_149 rfl rfl (by decide) (by decide) ?_
    refine bw_goto 24 dX10_span_152 rfl ?_
    refine bw_loc _ ?_ (kk A _ z' hC hS hz' (tkk_s hT) (gsd_z hTz (by omega)))
    exact ⟨rfl, rfl, rfl, congrArg (fun x => some (Value.int x)) (nI_1 ( k )), trivial⟩
  have mid : ∀ (z' : Nat), zok (∀ c, c < 2 ^ k → gxo row c k ≠ row k) z' → bw_W g (bw_rm 8 0 0) mX10_span Q 0 0 96 [(0, .ref M), (1, .int (nI (2 ^ k))), (2, .int (nI z')), (3, .int (nI k))] [] A := by
    intro z' hz'
    by_cases hk0 : k = 0
    · skip
      refine bw_iload_n 97 dX10_span_96 rfl rfl ?_
      refine bw_if_ne 107 100 dX10_span_97 rfl rfl (fun c97 => ?_) (fun c97 => ?_)
      · exact absurd (by rw [hk0]; rfl) c97
      · refine bw_aload_n 101 dX10_span_100 rfl rfl ?_
        refine bw_get 104 dX10_span_101 rfl lX10_51 (hC.at 0 rfl) rfl ?_
        refine bw_iconst (0) 105 dX10_span_104 (by decide) rfl ?_
        refine bw_eqi (y := nI 0) rfl ?_
        refine bw_iconst (0) 106 dX10_span_105 (by decide) rfl ?_
        refine bw_eqi (y := nI 0) rfl ?_
        refine bw_iastN 107 dX10_span_106 rfl (hC.at 2 rfl) (by omega) (by omega) (G := _) (rfl) (fun A hU => ?_)
        have hC := hC.upd 2 rfl hU
        have hS := hS.upd hU (by simp)
        clear hU
        refine bw_iconst (0) 108 dX10_span_107 (by decide) rfl ?_
        refine bw_eqi (y := nI 0) rfl ?_
        refine bw_istore 110 dX10_span_108 rfl (by decide) ?_
        have hT0 : tkk row (fun i => if i = 0 then 0 else T i) k := by
          rw [hk0]
          intro j hj
          rw [show j = 0 by omega]
          rfl
        have hz0 : zz (fun i => if i = 0 then 0 else T i) := fun j hj => by
          show (if j = 0 then 0 else T j) = 0
          rw [if_neg (by omega)]
          exact hTz j hj
        refine bw_loc _ ?_ (m_span_dbl g hk (fin z' _ hz' hT0 hz0) (2 ^ k) 0 (by omega) A (by rw [gsd_0]; exact hC) hS)
        exact ⟨rfl, rfl, rfl, rfl, rfl, trivial⟩
    · skip
      refine bw_iload_n 97 dX10_span_96 rfl rfl ?_
      refine bw_if_ne 107 100 dX10_span_97 rfl rfl (fun c97 => ?_) (fun c97 => ?_)
      · skip
        refine bw_iconst (0) 108 dX10_span_107 (by decide) rfl ?_
        refine bw_eqi (y := nI 0) rfl ?_
        refine bw_istore 110 dX10_span_108 rfl (by decide) ?_
        refine bw_loc _ ?_ (m_span_dbl g hk (fin z' T hz' (hT (by omega)) hTz) (2 ^ k) 0 (by omega) A (by rw [gsd_0]; exact hC) hS)
        exact ⟨rfl, rfl, rfl, rfl, rfl, trivial⟩
      · exact absurd ((xn_eq0 (by omega)).mp c97) hk0
  by_cases hr : row k = 0
  · skip
    refine bw_iload_n 80 dX10_span_79 rfl rfl ?_
    refine bw_aload_n 81 dX10_span_80 rfl rfl ?_
    refine bw_get 84 dX10_span_81 rfl lX10_13 (hC.at 0 rfl) rfl ?_
    refine bw_iload_n 85 dX10_span_84 rfl rfl ?_
    refine bw_ialdN 86 dX10_span_85 rfl (hC.at 1 rfl) (by omega) (by omega) ?_
    refine bw_if_eq 93 89 dX10_span_86 rfl rfl (fun c86 => ?_) (fun c86 => ?_)
    · refine bw_iconst (0) 94 dX10_span_93 (by decide) rfl ?_
      refine bw_eqi (y := nI 0) rfl ?_
      refine bw_iand 95 dX10_span_94 rfl ?_
      refine bw_eqi (xn_and _ _) ?_
      refine bw_istore_n 96 dX10_span_95 rfl (by decide) ?_
      refine bw_loc _ ?_ (mid 0 (Or.inr ⟨rfl, fun h => h 0 (Nat.two_pow_pos k) (by rw [gxo_z, hr])⟩))
      exact ⟨rfl, rfl, congrArg (fun x => some (Value.int (nI x))) (Nat.and_zero z), rfl, trivial⟩
    · exact absurd (by rw [hr]; rfl) c86
  · skip
    refine bw_iload_n 80 dX10_span_79 rfl rfl ?_
    refine bw_aload_n 81 dX10_span_80 rfl rfl ?_
    refine bw_get 84 dX10_span_81 rfl lX10_13 (hC.at 0 rfl) rfl ?_
    refine bw_iload_n 85 dX10_span_84 rfl rfl ?_
    refine bw_ialdN 86 dX10_span_85 rfl (hC.at 1 rfl) (by omega) (by omega) ?_
    refine bw_if_eq 93 89 dX10_span_86 rfl rfl (fun c86 => ?_) (fun c86 => ?_)
    · exact absurd ((xn_eq0 (h31 k)).mp c86) hr
    · skip
      refine bw_iconst (1) 90 dX10_span_89 (by decide) rfl ?_
      refine bw_eqi (y := nI 1) rfl ?_
      refine bw_goto 94 dX10_span_90 rfl ?_
      refine bw_iand 95 dX10_span_94 rfl ?_
      refine bw_eqi (xn_and _ _) ?_
      refine bw_istore_n 96 dX10_span_95 rfl (by decide) ?_
      refine bw_loc _ ?_ (mid z (hyes hr))
      exact ⟨rfl, rfl, congrArg (fun x => some (Value.int (nI x))) (show z &&& 1 = z by rcases (show z = 0 ∨ z = 1 by omega) with h | h <;> rw [h] <;> rfl), rfl, trivial⟩
/-- one round -/
theorem m_span_36 (g : bw_G) {A A0 : bw_H} {M n p gg rn mn pn rd rs pt sn k : Nat} {row T S : Nat → Nat} {Q : bw_O → bw_H → Prop} (hC : bw_has A ((M, mdo M n p gg 0 rn mn pn rd rs pt sn) :: spc g M row T S)) (hS : bw_sm [M, M + 13, M + 18] A0 A) (hn : 2 ^ n ≤ 65536) (hk : k < 6) (hrow : ∀ i, row i < 2 ^ n) (hT : 0 < k → tkk row T k) (hTz : zz T)
    (kk : ∀ (A : bw_H) (T' : Nat → Nat) (z' : Nat), bw_has A ((M, mdo M n p gg 0 rn mn pn rd rs pt sn) :: spc g M row T' S) → bw_sm [M, M + 13, M + 18] A0 A → zok (∀ c, c < 2 ^ k → gxo row c k ≠ row k) z' → tkk row T' (k + 1) → zz T' → bw_W g (bw_rm 8 0 0) mX10_span Q 0 0 24 [(0, .ref M), (1, .int (nI (2 ^ (k + 1)))), (2, .int (nI z')), (3, .int (nI (k + 1)))] [] A) :
      bw_W g (bw_rm 8 0 0) mX10_span Q 0 0 36 [(0, .ref M), (1, .int (nI (2 ^ k))), (2, .int (nI 1)), (3, .int (nI k))] [] A := by
  have h31 : ∀ i, row i < 2 ^ 31 := fun i => by have := hrow i; omega
  have h2k : 2 ^ k ≤ 2 ^ 5 := Nat.pow_le_pow_right (by omega) (by omega)
  by_cases hk0 : k = 0
  · subst hk0
    refine bw_iconst (0) 37 dX10_span_36 (by decide) rfl ?_
    refine bw_eqi (y := nI 0) rfl ?_
    refine bw_istore 39 dX10_span_37 rfl (by decide) ?_
    refine bw_iload 41 dX10_span_39 rfl rfl ?_
    refine bw_iload_n 42 dX10_span_41 rfl rfl ?_
    refine bw_icmp_ge 79 45 dX10_span_42 rfl rfl (fun c42 => ?_) (fun c42 => ?_)
    · exact absurd c42 (by decide)
    · refine bw_iload_n 46 dX10_span_45 rfl rfl ?_
      refine bw_if_le 79 49 dX10_span_46 rfl rfl (fun c46 => ?_) (fun c46 => ?_)
      · refine bw_loc _ ?_ (m_span_79 g (z := 1) (k := 0) hC hS hk h31 (Nat.le_refl 1) (fun hr => Or.inl ⟨rfl, fun c hc h => hr (by rw [show c = 0 by omega] at h; exact h.symm)⟩) hT hTz kk)
        exact ⟨rfl, rfl, rfl, rfl, trivial⟩
      · exact absurd (Int32.le_refl _) c46
  · skip
    refine bw_iconst (0) 37 dX10_span_36 (by decide) rfl ?_
    refine bw_eqi (y := nI 0) rfl ?_
    refine bw_istore 39 dX10_span_37 rfl (by decide) ?_
    refine bw_loc _ ?_ (m_span_chk g hC (by omega) hk (hT (by omega)) h31 (fun z hz => m_span_79 g hC hS hk h31 (by rcases hz with h | h <;> omega) (fun _ => hz) hT hTz kk) (fun j hj => by rw [hT (by omega) j hj]; have := gxo_lt hrow j k; omega) (2 ^ k) 0 (by omega) 1 (Or.inl ⟨rfl, fun c hc => absurd hc (Nat.not_lt_zero c)⟩))
    exact ⟨rfl, rfl, rfl, rfl, rfl, trivial⟩
/-- what span leaves -/
def mspP (g : bw_G) (M n p gg mn pn rd rs pt rn : Nat) (S' : Nat → Nat) (A0 : bw_H) (y : Int32) (A' : bw_H) : Prop := maR M [M + 13, M + 18] (mdo M n p gg 0 0 mn pn rd rs pt (2 ^ rn)) (nI (2 ^ rn)) A0 y A' ∧ A'.2 (M + 18) = some (bw_an g 64 S') ∧ mzz g A' (M + 13)
def mspX (g : bw_G) (M n p gg rn mn pn rd rs pt sn : Nat) (S : Nat → Nat) (A0 : bw_H) (y : Int32) (A' : bw_H) : Prop := maR M [M + 13, M + 18] (mdo M n p gg 1 rn mn pn rd rs pt sn) (nI 0) A0 y A' ∧ A'.2 (M + 18) = some (bw_an g 64 S) ∧ mzz g A' (M + 13)
set_option maxHeartbeats 4000000 in
theorem m_span_cp (g : bw_G) {A0 : bw_H} {M n p gg rn mn pn rd rs pt sn : Nat} {row T S : Nat → Nat} (hrn : rn ≤ 6) (hT : tkk row T rn) (hTz : zz T) :
    ∀ (d i : Nat), i + d = 2 ^ rn → ∀ A : bw_H, bw_has A ((M, mdo M n p gg 0 rn mn pn rd rs pt sn) :: spc g M row T (gsp row S rn i)) → bw_sm [M, M + 13, M + 18] A0 A →
      bw_W g (bw_rm 8 0 0) mX10_span (bw_pm (mspP g M n p gg mn pn rd rs pt rn (gsp row S rn (2 ^ rn)) A0)) 0 0 181 [(0, .ref M), (1, .int (nI (2 ^ rn))), (3, .int (nI i))] [] A := by
  have h2k : 2 ^ rn ≤ 2 ^ 6 := Nat.pow_le_pow_right (by omega) (by omega)
  intro d
  induction d with
  | zero =>
    intro i hi A hC hS
    have hi : i = 2 ^ rn := by omega
    rw [hi] at hC ⊢
    refine bw_iload_n 182 dX10_span_181 rfl rfl ?_
    refine bw_iload_n 183 dX10_span_182 rfl rfl ?_
    refine bw_icmp_ge 204 186 dX10_span_183 rfl rfl (fun c183 => ?_) (fun c183 => ?_)
    · refine bw_aload_n 205 dX10_span_204 rfl rfl ?_
      refine bw_iload_n 206 dX10_span_205 rfl rfl ?_
      refine bw_putU 209 dX10_span_206 rfl pX10_208 (hC.at 0 rfl) rfl rfl (Nat.le_of_ble_eq_true rfl) (fun A hU => ?_)
      have hC := hC.upd 0 rfl hU
      have hS := hS.upd hU (by simp)
      clear hU
      refine bw_aload_n 210 dX10_span_209 rfl rfl ?_
      refine bw_iconst (0) 211 dX10_span_210 (by decide) rfl ?_
      refine bw_eqi (y := nI 0) rfl ?_
      refine bw_putU 214 dX10_span_211 rfl pX10_124 (hC.at 0 rfl) rfl rfl (Nat.le_of_ble_eq_true rfl) (fun A hU => ?_)
      have hC := hC.upd 0 rfl hU
      have hS := hS.upd hU (by simp)
      clear hU
      refine bw_iload_n 215 dX10_span_214 rfl rfl ?_
      refine bw_iret dX10_span_215 rfl (Nat.le_of_ble_eq_true rfl) (Nat.le_of_ble_eq_true rfl) ?_
      exact ⟨_, rfl, ⟨rfl, hS, hC.at 0 rfl⟩, hC.at 3 rfl, ⟨_, hTz, hC.at 2 rfl⟩⟩
    · exact absurd (Int32.le_refl _) c183
  | succ d ih =>
    intro i hi A hC hS
    refine bw_iload_n 182 dX10_span_181 rfl rfl ?_
    refine bw_iload_n 183 dX10_span_182 rfl rfl ?_
    refine bw_icmp_ge 204 186 dX10_span_183 rfl rfl (fun c183 => ?_) (fun c183 => ?_)
    · exact absurd c183 (nI_ge (by omega) (by omega))
    · skip
      refine bw_aload_n 187 dX10_span_186 rfl rfl ?_
      refine bw_get 190 dX10_span_187 rfl lX10_72 (hC.at 0 rfl) rfl ?_
      refine bw_iload_n 191 dX10_span_190 rfl rfl ?_
      refine bw_aload_n 192 dX10_span_191 rfl rfl ?_
      refine bw_get 195 dX10_span_192 rfl lX10_51 (hC.at 0 rfl) rfl ?_
      refine bw_iload_n 196 dX10_span_195 rfl rfl ?_
      refine bw_ialdN 197 dX10_span_196 rfl (hC.at 2 rfl) (by omega) (by omega) ?_
      refine bw_eqi (congrArg nI (hT i (by omega))) ?_
      refine bw_iastN 198 dX10_span_197 rfl (hC.at 3 rfl) (by omega) (by omega) (G := gsp row S rn (i + 1)) (gsp_s) (fun A hU => ?_)
      have hC := hC.upd 3 rfl hU
      have hS := hS.upd hU (by simp)
      clear hU
      refine bw_iincN (1) 201 dX10_span_198 rfl rfl (by decide) (by decide) ?_
      refine bw_goto 181 dX10_span_201 rfl ?_
      refine bw_loc _ ?_ (ih (i + 1) (by omega) A hC hS)
      exact ⟨rfl, rfl, congrArg (fun x => some (Value.int x)) (nI_1 ( i )), trivial⟩
set_option maxHeartbeats 4000000 in
theorem m_span_loop (g : bw_G) {A0 : bw_H} {M n p gg rn mn pn rd rs pt sn : Nat} {row S : Nat → Nat} (hn : 2 ^ n ≤ 65536) (hrow : ∀ i, row i < 2 ^ n) (hrn : rn ≤ 6) (hx : ¬ hxa row rn) :
    ∀ (d k : Nat), k + d = rn → ∀ (A : bw_H) (T : Nat → Nat), bw_has A ((M, mdo M n p gg 0 rn mn pn rd rs pt sn) :: spc g M row T S) → bw_sm [M, M + 13, M + 18] A0 A → (0 < k → tkk row T k) → zz T →
      bw_W g (bw_rm 8 0 0) mX10_span (bw_pm (mspP g M n p gg mn pn rd rs pt rn (gsp row S rn (2 ^ rn)) A0)) 0 0 24 [(0, .ref M), (1, .int (nI (2 ^ k))), (2, .int (nI 1)), (3, .int (nI k))] [] A := by
  have h2k : 2 ^ rn ≤ 2 ^ 6 := Nat.pow_le_pow_right (by omega) (by omega)
  intro d
  induction d with
  | zero =>
    intro k hk A T hC hS hT hTz
    have hk : k = rn := by omega
    subst hk
    by_cases hr0 : k = 0
    · skip
      refine bw_iload_n 25 dX10_span_24 rfl rfl ?_
      refine bw_aload_n 26 dX10_span_25 rfl rfl ?_
      refine bw_get 29 dX10_span_26 rfl lX10_124 (hC.at 0 rfl) rfl ?_
      refine bw_icmp_ge 155 32 dX10_span_29 rfl rfl (fun c29 => ?_) (fun c29 => ?_)
      · refine bw_iload_n 156 dX10_span_155 rfl rfl ?_
        refine bw_if_ne 165 159 dX10_span_156 rfl rfl (fun c156 => ?_) (fun c156 => ?_)
        · refine bw_aload_n 166 dX10_span_165 rfl rfl ?_
          refine bw_get 169 dX10_span_166 rfl lX10_124 (hC.at 0 rfl) rfl ?_
          refine bw_if_ne 179 172 dX10_span_169 rfl rfl (fun c169 => ?_) (fun c169 => ?_)
          · exact absurd (by rw [hr0]; rfl) c169
          · refine bw_aload_n 173 dX10_span_172 rfl rfl ?_
            refine bw_get 176 dX10_span_173 rfl lX10_51 (hC.at 0 rfl) rfl ?_
            refine bw_iconst (0) 177 dX10_span_176 (by decide) rfl ?_
            refine bw_eqi (y := nI 0) rfl ?_
            refine bw_iconst (0) 178 dX10_span_177 (by decide) rfl ?_
            refine bw_eqi (y := nI 0) rfl ?_
            refine bw_iastN 179 dX10_span_178 rfl (hC.at 2 rfl) (by omega) (by omega) (G := _) (rfl) (fun A hU => ?_)
            have hC := hC.upd 2 rfl hU
            have hS := hS.upd hU (by simp)
            clear hU
            refine bw_iconst (0) 180 dX10_span_179 (by decide) rfl ?_
            refine bw_eqi (y := nI 0) rfl ?_
            refine bw_istore_n 181 dX10_span_180 rfl (by decide) ?_
            have hT0 : tkk row (fun i => if i = 0 then 0 else T i) k := by
              rw [hr0]
              intro j hj
              rw [show j = 0 by omega]
              rfl
            have hz0 : zz (fun i => if i = 0 then 0 else T i) := fun j hj => by
              show (if j = 0 then 0 else T j) = 0
              rw [if_neg (by omega)]
              exact hTz j hj
            refine bw_loc _ ?_ (m_span_cp g hrn hT0 hz0 (2 ^ k) 0 (by omega) A (by rw [show gsp row S k 0 = S from funext (fun i => if_neg (by omega))]; exact hC) hS)
            exact ⟨rfl, rfl, rfl, trivial⟩
        · exact absurd c156 (by decide)
      · exact absurd (Int32.le_refl _) c29
    · skip
      refine bw_iload_n 25 dX10_span_24 rfl rfl ?_
      refine bw_aload_n 26 dX10_span_25 rfl rfl ?_
      refine bw_get 29 dX10_span_26 rfl lX10_124 (hC.at 0 rfl) rfl ?_
      refine bw_icmp_ge 155 32 dX10_span_29 rfl rfl (fun c29 => ?_) (fun c29 => ?_)
      · refine bw_iload_n 156 dX10_span_155 rfl rfl ?_
        refine bw_if_ne 165 159 dX10_span_156 rfl rfl (fun c156 => ?_) (fun c156 => ?_)
        · refine bw_aload_n 166 dX10_span_165 rfl rfl ?_
          refine bw_get 169 dX10_span_166 rfl lX10_124 (hC.at 0 rfl) rfl ?_
          refine bw_if_ne 179 172 dX10_span_169 rfl rfl (fun c169 => ?_) (fun c169 => ?_)
          · skip
            refine bw_iconst (0) 180 dX10_span_179 (by decide) rfl ?_
            refine bw_eqi (y := nI 0) rfl ?_
            refine bw_istore_n 181 dX10_span_180 rfl (by decide) ?_
            refine bw_loc _ ?_ (m_span_cp g hrn (hT (by omega)) hTz (2 ^ k) 0 (by omega) A (by rw [show gsp row S k 0 = S from funext (fun i => if_neg (by omega))]; exact hC) hS)
            exact ⟨rfl, rfl, rfl, trivial⟩
          · exact absurd ((xn_eq0 (by omega)).mp c169) hr0
        · exact absurd c156 (by decide)
      · exact absurd (Int32.le_refl _) c29
  | succ d ih =>
    intro k hk A T hC hS hT hTz
    refine bw_iload_n 25 dX10_span_24 rfl rfl ?_
    refine bw_aload_n 26 dX10_span_25 rfl rfl ?_
    refine bw_get 29 dX10_span_26 rfl lX10_124 (hC.at 0 rfl) rfl ?_
    refine bw_icmp_ge 155 32 dX10_span_29 rfl rfl (fun c29 => ?_) (fun c29 => ?_)
    · exact absurd c29 (nI_ge (by omega) (by omega))
    · refine bw_iload_n 33 dX10_span_32 rfl rfl ?_
      refine bw_if_eq 155 36 dX10_span_33 rfl rfl (fun c33 => ?_) (fun c33 => ?_)
      · exact absurd c33 (by decide)
      · exact m_span_36 g hC hS hn (by omega) hrow hT hTz (fun A T' z' hC hS hz hT' hz' => by
          rcases hz with h | h
          · rw [h.1]
            exact ih (k + 1) (by omega) A T' hC hS (fun _ => hT') hz'
          · exact absurd (fun c hc he => hx ⟨k, c, by omega, hc, he⟩) h.2)
theorem m_span (g : bw_G) {A : bw_H} {M n p gg th rn mn pn rd rs pt sn : Nat} {row T S : Nat → Nat} (hn : 2 ^ n ≤ 65536) (hC : bw_has A ((M, mdo M n p gg th rn mn pn rd rs pt sn) :: spc g M row T S)) (hrow : ∀ i, row i < 2 ^ n) (hTz : zz T) (hrn : rn ≤ 6) (hx : ¬ hxa row rn) : bw_C g (bw_rm 8 0 0) mX10_span [.ref M] A (bw_pm (mspP g M n p gg mn pn rd rs pt rn (gsp row S rn (2 ^ rn)) A)) := by
  have hS : bw_sm [M, M + 13, M + 18] A A := bw_sm.rf
  refine bw_C.of (by decide) (Nat.le_of_ble_eq_true rfl) rfl ?_
  refine bw_aload_n 1 dX10_span_0 rfl rfl ?_
  refine bw_iconst (0) 2 dX10_span_1 (by decide) rfl ?_
  refine bw_eqi (y := nI 0) rfl ?_
  refine bw_putU 5 dX10_span_2 rfl pX10_1 (hC.at 0 rfl) rfl rfl (Nat.le_of_ble_eq_true rfl) (fun A hU => ?_)
  have hC := hC.upd 0 rfl hU
  have hS := hS.upd hU (by simp)
  clear hU
  refine bw_iconst (1) 6 dX10_span_5 (by decide) rfl ?_
  refine bw_eqi (y := nI 1) rfl ?_
  refine bw_istore_n 7 dX10_span_6 rfl (by decide) ?_
  refine bw_aload_n 8 dX10_span_7 rfl rfl ?_
  refine bw_get 11 dX10_span_8 rfl lX10_124 (hC.at 0 rfl) rfl ?_
  refine bw_bipush (6) 13 dX10_span_11 (by decide) rfl ?_
  refine bw_eqi (y := nI 6) rfl ?_
  refine bw_icmp_gt 20 16 dX10_span_13 rfl rfl (fun c13 => ?_) (fun c13 => ?_)
  · exact absurd ((nI_ltI (a := 6) (by omega) (by omega)).mp c13) (by omega)
  · refine bw_iconst (1) 17 dX10_span_16 (by decide) rfl ?_
    refine bw_eqi (y := nI 1) rfl ?_
    refine bw_goto 21 dX10_span_17 rfl ?_
    refine bw_istore_n 22 dX10_span_21 rfl (by decide) ?_
    refine bw_iconst (0) 23 dX10_span_22 (by decide) rfl ?_
    refine bw_eqi (y := nI 0) rfl ?_
    refine bw_istore_n 24 dX10_span_23 rfl (by decide) ?_
    refine bw_loc _ ?_ (m_span_loop g hn hrow hrn hx rn 0 (by omega) A T hC hS (fun h => absurd h (Nat.lt_irrefl 0)) hTz)
    exact ⟨rfl, rfl, rfl, rfl, trivial⟩
theorem m_span_bad (g : bw_G) {A A0 : bw_H} {M n p gg rn mn pn rd rs pt sn : Nat} {row T S : Nat → Nat} (hC : bw_has A ((M, mdo M n p gg 0 rn mn pn rd rs pt sn) :: spc g M row T S)) (hS : bw_sm [M, M + 13, M + 18] A0 A) (hTz : zz T) : bw_W g (bw_rm 8 0 0) mX10_span (bw_pm (mspX g M n p gg rn mn pn rd rs pt sn S A0)) 0 0 155 [(0, .ref M), (2, .int (nI 0))] [] A := by
  skip
  refine bw_iload_n 156 dX10_span_155 rfl rfl ?_
  refine bw_if_ne 165 159 dX10_span_156 rfl rfl (fun c156 => ?_) (fun c156 => ?_)
  · exact absurd rfl c156
  · refine bw_aload_n 160 dX10_span_159 rfl rfl ?_
    refine bw_iconst (1) 161 dX10_span_160 (by decide) rfl ?_
    refine bw_eqi (y := nI 1) rfl ?_
    refine bw_cVm 164 dX10_span_161 rfl vX10_118 (m_fail g (hC.sub [0] (by decide) rfl)) (hC.at 0 rfl) rfl rfl (Nat.le_of_ble_eq_true rfl) ⟨(Nat.le_of_ble_eq_true rfl), (Nat.le_of_ble_eq_true rfl)⟩ (Nat.le_of_ble_eq_true rfl) (Nat.le_of_ble_eq_true rfl) (fun x A hP => ?_)
    obtain ⟨h4, h5⟩ := hP
    subst h4
    have hC := hC.upd 0 rfl h5
    have hS := hS.upd h5 (by simp)
    refine bw_iret dX10_span_164 rfl (Nat.le_of_ble_eq_true rfl) (Nat.le_of_ble_eq_true rfl) ?_
    exact ⟨_, rfl, ⟨rfl, hS, hC.at 0 rfl⟩, hC.at 3 rfl, ⟨_, hTz, hC.at 2 rfl⟩⟩
theorem m_span_bad0 (g : bw_G) {A A0 : bw_H} {M n p gg rn mn pn rd rs pt sn : Nat} {a k : Int32} {row T S : Nat → Nat} (hC : bw_has A ((M, mdo M n p gg 0 rn mn pn rd rs pt sn) :: spc g M row T S)) (hS : bw_sm [M, M + 13, M + 18] A0 A) (hTz : zz T) : bw_W g (bw_rm 8 0 0) mX10_span (bw_pm (mspX g M n p gg rn mn pn rd rs pt sn S A0)) 0 0 24 [(0, .ref M), (1, .int a), (2, .int (nI 0)), (3, .int k)] [] A := by
  skip
  refine bw_iload_n 25 dX10_span_24 rfl rfl ?_
  refine bw_aload_n 26 dX10_span_25 rfl rfl ?_
  refine bw_get 29 dX10_span_26 rfl lX10_124 (hC.at 0 rfl) rfl ?_
  refine bw_icmp_ge 155 32 dX10_span_29 rfl rfl (fun c29 => ?_) (fun c29 => ?_)
  · refine bw_loc _ ?_ (m_span_bad g hC hS hTz)
    exact ⟨rfl, rfl, trivial⟩
  · refine bw_iload_n 33 dX10_span_32 rfl rfl ?_
    refine bw_if_eq 155 36 dX10_span_33 rfl rfl (fun c33 => ?_) (fun c33 => ?_)
    · refine bw_loc _ ?_ (m_span_bad g hC hS hTz)
      exact ⟨rfl, rfl, trivial⟩
    · exact absurd rfl c33
set_option maxHeartbeats 4000000 in
theorem m_span_loopX (g : bw_G) {A0 : bw_H} {M n p gg rn mn pn rd rs pt sn : Nat} {row S : Nat → Nat} (hn : 2 ^ n ≤ 65536) (hrow : ∀ i, row i < 2 ^ n) (hrn : rn ≤ 6) :
    ∀ (d k : Nat), k + d = rn → (∃ k' c, k ≤ k' ∧ k' < rn ∧ c < 2 ^ k' ∧ gxo row c k' = row k') → ∀ (A : bw_H) (T : Nat → Nat), bw_has A ((M, mdo M n p gg 0 rn mn pn rd rs pt sn) :: spc g M row T S) → bw_sm [M, M + 13, M + 18] A0 A → (0 < k → tkk row T k) → zz T →
      bw_W g (bw_rm 8 0 0) mX10_span (bw_pm (mspX g M n p gg rn mn pn rd rs pt sn S A0)) 0 0 24 [(0, .ref M), (1, .int (nI (2 ^ k))), (2, .int (nI 1)), (3, .int (nI k))] [] A := by
  intro d
  induction d with
  | zero =>
    intro k hk ⟨k', c, h1, h2, _⟩
    omega
  | succ d ih =>
    intro k hk ⟨k', c, h1, h2, h3, h4⟩ A T hC hS hT hTz
    refine bw_iload_n 25 dX10_span_24 rfl rfl ?_
    refine bw_aload_n 26 dX10_span_25 rfl rfl ?_
    refine bw_get 29 dX10_span_26 rfl lX10_124 (hC.at 0 rfl) rfl ?_
    refine bw_icmp_ge 155 32 dX10_span_29 rfl rfl (fun c29 => ?_) (fun c29 => ?_)
    · exact absurd c29 (nI_ge (by omega) (by omega))
    · refine bw_iload_n 33 dX10_span_32 rfl rfl ?_
      refine bw_if_eq 155 36 dX10_span_33 rfl rfl (fun c33 => ?_) (fun c33 => ?_)
      · exact absurd c33 (by decide)
      · exact m_span_36 g hC hS hn (by omega) hrow hT hTz (fun A T' z' hC hS hz hT' hz' => by
          rcases hz with h | h
          · rw [h.1]
            refine ih (k + 1) (by omega) ⟨k', c, ?_, h2, h3, h4⟩ A T' hC hS (fun _ => hT') hz'
            rcases Nat.lt_or_ge k k' with h5 | h5
            · exact h5
            · have h6 : k' = k := by omega
              rw [h6] at h3 h4
              exact absurd h4 (h.2 c h3)
          · rw [h.1]
            exact m_span_bad0 g hC hS hz')
theorem m_spanX (g : bw_G) {A : bw_H} {M n p gg th rn mn pn rd rs pt sn : Nat} {row T S : Nat → Nat} (hn : 2 ^ n ≤ 65536) (hC : bw_has A ((M, mdo M n p gg th rn mn pn rd rs pt sn) :: spc g M row T S)) (hrow : ∀ i, row i < 2 ^ n) (hTz : zz T) (h130 : rn ≤ 130) (h : 6 < rn ∨ hxa row rn) : bw_C g (bw_rm 8 0 0) mX10_span [.ref M] A (bw_pm (mspX g M n p gg rn mn pn rd rs pt sn S A)) := by
  have hS : bw_sm [M, M + 13, M + 18] A A := bw_sm.rf
  refine bw_C.of (by decide) (Nat.le_of_ble_eq_true rfl) rfl ?_
  by_cases h6 : 6 < rn
  · skip
    refine bw_aload_n 1 dX10_span_0 rfl rfl ?_
    refine bw_iconst (0) 2 dX10_span_1 (by decide) rfl ?_
    refine bw_eqi (y := nI 0) rfl ?_
    refine bw_putU 5 dX10_span_2 rfl pX10_1 (hC.at 0 rfl) rfl rfl (Nat.le_of_ble_eq_true rfl) (fun A hU => ?_)
    have hC := hC.upd 0 rfl hU
    have hS := hS.upd hU (by simp)
    clear hU
    refine bw_iconst (1) 6 dX10_span_5 (by decide) rfl ?_
    refine bw_eqi (y := nI 1) rfl ?_
    refine bw_istore_n 7 dX10_span_6 rfl (by decide) ?_
    refine bw_aload_n 8 dX10_span_7 rfl rfl ?_
    refine bw_get 11 dX10_span_8 rfl lX10_124 (hC.at 0 rfl) rfl ?_
    refine bw_bipush (6) 13 dX10_span_11 (by decide) rfl ?_
    refine bw_eqi (y := nI 6) rfl ?_
    refine bw_icmp_gt 20 16 dX10_span_13 rfl rfl (fun c13 => ?_) (fun c13 => ?_)
    · refine bw_iconst (0) 21 dX10_span_20 (by decide) rfl ?_
      refine bw_eqi (y := nI 0) rfl ?_
      refine bw_istore_n 22 dX10_span_21 rfl (by decide) ?_
      refine bw_iconst (0) 23 dX10_span_22 (by decide) rfl ?_
      refine bw_eqi (y := nI 0) rfl ?_
      refine bw_istore_n 24 dX10_span_23 rfl (by decide) ?_
      refine bw_loc _ ?_ (m_span_bad0 g (a := nI 1) (k := nI 0) hC hS hTz)
      exact ⟨rfl, rfl, rfl, rfl, trivial⟩
    · exact absurd ((nI_ltI (a := 6) (by omega) (by omega)).mpr h6) c13
  · skip
    refine bw_aload_n 1 dX10_span_0 rfl rfl ?_
    refine bw_iconst (0) 2 dX10_span_1 (by decide) rfl ?_
    refine bw_eqi (y := nI 0) rfl ?_
    refine bw_putU 5 dX10_span_2 rfl pX10_1 (hC.at 0 rfl) rfl rfl (Nat.le_of_ble_eq_true rfl) (fun A hU => ?_)
    have hC := hC.upd 0 rfl hU
    have hS := hS.upd hU (by simp)
    clear hU
    refine bw_iconst (1) 6 dX10_span_5 (by decide) rfl ?_
    refine bw_eqi (y := nI 1) rfl ?_
    refine bw_istore_n 7 dX10_span_6 rfl (by decide) ?_
    refine bw_aload_n 8 dX10_span_7 rfl rfl ?_
    refine bw_get 11 dX10_span_8 rfl lX10_124 (hC.at 0 rfl) rfl ?_
    refine bw_bipush (6) 13 dX10_span_11 (by decide) rfl ?_
    refine bw_eqi (y := nI 6) rfl ?_
    refine bw_icmp_gt 20 16 dX10_span_13 rfl rfl (fun c13 => ?_) (fun c13 => ?_)
    · exact absurd ((nI_ltI (a := 6) (by omega) (by omega)).mp c13) h6
    · skip
      refine bw_iconst (1) 17 dX10_span_16 (by decide) rfl ?_
      refine bw_eqi (y := nI 1) rfl ?_
      refine bw_goto 21 dX10_span_17 rfl ?_
      refine bw_istore_n 22 dX10_span_21 rfl (by decide) ?_
      refine bw_iconst (0) 23 dX10_span_22 (by decide) rfl ?_
      refine bw_eqi (y := nI 0) rfl ?_
      refine bw_istore_n 24 dX10_span_23 rfl (by decide) ?_
      obtain ⟨k', c, h1, h2, h3⟩ : hxa row rn := h.resolve_left h6
      refine bw_loc _ ?_ (m_span_loopX g hn hrow (by omega) rn 0 (by omega) ⟨k', c, Nat.zero_le _, h1, h2, h3⟩ A T hC hS (fun h => absurd h (Nat.lt_irrefl 0)) hTz)
      exact ⟨rfl, rfl, rfl, rfl, trivial⟩
