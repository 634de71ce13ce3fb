/-! the reference: matrices, one by one -/
/-- whether place s i is alike one of the first j, and whether any of the first i is alike one ahead -/
def haI (row : Nat → Nat) (s i : Nat) : Nat → Nat
  | 0 => 0
  | j + 1 => haI row s i j ||| (if row (s * i) = row (s * j) then 1 else 0)
def haO (row : Nat → Nat) (s : Nat) : Nat → Nat
  | 0 => 0
  | i + 1 => haO row s i ||| haI row s i i
theorem or01 {a b : Nat} (ha : a = 0 ∨ a = 1) (hb : b = 0 ∨ b = 1) : (a ||| b = 0 ∨ a ||| b = 1) ∧ (a ||| b = 1 ↔ a = 1 ∨ b = 1) := by
  rcases ha with rfl | rfl <;> rcases hb with rfl | rfl <;> decide
theorem haI_ok {row : Nat → Nat} {s i : Nat} : ∀ j, (haI row s i j = 0 ∨ haI row s i j = 1) ∧ (haI row s i j = 1 ↔ ∃ b, b < j ∧ row (s * i) = row (s * b))
  | 0 => ⟨Or.inl rfl, ⟨fun h => absurd h (by show (0 : Nat) ≠ 1; omega), fun ⟨b, h, _⟩ => absurd h (by omega)⟩⟩
  | j + 1 => by
    obtain ⟨h1, h2⟩ := haI_ok (row := row) (s := s) (i := i) j
    have h3 : (if row (s * i) = row (s * j) then 1 else 0) = 0 ∨ (if row (s * i) = row (s * j) then 1 else 0) = 1 := by split <;> simp
    obtain ⟨h4, h5⟩ := or01 h1 h3
    refine ⟨h4, ?_⟩
    show haI row s i j ||| _ = 1 ↔ _
    rw [h5, h2]
    constructor
    · rintro (⟨b, hb, e⟩ | h)
      · exact ⟨b, by omega, e⟩
      · by_cases e : row (s * i) = row (s * j)
        · exact ⟨j, by omega, e⟩
        · rw [if_neg e] at h
          omega
    · rintro ⟨b, hb, e⟩
      by_cases hbj : b = j
      · rw [hbj] at e
        exact Or.inr (if_pos e)
      · exact Or.inl ⟨b, by omega, e⟩
theorem haO_ok {row : Nat → Nat} {s : Nat} : ∀ i, (haO row s i = 0 ∨ haO row s i = 1) ∧ (haO row s i = 1 ↔ ∃ a b, a < i ∧ b < a ∧ row (s * a) = row (s * b))
  | 0 => ⟨Or.inl rfl, ⟨fun h => absurd h (by show (0 : Nat) ≠ 1; omega), fun ⟨a, b, h, _⟩ => absurd h (by omega)⟩⟩
  | i + 1 => by
    obtain ⟨h1, h2⟩ := haO_ok (row := row) (s := s) i
    obtain ⟨h3, h6⟩ := haI_ok (row := row) (s := s) (i := i) i
    obtain ⟨h4, h5⟩ := or01 h1 h3
    refine ⟨h4, ?_⟩
    show haO row s i ||| _ = 1 ↔ _
    rw [h5, h2, h6]
    constructor
    · rintro (⟨a, b, ha, hb, e⟩ | ⟨b, hb, e⟩)
      · exact ⟨a, b, by omega, hb, e⟩
      · exact ⟨i, b, by omega, hb, e⟩
    · rintro ⟨a, b, ha, hb, e⟩
      by_cases hai : a = i
      · rw [hai] at e hb
        exact Or.inr ⟨b, hb, e⟩
      · exact Or.inl ⟨a, b, by omega, hb, e⟩
theorem xn_or1 (a : Nat) (b : Nat) (hb : b = 0 ∨ b = 1) : nI a ||| nI b = nI (a ||| b) := xn_or a b
set_option maxHeartbeats 4000000 in
theorem m_hasAlike_in (g : bw_G) {A : bw_H} {M n p gg th rn mn pn rd rs pt sn s i : Nat} {row : Nat → Nat} {Q : bw_O → bw_H → Prop} (hC : bw_has A [(M, mdo M n p gg th rn mn pn rd rs pt sn), (M + 1, bw_an g 130 row)]) (hn : 2 ^ n ≤ 65536) (hrow : ∀ i, row i < 2 ^ n) (hrn : rn ≤ 130) (hs : 1 ≤ s) (hs2 : s ≤ 2) (hi : s * i < rn)
    (kk : bw_W g (bw_rm 0 0 0) mX10_hasAlike Q 0 0 58 [(0, .ref M), (1, .int (nI 0)), (2, .int (nI s)), (3, .int (nI (haO row s i ||| haI row s i i))), (4, .int (nI (s * i)))] [] A) :
    ∀ (d j : Nat), j + d = i → bw_W g (bw_rm 0 0 0) mX10_hasAlike Q 0 0 17 [(0, .ref M), (1, .int (nI 0)), (2, .int (nI s)), (3, .int (nI (haO row s i ||| haI row s i j))), (4, .int (nI (s * i))), (5, .int (nI (s * j)))] [] A := by
  intro d
  induction d with
  | zero =>
    intro j hj
    have hj : j = i := by omega
    subst hj
    refine bw_iload 19 dX10_hasAlike_17 rfl rfl ?_
    refine bw_iload 21 dX10_hasAlike_19 rfl rfl ?_
    refine bw_icmp_ge 58 24 dX10_hasAlike_21 rfl rfl (fun c21 => ?_) (fun c21 => ?_)
    · refine bw_loc _ ?_ kk
      exact ⟨rfl, rfl, rfl, rfl, rfl, trivial⟩
    · exact absurd (Int32.le_refl _) c21
  | succ d ih =>
    intro j hj
    have hji : s * j < s * i := Nat.mul_lt_mul_of_pos_left (by omega) (by omega)
    refine bw_iload 19 dX10_hasAlike_17 rfl rfl ?_
    refine bw_iload 21 dX10_hasAlike_19 rfl rfl ?_
    refine bw_icmp_ge 58 24 dX10_hasAlike_21 rfl rfl (fun c21 => ?_) (fun c21 => ?_)
    · exact absurd c21 (nI_ge hji (by omega))
    · skip
      refine bw_iload_n 25 dX10_hasAlike_24 rfl rfl ?_
      refine bw_aload_n 26 dX10_hasAlike_25 rfl rfl ?_
      refine bw_get 29 dX10_hasAlike_26 rfl lX10_13 (hC.at 0 rfl) rfl ?_
      refine bw_iload 31 dX10_hasAlike_29 rfl rfl ?_
      refine bw_ialdN 32 dX10_hasAlike_31 rfl (hC.at 1 rfl) (by omega) (by omega) ?_
      refine bw_aload_n 33 dX10_hasAlike_32 rfl rfl ?_
      refine bw_get 36 dX10_hasAlike_33 rfl lX10_13 (hC.at 0 rfl) rfl ?_
      refine bw_iload 38 dX10_hasAlike_36 rfl rfl ?_
      refine bw_ialdN 39 dX10_hasAlike_38 rfl (hC.at 1 rfl) (by omega) (by omega) ?_
      refine bw_icmp_ne 46 42 dX10_hasAlike_39 rfl rfl (fun c39 => ?_) (fun c39 => ?_)
      · have he : (if row (s * i) = row (s * j) then 1 else 0) = 0 := if_neg (fun h => c39 (by rw [h]))
        refine bw_iconst (0) 47 dX10_hasAlike_46 (by decide) rfl ?_
        refine bw_eqi (y := nI 0) rfl ?_
        refine bw_ior 48 dX10_hasAlike_47 rfl ?_
        refine bw_eqi ((xn_or (haO row s i ||| haI row s i j) _).trans (by rw [Nat.or_assoc, ← he])) ?_
        refine bw_istore_n 49 dX10_hasAlike_48 rfl (by decide) ?_
        refine bw_iload 51 dX10_hasAlike_49 rfl rfl ?_
        refine bw_iload_n 52 dX10_hasAlike_51 rfl rfl ?_
        refine bw_iadd 53 dX10_hasAlike_52 rfl ?_
        refine bw_eqi ((nI_add (s * j) s).trans (by rw [← Nat.mul_succ])) ?_
        refine bw_istore 55 dX10_hasAlike_53 rfl (by decide) ?_
        refine bw_goto 17 dX10_hasAlike_55 rfl ?_
        refine bw_loc _ ?_ (ih (j + 1) (by omega))
        exact ⟨rfl, rfl, rfl, rfl, rfl, rfl, trivial⟩
      · have he : (if row (s * i) = row (s * j) then 1 else 0) = 1 := if_pos ((nI_eq (by have := hrow (s * i); omega) (by have := hrow (s * j); omega)).mp c39)
        refine bw_iconst (1) 43 dX10_hasAlike_42 (by decide) rfl ?_
        refine bw_eqi (y := nI 1) rfl ?_
        refine bw_goto 47 dX10_hasAlike_43 rfl ?_
        refine bw_ior 48 dX10_hasAlike_47 rfl ?_
        refine bw_eqi ((xn_or (haO row s i ||| haI row s i j) _).trans (by rw [Nat.or_assoc, ← he])) ?_
        refine bw_istore_n 49 dX10_hasAlike_48 rfl (by decide) ?_
        refine bw_iload 51 dX10_hasAlike_49 rfl rfl ?_
        refine bw_iload_n 52 dX10_hasAlike_51 rfl rfl ?_
        refine bw_iadd 53 dX10_hasAlike_52 rfl ?_
        refine bw_eqi ((nI_add (s * j) s).trans (by rw [← Nat.mul_succ])) ?_
        refine bw_istore 55 dX10_hasAlike_53 rfl (by decide) ?_
        refine bw_goto 17 dX10_hasAlike_55 rfl ?_
        refine bw_loc _ ?_ (ih (j + 1) (by omega))
        exact ⟨rfl, rfl, rfl, rfl, rfl, rfl, trivial⟩
set_option maxHeartbeats 4000000 in
theorem m_hasAlike_out (g : bw_G) {A : bw_H} {M n p gg th rn mn pn rd rs pt sn s z : Nat} {row : Nat → Nat} (hC : bw_has A [(M, mdo M n p gg th rn mn pn rd rs pt sn), (M + 1, bw_an g 130 row)]) (hn : 2 ^ n ≤ 65536) (hrow : ∀ i, row i < 2 ^ n) (hrn : rn ≤ 130) (hs : 1 ≤ s) (hs2 : s ≤ 2) (hz : z = 1 ∧ hal row rn s ∨ z = 0 ∧ ¬ hal row rn s) :
    ∀ (d i : Nat), i + d = 131 → (i = 0 ∨ s * (i - 1) < rn) → bw_W g (bw_rm 0 0 0) mX10_hasAlike (bw_pi (nI z) A) 0 0 5 [(0, .ref M), (1, .int (nI 0)), (2, .int (nI s)), (3, .int (nI (haO row s i))), (4, .int (nI (s * i)))] [] A := by
  have fin : ∀ i, rn ≤ s * i → (i = 0 ∨ s * (i - 1) < rn) → haO row s i = z := by
    intro i hge hpr
    obtain ⟨h1, h2⟩ := haO_ok (row := row) (s := s) i
    have key : (∃ a b, a < i ∧ b < a ∧ row (s * a) = row (s * b)) ↔ hal row rn s := by
      constructor
      · rintro ⟨a, b, ha, hb, e⟩
        refine ⟨a, b, ?_, hb, e⟩
        rcases hpr with h | h
        · omega
        · exact Nat.lt_of_le_of_lt (Nat.mul_le_mul_left s (show a ≤ i - 1 by omega)) h
      · rintro ⟨a, b, ha, hb, e⟩
        refine ⟨a, b, ?_, hb, e⟩
        apply Nat.lt_of_not_le
        intro hia
        have := Nat.mul_le_mul_left s hia
        omega
    rw [key] at h2
    rcases hz with ⟨hz1, hz2⟩ | ⟨hz1, hz2⟩
    · rw [hz1]; exact h2.mpr hz2
    · rcases h1 with h | h
      · rw [h, hz1]
      · exact absurd (h2.mp h) hz2
  intro d
  induction d with
  | zero =>
    intro i hi hpr
    have hsi : s * i ≤ 2 * 131 := Nat.mul_le_mul hs2 (by omega)
    have hge : rn ≤ s * i := by
      have : 1 * i ≤ s * i := Nat.mul_le_mul_right i hs
      omega
    have hz01 : nI (haO row s i) = 0 ∨ nI (haO row s i) = 1 := by
      rcases (haO_ok (row := row) (s := s) i).1 with h | h <;> rw [h]
      · exact Or.inl rfl
      · exact Or.inr rfl
    rw [← fin i hge hpr]
    refine bw_iload 7 dX10_hasAlike_5 rfl rfl ?_
    refine bw_aload_n 8 dX10_hasAlike_7 rfl rfl ?_
    refine bw_get 11 dX10_hasAlike_8 rfl lX10_124 (hC.at 0 rfl) rfl ?_
    refine bw_icmp_ge 67 14 dX10_hasAlike_11 rfl rfl (fun c11 => ?_) (fun c11 => ?_)
    · refine bw_iload_n 68 dX10_hasAlike_67 rfl rfl ?_
      refine bw_zret dX10_hasAlike_68 rfl (by first | decide | exact hz01) (Nat.le_of_ble_eq_true rfl) (Nat.le_of_ble_eq_true rfl) ?_
      exact ⟨rfl, rfl⟩
    · exact absurd (nI_le hge (by omega)) c11
  | succ d ih =>
    intro i hi hpr
    have hsi : s * i ≤ 2 * 131 := Nat.mul_le_mul hs2 (by omega)
    by_cases hlt : s * i < rn
    · skip
      refine bw_iload 7 dX10_hasAlike_5 rfl rfl ?_
      refine bw_aload_n 8 dX10_hasAlike_7 rfl rfl ?_
      refine bw_get 11 dX10_hasAlike_8 rfl lX10_124 (hC.at 0 rfl) rfl ?_
      refine bw_icmp_ge 67 14 dX10_hasAlike_11 rfl rfl (fun c11 => ?_) (fun c11 => ?_)
      · exact absurd c11 (nI_ge hlt (by omega))
      · skip
        refine bw_iload_n 15 dX10_hasAlike_14 rfl rfl ?_
        refine bw_istore 17 dX10_hasAlike_15 rfl (by decide) ?_
        refine bw_loc _ ?_ (m_hasAlike_in g hC hn hrow hrn hs hs2 hlt ?_ i 0 (by omega))
        · exact ⟨rfl, rfl, rfl, congrArg (fun x => some (Value.int (nI x))) (Nat.or_zero _).symm, rfl, rfl, trivial⟩
        refine bw_iload 60 dX10_hasAlike_58 rfl rfl ?_
        refine bw_iload_n 61 dX10_hasAlike_60 rfl rfl ?_
        refine bw_iadd 62 dX10_hasAlike_61 rfl ?_
        refine bw_eqi ((nI_add (s * i) s).trans (by rw [← Nat.mul_succ])) ?_
        refine bw_istore 64 dX10_hasAlike_62 rfl (by decide) ?_
        refine bw_goto 5 dX10_hasAlike_64 rfl ?_
        refine bw_loc _ ?_ (ih (i + 1) (by omega) (Or.inr hlt))
        exact ⟨rfl, rfl, rfl, rfl, rfl, trivial⟩
    · have hge : rn ≤ s * i := Nat.not_lt.mp hlt
      have hz01 : nI (haO row s i) = 0 ∨ nI (haO row s i) = 1 := by
        rcases (haO_ok (row := row) (s := s) i).1 with h | h <;> rw [h]
        · exact Or.inl rfl
        · exact Or.inr rfl
      rw [← fin i hge hpr]
      refine bw_iload 7 dX10_hasAlike_5 rfl rfl ?_
      refine bw_aload_n 8 dX10_hasAlike_7 rfl rfl ?_
      refine bw_get 11 dX10_hasAlike_8 rfl lX10_124 (hC.at 0 rfl) rfl ?_
      refine bw_icmp_ge 67 14 dX10_hasAlike_11 rfl rfl (fun c11 => ?_) (fun c11 => ?_)
      · refine bw_iload_n 68 dX10_hasAlike_67 rfl rfl ?_
        refine bw_zret dX10_hasAlike_68 rfl (by first | decide | exact hz01) (Nat.le_of_ble_eq_true rfl) (Nat.le_of_ble_eq_true rfl) ?_
        exact ⟨rfl, rfl⟩
      · exact absurd (nI_le hge (by omega)) c11
theorem m_hasAlike (g : bw_G) {A : bw_H} {M n p gg th rn mn pn rd rs pt sn s z : Nat} {row : Nat → Nat} (hC : bw_has A [(M, mdo M n p gg th rn mn pn rd rs pt sn), (M + 1, bw_an g 130 row)]) (hn : 2 ^ n ≤ 65536) (hrow : ∀ i, row i < 2 ^ n) (hrn : rn ≤ 130) (hs : 1 ≤ s) (hs2 : s ≤ 2) (hz : z = 1 ∧ hal row rn s ∨ z = 0 ∧ ¬ hal row rn s) : bw_C g (bw_rm 0 0 0) mX10_hasAlike [.ref M, .int (nI 0), .int (nI s)] A (bw_pi (nI z) A) := by
  refine bw_C.of (by decide) (Nat.le_of_ble_eq_true rfl) rfl ?_
  refine bw_iconst (0) 1 dX10_hasAlike_0 (by decide) rfl ?_
  refine bw_eqi (y := nI 0) rfl ?_
  refine bw_istore_n 2 dX10_hasAlike_1 rfl (by decide) ?_
  refine bw_iload_n 3 dX10_hasAlike_2 rfl rfl ?_
  refine bw_istore 5 dX10_hasAlike_3 rfl (by decide) ?_
  refine bw_loc _ ?_ (m_hasAlike_out g hC hn hrow hrn hs hs2 hz 131 0 (by omega) (Or.inl rfl))
  exact ⟨rfl, rfl, rfl, rfl, rfl, trivial⟩
/-- the cells of a matrix that is made anew, the first k of them -/
def gzm (C : Nat → Nat) (m k t : Nat) : Nat := if 64 * m ≤ t ∧ t < 64 * m + k then 0 else C t
theorem gzm_s {C : Nat → Nat} {m k : Nat} : (fun t => if t = 64 * m + k then 0 else gzm C m k t) = gzm C m (k + 1) := by
  funext t
  unfold gzm
  by_cases h : t = 64 * m + k
  · rw [if_pos h, if_pos (by omega)]
  · rw [if_neg h]
    by_cases h2 : 64 * m ≤ t ∧ t < 64 * m + k
    · rw [if_pos h2, if_pos (by omega)]
    · rw [if_neg h2, if_neg (by omega)]
theorem gzm_0 {C : Nat → Nat} {m : Nat} : gzm C m 0 = C := by
  funext t
  unfold gzm
  rw [if_neg (by omega)]
/-- rows, columns, cells -/
abbrev mmc (g : bw_G) (M : Nat) (rr cc C : Nat → Nat) : List (Nat × va_E) := [(M + 2, bw_an g 40 rr), (M + 3, bw_an g 40 cc), (M + 4, bw_an g 2560 C)]
abbrev mml (M : Nat) : List Nat := [M + 2, M + 3, M + 4]
def mdP (g : bw_G) (M : Nat) (e : va_E) (v : Int32) (rr cc C : Nat → Nat) (A0 : bw_H) (y : Int32) (A' : bw_H) : Prop := maR M (mml M) e v A0 y A' ∧ bw_has A' (mmc g M rr cc C)
set_option maxHeartbeats 4000000 in
theorem m_made_loop (g : bw_G) {A0 : bw_H} {M n p gg th rn mn pn rd rs pt sn : Nat} {rr cc C : Nat → Nat} (hm : mn < 40) :
    ∀ (d k : Nat), k + d = 64 → ∀ A : bw_H, bw_has A ((M, mdo M n p gg th rn mn pn rd rs pt sn) :: mmc g M rr cc (gzm C mn k)) → bw_sm (M :: mml M) A0 A →
      bw_W g (bw_rm 0 0 0) mX10_made (bw_pm (mdP g M (mdo M n p gg th rn (mn + 1) pn rd rs pt sn) (nI mn) rr cc (gzm C mn 64) A0)) 0 0 22 [(0, .ref M), (3, .int (nI k))] [] A := by
  intro d
  induction d with
  | zero =>
    intro k hk A hC hS
    have hk : k = 64 := by omega
    subst hk
    refine bw_iload_n 23 dX10_made_22 rfl rfl ?_
    refine bw_bipush (64) 25 dX10_made_23 (by decide) rfl ?_
    refine bw_eqi (y := nI 64) rfl ?_
    refine bw_icmp_ge 49 28 dX10_made_25 rfl rfl (fun c25 => ?_) (fun c25 => ?_)
    · refine bw_aload_n 50 dX10_made_49 rfl rfl ?_
      refine bw_dup 51 dX10_made_50 rfl rfl ?_
      refine bw_get 54 dX10_made_51 rfl lX10_127 (hC.at 0 rfl) rfl ?_
      refine bw_iconst (1) 55 dX10_made_54 (by decide) rfl ?_
      refine bw_iadd 56 dX10_made_55 rfl ?_
      refine bw_eqi (show nI mn + 1 = nI (mn + 1) from nI_1 mn) ?_
      refine bw_putU 59 dX10_made_56 rfl pX10_127 (hC.at 0 rfl) rfl rfl (Nat.le_of_ble_eq_true rfl) (fun A hU => ?_)
      have hC := hC.upd 0 rfl hU
      have hS := hS.upd hU (by simp)
      clear hU
      refine bw_aload_n 60 dX10_made_59 rfl rfl ?_
      refine bw_get 63 dX10_made_60 rfl lX10_127 (hC.at 0 rfl) rfl ?_
      refine bw_iconst (1) 64 dX10_made_63 (by decide) rfl ?_
      refine bw_isub 65 dX10_made_64 rfl ?_
      refine bw_eqi (show nI (mn + 1) - 1 = nI mn by rw [tI_sub, tI_s]) ?_
      refine bw_iret dX10_made_65 rfl (Nat.le_of_ble_eq_true rfl) (Nat.le_of_ble_eq_true rfl) ?_
      exact ⟨_, rfl, ⟨rfl, hS, hC.at 0 rfl⟩, hC.sub [1, 2, 3] (by decide) rfl⟩
    · exact absurd (Int32.le_refl _) c25
  | succ d ih =>
    intro k hk A hC hS
    refine bw_iload_n 23 dX10_made_22 rfl rfl ?_
    refine bw_bipush (64) 25 dX10_made_23 (by decide) rfl ?_
    refine bw_eqi (y := nI 64) rfl ?_
    refine bw_icmp_ge 49 28 dX10_made_25 rfl rfl (fun c25 => ?_) (fun c25 => ?_)
    · exact absurd c25 (nI_ge (b := 64) (by omega) (by omega))
    · skip
      refine bw_aload_n 29 dX10_made_28 rfl rfl ?_
      refine bw_get 32 dX10_made_29 rfl lX10_23 (hC.at 0 rfl) rfl ?_
      refine bw_bipush (64) 34 dX10_made_32 (by decide) rfl ?_
      refine bw_eqi (y := nI 64) rfl ?_
      refine bw_aload_n 35 dX10_made_34 rfl rfl ?_
      refine bw_get 38 dX10_made_35 rfl lX10_127 (hC.at 0 rfl) rfl ?_
      refine bw_imul 39 dX10_made_38 rfl ?_
      refine bw_eqi (pk_mul 64 mn) ?_
      refine bw_iload_n 40 dX10_made_39 rfl rfl ?_
      refine bw_iadd 41 dX10_made_40 rfl ?_
      refine bw_eqi (nI_add (64 * mn) k) ?_
      refine bw_iconst (0) 42 dX10_made_41 (by decide) rfl ?_
      refine bw_eqi (y := nI 0) rfl ?_
      refine bw_iastN 43 dX10_made_42 rfl (hC.at 3 rfl) (by omega) (by omega) (G := gzm C mn (k + 1)) (gzm_s) (fun A hU => ?_)
      have hC := hC.upd 3 rfl hU
      have hS := hS.upd hU (by simp)
      clear hU
      refine bw_iincN (1) 46 dX10_made_43 rfl rfl (by decide) (by decide) ?_
      refine bw_goto 22 dX10_made_46 rfl ?_
      refine bw_loc _ ?_ (ih (k + 1) (by omega) A hC hS)
      exact ⟨rfl, congrArg (fun x => some (Value.int x)) (nI_1 ( k )), trivial⟩
set_option maxHeartbeats 4000000 in
theorem m_made (g : bw_G) {A : bw_H} {M n p gg th rn mn pn rd rs pt sn r c : Nat} {rr cc C : Nat → Nat} (hC : bw_has A ((M, mdo M n p gg th rn mn pn rd rs pt sn) :: mmc g M rr cc C)) (hm : mn < 40) : bw_C g (bw_rm 0 0 0) mX10_made [.ref M, .int (nI r), .int (nI c)] A (bw_pm (mdP g M (mdo M n p gg th rn (mn + 1) pn rd rs pt sn) (nI mn) (fun i => if i = mn then r else rr i) (fun i => if i = mn then c else cc i) (gzm C mn 64) A)) := by
  have hS : bw_sm (M :: mml M) A A := bw_sm.rf
  refine bw_C.of (by decide) (Nat.le_of_ble_eq_true rfl) rfl ?_
  refine bw_aload_n 1 dX10_made_0 rfl rfl ?_
  refine bw_get 4 dX10_made_1 rfl lX10_17 (hC.at 0 rfl) rfl ?_
  refine bw_aload_n 5 dX10_made_4 rfl rfl ?_
  refine bw_get 8 dX10_made_5 rfl lX10_127 (hC.at 0 rfl) rfl ?_
  refine bw_iload_n 9 dX10_made_8 rfl rfl ?_
  refine bw_iastN 10 dX10_made_9 rfl (hC.at 1 rfl) (by omega) (by omega) (G := _) (rfl) (fun A hU => ?_)
  have hC := hC.upd 1 rfl hU
  have hS := hS.upd hU (by simp)
  clear hU
  refine bw_aload_n 11 dX10_made_10 rfl rfl ?_
  refine bw_get 14 dX10_made_11 rfl lX10_20 (hC.at 0 rfl) rfl ?_
  refine bw_aload_n 15 dX10_made_14 rfl rfl ?_
  refine bw_get 18 dX10_made_15 rfl lX10_127 (hC.at 0 rfl) rfl ?_
  refine bw_iload_n 19 dX10_made_18 rfl rfl ?_
  refine bw_iastN 20 dX10_made_19 rfl (hC.at 2 rfl) (by omega) (by omega) (G := _) (rfl) (fun A hU => ?_)
  have hC := hC.upd 2 rfl hU
  have hS := hS.upd hU (by simp)
  clear hU
  refine bw_iconst (0) 21 dX10_made_20 (by decide) rfl ?_
  refine bw_eqi (y := nI 0) rfl ?_
  refine bw_istore_n 22 dX10_made_21 rfl (by decide) ?_
  refine bw_loc _ ?_ (m_made_loop g hm 64 0 (by omega) A (by rw [gzm_0]; exact hC) hS)
  exact ⟨rfl, rfl, trivial⟩
