/-! the reference's products -/
set_option maxHeartbeats 4000000 in
set_option maxRecDepth 100000 in
theorem c10_mul_loop (g : bw_G) {A : bw_H} {M n p : Nat} {ms : List Value} (hn : n ≤ 16) (hC : bw_has A [(M, .inr (12, ms))]) (hN : ms[2]? = some (.int (nI (2 ^ n)))) (hp : ms[1]? = some (.int (nI p))) (hq2 : 2 ^ n ||| p < 2 ^ (n + 1)) (hq : 2 ^ n ≤ 2 ^ n ||| p) (z : Nat) :
    ∀ (j b x r : Nat), b < 2 ^ j → j ≤ 16 → x < 2 ^ n → r < 2 ^ n → gml (2 ^ n) (2 ^ n ||| p) j b x r = z → bw_W g (bw_rm 0 0 0) mX10_mul (bw_pi (nI z) A) 0 0 8 [(0, .ref M), (3, .int (nI r)), (4, .int (nI x)), (5, .int (nI b))] [] A := by
  have hn2 : 2 ^ n ≤ 2 ^ 16 := Nat.pow_le_pow_right (by omega) hn
  intro j
  induction j with
  | zero =>
    intro b x r hb hj hx hr hz
    have hb0 : b = 0 := by simpa using hb
    subst hb0
    have hz : r = z := hz
    subst hz
    refine bw_iload 10 dX10_mul_8 rfl rfl ?_
    refine bw_if_le 65 13 dX10_mul_10 rfl rfl (fun c10 => ?_) (fun c10 => ?_)
    · refine bw_iload_n 66 dX10_mul_65 rfl rfl ?_
      refine bw_iret dX10_mul_66 rfl (Nat.le_of_ble_eq_true rfl) (Nat.le_of_ble_eq_true rfl) ?_
      exact ⟨rfl, rfl⟩
    · exact absurd ((xn_le0 (by omega)).mpr rfl) c10
  | succ j ih =>
    intro b x r hb hj hx hr hz
    have hj2 : 2 ^ (j + 1) ≤ 2 ^ 16 := Nat.pow_le_pow_right (by omega) hj
    have hb2 : b / 2 < 2 ^ j := by rw [Nat.pow_succ] at hb; omega
    have hz : gml (2 ^ n) (2 ^ n ||| p) j (b / 2) (gx (2 ^ n) (2 ^ n ||| p) x) (if b % 2 = 1 then r ^^^ x else r) = z := hz
    have hgx := gx_lt (n := n) hq hq2 hx
    refine bw_iload 10 dX10_mul_8 rfl rfl ?_
    refine bw_if_le 65 13 dX10_mul_10 rfl rfl (fun c10 => ?_) (fun c10 => ?_)
    · have hb0 : b = 0 := (xn_le0 (by omega)).mp c10
      subst hb0
      rw [Nat.zero_div, gml_0] at hz
      have hz : r = z := hz
      subst hz
      refine bw_iload_n 66 dX10_mul_65 rfl rfl ?_
      refine bw_iret dX10_mul_66 rfl (Nat.le_of_ble_eq_true rfl) (Nat.le_of_ble_eq_true rfl) ?_
      exact ⟨rfl, rfl⟩
    · refine bw_iload 15 dX10_mul_13 rfl rfl ?_
      refine bw_iconst (1) 16 dX10_mul_15 (by decide) rfl ?_
      refine bw_iand 17 dX10_mul_16 rfl ?_
      refine bw_eqi (xn_and1 b) ?_
      refine bw_iconst (1) 18 dX10_mul_17 (by decide) rfl ?_
      refine bw_icmp_ne 26 21 dX10_mul_18 rfl rfl (fun c18 => ?_) (fun c18 => ?_)
      · rw [if_neg (fun h => c18 ((xn_eq1 (by omega)).mpr h))] at hz
        refine bw_iload 28 dX10_mul_26 rfl rfl ?_
        refine bw_iconst (1) 29 dX10_mul_28 (by decide) rfl ?_
        refine bw_ishl 30 dX10_mul_29 rfl ?_
        refine bw_eqi (xn_shl1 (by omega)) ?_
        refine bw_istore 32 dX10_mul_30 rfl (by decide) ?_
        refine bw_iload 34 dX10_mul_32 rfl rfl ?_
        refine bw_aload_n 35 dX10_mul_34 rfl rfl ?_
        refine bw_get 38 dX10_mul_35 rfl lX10_78 (hC.at 0 rfl) hN ?_
        refine bw_iand 39 dX10_mul_38 rfl ?_
        refine bw_eqi (xn_and (2 * x) (2 ^ n)) ?_
        refine bw_if_eq 56 42 dX10_mul_39 rfl rfl (fun c39 => ?_) (fun c39 => ?_)
        · have h2 : 2 * x < 2 ^ n := (and_top hx).mp ((xn_eq0 (Nat.lt_of_le_of_lt Nat.and_le_right (by omega))).mp c39)
          have hg : gx (2 ^ n) (2 ^ n ||| p) x = 2 * x := if_pos h2
          rw [hg] at hz hgx
          refine bw_iload 58 dX10_mul_56 rfl rfl ?_
          refine bw_iconst (1) 59 dX10_mul_58 (by decide) rfl ?_
          refine bw_ishr 60 dX10_mul_59 rfl ?_
          refine bw_eqi (xn_shr1 (by omega)) ?_
          refine bw_istore 62 dX10_mul_60 rfl (by decide) ?_
          refine bw_goto 8 dX10_mul_62 rfl ?_
          refine bw_loc [(0, .ref M), (3, _), (4, _), (5, _)] ⟨rfl, rfl, rfl, rfl, trivial⟩ ?_
          exact ih _ _ _ hb2 (by omega) hgx hr hz
        · have h2 : ¬ 2 * x < 2 ^ n := fun h => c39 ((xn_eq0 (Nat.lt_of_le_of_lt Nat.and_le_right (by omega))).mpr ((and_top hx).mpr h))
          have hg : gx (2 ^ n) (2 ^ n ||| p) x = (2 * x) ^^^ (2 ^ n ||| p) := if_neg h2
          rw [hg] at hz hgx
          refine bw_iload 44 dX10_mul_42 rfl rfl ?_
          refine bw_aload_n 45 dX10_mul_44 rfl rfl ?_
          refine bw_get 48 dX10_mul_45 rfl lX10_78 (hC.at 0 rfl) hN ?_
          refine bw_aload_n 49 dX10_mul_48 rfl rfl ?_
          refine bw_get 52 dX10_mul_49 rfl lX10_81 (hC.at 0 rfl) hp ?_
          refine bw_ior 53 dX10_mul_52 rfl ?_
          refine bw_eqi (xn_or (2 ^ n) p) ?_
          refine bw_ixor 54 dX10_mul_53 rfl ?_
          refine bw_eqi (xn_xor (2 * x) (2 ^ n ||| p)) ?_
          refine bw_istore 56 dX10_mul_54 rfl (by decide) ?_
          refine bw_iload 58 dX10_mul_56 rfl rfl ?_
          refine bw_iconst (1) 59 dX10_mul_58 (by decide) rfl ?_
          refine bw_ishr 60 dX10_mul_59 rfl ?_
          refine bw_eqi (xn_shr1 (by omega)) ?_
          refine bw_istore 62 dX10_mul_60 rfl (by decide) ?_
          refine bw_goto 8 dX10_mul_62 rfl ?_
          refine bw_loc [(0, .ref M), (3, _), (4, _), (5, _)] ⟨rfl, rfl, rfl, rfl, trivial⟩ ?_
          exact ih _ _ _ hb2 (by omega) hgx hr hz
      · rw [if_pos ((xn_eq1 (by omega)).mp c18)] at hz
        have hr := xor_lt hr hx
        refine bw_iload_n 22 dX10_mul_21 rfl rfl ?_
        refine bw_iload 24 dX10_mul_22 rfl rfl ?_
        refine bw_ixor 25 dX10_mul_24 rfl ?_
        refine bw_eqi (xn_xor r x) ?_
        refine bw_istore_n 26 dX10_mul_25 rfl (by decide) ?_
        refine bw_iload 28 dX10_mul_26 rfl rfl ?_
        refine bw_iconst (1) 29 dX10_mul_28 (by decide) rfl ?_
        refine bw_ishl 30 dX10_mul_29 rfl ?_
        refine bw_eqi (xn_shl1 (by omega)) ?_
        refine bw_istore 32 dX10_mul_30 rfl (by decide) ?_
        refine bw_iload 34 dX10_mul_32 rfl rfl ?_
        refine bw_aload_n 35 dX10_mul_34 rfl rfl ?_
        refine bw_get 38 dX10_mul_35 rfl lX10_78 (hC.at 0 rfl) hN ?_
        refine bw_iand 39 dX10_mul_38 rfl ?_
        refine bw_eqi (xn_and (2 * x) (2 ^ n)) ?_
        refine bw_if_eq 56 42 dX10_mul_39 rfl rfl (fun c39 => ?_) (fun c39 => ?_)
        · have h2 : 2 * x < 2 ^ n := (and_top hx).mp ((xn_eq0 (Nat.lt_of_le_of_lt Nat.and_le_right (by omega))).mp c39)
          have hg : gx (2 ^ n) (2 ^ n ||| p) x = 2 * x := if_pos h2
          rw [hg] at hz hgx
          refine bw_iload 58 dX10_mul_56 rfl rfl ?_
          refine bw_iconst (1) 59 dX10_mul_58 (by decide) rfl ?_
          refine bw_ishr 60 dX10_mul_59 rfl ?_
          refine bw_eqi (xn_shr1 (by omega)) ?_
          refine bw_istore 62 dX10_mul_60 rfl (by decide) ?_
          refine bw_goto 8 dX10_mul_62 rfl ?_
          refine bw_loc [(0, .ref M), (3, _), (4, _), (5, _)] ⟨rfl, rfl, rfl, rfl, trivial⟩ ?_
          exact ih _ _ _ hb2 (by omega) hgx hr hz
        · have h2 : ¬ 2 * x < 2 ^ n := fun h => c39 ((xn_eq0 (Nat.lt_of_le_of_lt Nat.and_le_right (by omega))).mpr ((and_top hx).mpr h))
          have hg : gx (2 ^ n) (2 ^ n ||| p) x = (2 * x) ^^^ (2 ^ n ||| p) := if_neg h2
          rw [hg] at hz hgx
          refine bw_iload 44 dX10_mul_42 rfl rfl ?_
          refine bw_aload_n 45 dX10_mul_44 rfl rfl ?_
          refine bw_get 48 dX10_mul_45 rfl lX10_78 (hC.at 0 rfl) hN ?_
          refine bw_aload_n 49 dX10_mul_48 rfl rfl ?_
          refine bw_get 52 dX10_mul_49 rfl lX10_81 (hC.at 0 rfl) hp ?_
          refine bw_ior 53 dX10_mul_52 rfl ?_
          refine bw_eqi (xn_or (2 ^ n) p) ?_
          refine bw_ixor 54 dX10_mul_53 rfl ?_
          refine bw_eqi (xn_xor (2 * x) (2 ^ n ||| p)) ?_
          refine bw_istore 56 dX10_mul_54 rfl (by decide) ?_
          refine bw_iload 58 dX10_mul_56 rfl rfl ?_
          refine bw_iconst (1) 59 dX10_mul_58 (by decide) rfl ?_
          refine bw_ishr 60 dX10_mul_59 rfl ?_
          refine bw_eqi (xn_shr1 (by omega)) ?_
          refine bw_istore 62 dX10_mul_60 rfl (by decide) ?_
          refine bw_goto 8 dX10_mul_62 rfl ?_
          refine bw_loc [(0, .ref M), (3, _), (4, _), (5, _)] ⟨rfl, rfl, rfl, rfl, trivial⟩ ?_
          exact ih _ _ _ hb2 (by omega) hgx hr hz
theorem gq_le (n p : Nat) : 2 ^ n ≤ 2 ^ n ||| p := Nat.left_le_or
theorem gq_lt {n p : Nat} (h : p < 2 ^ n) : 2 ^ n ||| p < 2 ^ (n + 1) := Nat.or_lt_two_pow (Nat.pow_lt_pow_right (by omega) (by omega)) (Nat.lt_of_lt_of_le h (Nat.pow_le_pow_right (by omega) (by omega)))
set_option maxHeartbeats 4000000 in
set_option maxRecDepth 100000 in
theorem c10_mul (g : bw_G) {A : bw_H} {M n p a b : Nat} {ms : List Value} (hn : n ≤ 16) (hC : bw_has A [(M, .inr (12, ms))]) (hN : ms[2]? = some (.int (nI (2 ^ n)))) (hp : ms[1]? = some (.int (nI p))) (hpl : p < 2 ^ n) (ha : a < 2 ^ n) (hb : b < 2 ^ n) :
    bw_C g (bw_rm 0 0 0) mX10_mul [.ref M, .int (nI a), .int (nI b)] A (bw_pi (nI (gm n (2 ^ n ||| p) a b)) A) := by
  refine bw_C.of (by decide) (Nat.le_of_ble_eq_true rfl) rfl ?_
  refine bw_iconst (0) 1 dX10_mul_0 (by decide) rfl ?_
  refine bw_istore_n 2 dX10_mul_1 rfl (by decide) ?_
  refine bw_iload_n 3 dX10_mul_2 rfl rfl ?_
  refine bw_istore 5 dX10_mul_3 rfl (by decide) ?_
  refine bw_iload_n 6 dX10_mul_5 rfl rfl ?_
  refine bw_istore 8 dX10_mul_6 rfl (by decide) ?_
  refine bw_loc [(0, .ref M), (3, _), (4, _), (5, _)] ⟨rfl, rfl, rfl, rfl, trivial⟩ ?_
  exact c10_mul_loop g hn hC hN hp (gq_lt hpl) (gq_le n p) _ n b a 0 hb hn ha (Nat.two_pow_pos n) rfl
/-- powers by squares: the bits of k, from the lowest on -/
def gpl (n q : Nat) : Nat → Nat → Nat → Nat → Nat
  | 0, _, _, r => r
  | j + 1, k, x, r => gpl n q j (k / 2) (gm n q x x) (if k % 2 = 1 then gm n q r x else r)
def gp (n q a k : Nat) : Nat := gpl n q 31 k a 1
theorem gpl_0 (n q : Nat) : ∀ (j x r : Nat), gpl n q j 0 x r = r
  | 0, _, _ => rfl
  | j + 1, x, r => by
    show gpl n q j (0 / 2) (gm n q x x) (if 0 % 2 = 1 then gm n q r x else r) = r
    rw [Nat.zero_div]
    exact gpl_0 n q j _ r
set_option maxHeartbeats 4000000 in
set_option maxRecDepth 100000 in
theorem c10_raised_loop (g : bw_G) {A : bw_H} {M n p : Nat} {ms : List Value} (hn : n ≤ 16) (hC : bw_has A [(M, .inr (12, ms))]) (hN : ms[2]? = some (.int (nI (2 ^ n)))) (hp : ms[1]? = some (.int (nI p))) (hpl : p < 2 ^ n) (z : Nat) :
    ∀ (j k x r : Nat), k < 2 ^ j → j ≤ 31 → x < 2 ^ n → r < 2 ^ n → gpl n (2 ^ n ||| p) j k x r = z → bw_W g (bw_rm 1 0 0) mX10_raised (bw_pi (nI z) A) 0 0 8 [(0, .ref M), (3, .int (nI r)), (4, .int (nI x)), (5, .int (nI k))] [] A := by
  intro j
  induction j with
  | zero =>
    intro k x r hk hj hx hr hz
    have hk0 : k = 0 := by simpa using hk
    subst hk0
    have hz : r = z := hz
    subst hz
    refine bw_iload 10 dX10_raised_8 rfl rfl ?_
    refine bw_if_le 48 13 dX10_raised_10 rfl rfl (fun c10 => ?_) (fun c10 => ?_)
    · skip
      refine bw_iload_n 49 dX10_raised_48 rfl rfl ?_
      refine bw_iret dX10_raised_49 rfl (Nat.le_of_ble_eq_true rfl) (Nat.le_of_ble_eq_true rfl) ?_
      exact ⟨rfl, rfl⟩
    · exact absurd ((xn_le0 (by omega)).mpr rfl) c10
  | succ j ih =>
    intro k x r hk hj hx hr hz
    have hj2 : 2 ^ (j + 1) ≤ 2 ^ 31 := Nat.pow_le_pow_right (by omega) hj
    have hk2 : k / 2 < 2 ^ j := by rw [Nat.pow_succ] at hk; omega
    have hxx := gm_lt (b := x) (gq_le n p) (gq_lt hpl) hx
    refine bw_iload 10 dX10_raised_8 rfl rfl ?_
    refine bw_if_le 48 13 dX10_raised_10 rfl rfl (fun c10 => ?_) (fun c10 => ?_)
    · have hk0 : k = 0 := (xn_le0 (by omega)).mp c10
      subst hk0
      rw [gpl_0] at hz
      have hz : r = z := hz
      subst hz
      refine bw_iload_n 49 dX10_raised_48 rfl rfl ?_
      refine bw_iret dX10_raised_49 rfl (Nat.le_of_ble_eq_true rfl) (Nat.le_of_ble_eq_true rfl) ?_
      exact ⟨rfl, rfl⟩
    · have hz : gpl n (2 ^ n ||| p) j (k / 2) (gm n (2 ^ n ||| p) x x) (if k % 2 = 1 then gm n (2 ^ n ||| p) r x else r) = z := hz
      refine bw_iload 15 dX10_raised_13 rfl rfl ?_
      refine bw_iconst (1) 16 dX10_raised_15 (by decide) rfl ?_
      refine bw_iand 17 dX10_raised_16 rfl ?_
      refine bw_eqi (xn_and1 k) ?_
      refine bw_iconst (1) 18 dX10_raised_17 (by decide) rfl ?_
      refine bw_icmp_ne 29 21 dX10_raised_18 rfl rfl (fun c18 => ?_) (fun c18 => ?_)
      · rw [if_neg (fun h => c18 ((xn_eq1 (by omega)).mpr h))] at hz
        refine bw_aload_n 30 dX10_raised_29 rfl rfl ?_
        refine bw_iload 32 dX10_raised_30 rfl rfl ?_
        refine bw_iload 34 dX10_raised_32 rfl rfl ?_
        refine bw_cVi 37 dX10_raised_34 rfl vX10_102 (c10_mul g hn hC hN hp hpl hx hx) (hC.at 0 rfl) rfl rfl (Nat.le_of_ble_eq_true rfl) ⟨(Nat.le_of_ble_eq_true rfl), (Nat.le_of_ble_eq_true rfl)⟩ (Nat.le_of_ble_eq_true rfl) (Nat.le_of_ble_eq_true rfl) ?_
        refine bw_istore 39 dX10_raised_37 rfl (by decide) ?_
        refine bw_iload 41 dX10_raised_39 rfl rfl ?_
        refine bw_iconst (1) 42 dX10_raised_41 (by decide) rfl ?_
        refine bw_ishr 43 dX10_raised_42 rfl ?_
        refine bw_eqi (xn_shr1 (by omega)) ?_
        refine bw_istore 45 dX10_raised_43 rfl (by decide) ?_
        refine bw_goto 8 dX10_raised_45 rfl ?_
        refine bw_loc [(0, .ref M), (3, _), (4, _), (5, _)] ⟨rfl, rfl, rfl, rfl, trivial⟩ ?_
        exact ih _ _ _ hk2 (by omega) hxx (by assumption) hz
      · rw [if_pos ((xn_eq1 (by omega)).mp c18)] at hz
        have hr2 := gm_lt (b := x) (gq_le n p) (gq_lt hpl) hr
        refine bw_aload_n 22 dX10_raised_21 rfl rfl ?_
        refine bw_iload_n 23 dX10_raised_22 rfl rfl ?_
        refine bw_iload 25 dX10_raised_23 rfl rfl ?_
        refine bw_cVi 28 dX10_raised_25 rfl vX10_102 (c10_mul g hn hC hN hp hpl hr hx) (hC.at 0 rfl) rfl rfl (Nat.le_of_ble_eq_true rfl) ⟨(Nat.le_of_ble_eq_true rfl), (Nat.le_of_ble_eq_true rfl)⟩ (Nat.le_of_ble_eq_true rfl) (Nat.le_of_ble_eq_true rfl) ?_
        refine bw_istore_n 29 dX10_raised_28 rfl (by decide) ?_
        refine bw_aload_n 30 dX10_raised_29 rfl rfl ?_
        refine bw_iload 32 dX10_raised_30 rfl rfl ?_
        refine bw_iload 34 dX10_raised_32 rfl rfl ?_
        refine bw_cVi 37 dX10_raised_34 rfl vX10_102 (c10_mul g hn hC hN hp hpl hx hx) (hC.at 0 rfl) rfl rfl (Nat.le_of_ble_eq_true rfl) ⟨(Nat.le_of_ble_eq_true rfl), (Nat.le_of_ble_eq_true rfl)⟩ (Nat.le_of_ble_eq_true rfl) (Nat.le_of_ble_eq_true rfl) ?_
        refine bw_istore 39 dX10_raised_37 rfl (by decide) ?_
        refine bw_iload 41 dX10_raised_39 rfl rfl ?_
        refine bw_iconst (1) 42 dX10_raised_41 (by decide) rfl ?_
        refine bw_ishr 43 dX10_raised_42 rfl ?_
        refine bw_eqi (xn_shr1 (by omega)) ?_
        refine bw_istore 45 dX10_raised_43 rfl (by decide) ?_
        refine bw_goto 8 dX10_raised_45 rfl ?_
        refine bw_loc [(0, .ref M), (3, _), (4, _), (5, _)] ⟨rfl, rfl, rfl, rfl, trivial⟩ ?_
        exact ih _ _ _ hk2 (by omega) hxx (by assumption) hz
set_option maxHeartbeats 4000000 in
set_option maxRecDepth 100000 in
theorem c10_raised (g : bw_G) {A : bw_H} {M n p a k : Nat} {ms : List Value} (hn : n ≤ 16) (hC : bw_has A [(M, .inr (12, ms))]) (hN : ms[2]? = some (.int (nI (2 ^ n)))) (hp : ms[1]? = some (.int (nI p))) (hpl : p < 2 ^ n) (ha : a < 2 ^ n) (hk : k < 2 ^ 31) (h1 : 1 < 2 ^ n) :
    bw_C g (bw_rm 1 0 0) mX10_raised [.ref M, .int (nI a), .int (nI k)] A (bw_pi (nI (gp n (2 ^ n ||| p) a k)) A) := by
  refine bw_C.of (by decide) (Nat.le_of_ble_eq_true rfl) rfl ?_
  refine bw_iconst (1) 1 dX10_raised_0 (by decide) rfl ?_
  refine bw_istore_n 2 dX10_raised_1 rfl (by decide) ?_
  refine bw_iload_n 3 dX10_raised_2 rfl rfl ?_
  refine bw_istore 5 dX10_raised_3 rfl (by decide) ?_
  refine bw_iload_n 6 dX10_raised_5 rfl rfl ?_
  refine bw_istore 8 dX10_raised_6 rfl (by decide) ?_
  refine bw_loc [(0, .ref M), (3, _), (4, _), (5, _)] ⟨rfl, rfl, rfl, rfl, trivial⟩ ?_
  exact c10_raised_loop g hn hC hN hp hpl _ 31 k a 1 hk (Nat.le_refl _) ha h1 rfl
set_option maxHeartbeats 4000000 in
set_option maxRecDepth 100000 in
theorem c10_inverse (g : bw_G) {A : bw_H} {M n p a : Nat} {ms : List Value} (hn : n ≤ 16) (hC : bw_has A [(M, .inr (12, ms))]) (hN : ms[2]? = some (.int (nI (2 ^ n)))) (hp : ms[1]? = some (.int (nI p))) (hpl : p < 2 ^ n) (ha : a < 2 ^ n) (h1 : 1 < 2 ^ n) :
    bw_C g (bw_rm 2 0 0) mX10_inverse [.ref M, .int (nI a)] A (bw_pi (nI (gp n (2 ^ n ||| p) a (2 ^ n - 2))) A) := by
  have hn2 : 2 ^ n ≤ 2 ^ 16 := Nat.pow_le_pow_right (by omega) hn
  refine bw_C.of (by decide) (Nat.le_of_ble_eq_true rfl) rfl ?_
  refine bw_aload_n 1 dX10_inverse_0 rfl rfl ?_
  refine bw_iload_n 2 dX10_inverse_1 rfl rfl ?_
  refine bw_aload_n 3 dX10_inverse_2 rfl rfl ?_
  refine bw_get 6 dX10_inverse_3 rfl lX10_78 (hC.at 0 rfl) hN ?_
  refine bw_iconst (2) 7 dX10_inverse_6 (by decide) rfl ?_
  refine bw_isub 8 dX10_inverse_7 rfl ?_
  refine bw_eqi (pk_sub (a := 2 ^ n) (b := 2) (by omega)) ?_
  refine bw_cVi 11 dX10_inverse_8 rfl vX10_105 (c10_raised g hn hC hN hp hpl ha (by omega) h1) (hC.at 0 rfl) rfl rfl (Nat.le_of_ble_eq_true rfl) ⟨(Nat.le_of_ble_eq_true rfl), (Nat.le_of_ble_eq_true rfl)⟩ (Nat.le_of_ble_eq_true rfl) (Nat.le_of_ble_eq_true rfl) ?_
  refine bw_iret dX10_inverse_11 rfl (Nat.le_of_ble_eq_true rfl) (Nat.le_of_ble_eq_true rfl) ?_
  exact ⟨rfl, rfl⟩
def gfac (k : Nat) : Nat := if k = 0 then 3 else if k = 1 then 5 else if k = 2 then 17 else 257
set_option maxHeartbeats 4000000 in
set_option maxRecDepth 100000 in
theorem c10_factor (g : bw_G) {A : bw_H} {k : Nat} (hk31 : k < 2 ^ 31) : bw_C g (bw_rm 0 0 0) mX10_factor [.int (nI k)] A (bw_pi (nI (gfac k)) A) := by
  refine bw_C.of (by decide) (Nat.le_of_ble_eq_true rfl) rfl ?_
  refine bw_iload_n 1 dX10_factor_0 rfl rfl ?_
  refine bw_if_ne 8 4 dX10_factor_1 rfl rfl (fun c1 => ?_) (fun c1 => ?_)
  · have hk : k ≠ 0 := fun h => c1 ((xn_eq0 (by omega)).mpr h)
    refine bw_iload_n 9 dX10_factor_8 rfl rfl ?_
    refine bw_iconst (1) 10 dX10_factor_9 (by decide) rfl ?_
    refine bw_icmp_ne 17 13 dX10_factor_10 rfl rfl (fun c10 => ?_) (fun c10 => ?_)
    · have hk1 : k ≠ 1 := fun h => c10 ((xn_eq1 (by omega)).mpr h)
      refine bw_iload_n 18 dX10_factor_17 rfl rfl ?_
      refine bw_iconst (2) 19 dX10_factor_18 (by decide) rfl ?_
      refine bw_icmp_ne 27 22 dX10_factor_19 rfl rfl (fun c19 => ?_) (fun c19 => ?_)
      · have hk2 : k ≠ 2 := fun h => c19 ((nI_eq (b := 2) (by omega) (by omega)).mpr h)
        refine bw_sipush (257) 30 dX10_factor_27 (by decide) rfl ?_
        refine bw_iret dX10_factor_30 rfl (Nat.le_of_ble_eq_true rfl) (Nat.le_of_ble_eq_true rfl) ?_
        refine ⟨?_, rfl⟩
        first | (subst hk; rfl) | (unfold gfac; rw [if_neg hk, if_neg hk1, if_neg hk2]; rfl)
      · have hk : k = 2 := (nI_eq (b := 2) (by omega) (by omega)).mp c19
        refine bw_bipush (17) 24 dX10_factor_22 (by decide) rfl ?_
        refine bw_goto 30 dX10_factor_24 rfl ?_
        refine bw_iret dX10_factor_30 rfl (Nat.le_of_ble_eq_true rfl) (Nat.le_of_ble_eq_true rfl) ?_
        refine ⟨?_, rfl⟩
        first | (subst hk; rfl) | (unfold gfac; rw [if_neg hk, if_neg hk1, if_neg hk2]; rfl)
    · have hk : k = 1 := (xn_eq1 (by omega)).mp c10
      refine bw_iconst (5) 14 dX10_factor_13 (by decide) rfl ?_
      refine bw_goto 30 dX10_factor_14 rfl ?_
      refine bw_iret dX10_factor_30 rfl (Nat.le_of_ble_eq_true rfl) (Nat.le_of_ble_eq_true rfl) ?_
      refine ⟨?_, rfl⟩
      first | (subst hk; rfl) | (unfold gfac; rw [if_neg hk, if_neg hk1, if_neg hk2]; rfl)
  · have hk : k = 0 := (xn_eq0 (by omega)).mp c1
    refine bw_iconst (3) 5 dX10_factor_4 (by decide) rfl ?_
    refine bw_goto 30 dX10_factor_5 rfl ?_
    refine bw_iret dX10_factor_30 rfl (Nat.le_of_ble_eq_true rfl) (Nat.le_of_ble_eq_true rfl) ?_
    refine ⟨?_, rfl⟩
    first | (subst hk; rfl) | (unfold gfac; rw [if_neg hk, if_neg hk1, if_neg hk2]; rfl)
