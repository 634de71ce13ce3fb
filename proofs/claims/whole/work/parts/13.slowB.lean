/-! the class's Field: the polynomial, products by shifts, the generator -/
theorem xn_mask {a n : Nat} (hn : n ≤ 16) (ha : a < 2 ^ 32) : nI a &&& nI (2 ^ n - 1) = nI (a % 2 ^ n) := by
  have : 2 ^ n ≤ 2 ^ 16 := Nat.pow_le_pow_right (by omega) hn
  exact pk_andN ha n (pk_tn (by omega))
set_option maxHeartbeats 4000000 in
set_option maxRecDepth 100000 in
theorem c3_firstUnsplit_loop (g : bw_G) {A : bw_H} {n s j0 : Nat} (hn : n ≤ 16) (hn2 : 2 ≤ n) (hs : s < 2 ^ n) (hj0 : j0 < 2 ^ n) (h0 : bpr (2 ^ n ||| ((s + j0) % 2 ^ n)) (n / 2 + 1)) (h1 : ∀ i, i < j0 → ¬ bpr (2 ^ n ||| ((s + i) % 2 ^ n)) (n / 2 + 1)) :
    ∀ (r j : Nat), j + r = j0 → bw_W g (bw_rm 4 0 0) mX3_firstUnsplit (bw_pi (nI ((s + j0) % 2 ^ n)) A) 0 0 6 [(0, .int (nI n)), (1, .int (nI s)), (2, .int (nI (2 ^ n))), (3, .int (nI j))] [] A := by
  have h16 : 2 ^ n ≤ 2 ^ 16 := Nat.pow_le_pow_right (by omega) hn
  have hm : ∀ x : Nat, x % 2 ^ n < 2 ^ n := fun x => Nat.mod_lt x (Nat.two_pow_pos n)
  intro r
  induction r with
  | zero =>
    intro j hj
    have hj : j = j0 := by omega
    subst hj
    refine bw_iload_n 7 dX3_firstUnsplit_6 rfl rfl ?_
    refine bw_iload_n 8 dX3_firstUnsplit_7 rfl rfl ?_
    refine bw_icmp_ge 40 11 dX3_firstUnsplit_8 rfl rfl (fun c8 => ?_) (fun c8 => ?_)
    · exact absurd c8 (nI_ge (by omega) (by omega))
    · refine bw_iload_n 12 dX3_firstUnsplit_11 rfl rfl ?_
      refine bw_iload_n 13 dX3_firstUnsplit_12 rfl rfl ?_
      refine bw_iadd 14 dX3_firstUnsplit_13 rfl ?_
      refine bw_eqi (nI_add s j) ?_
      refine bw_iload_n 15 dX3_firstUnsplit_14 rfl rfl ?_
      refine bw_iconst (1) 16 dX3_firstUnsplit_15 (by decide) rfl ?_
      refine bw_isub 17 dX3_firstUnsplit_16 rfl ?_
      refine bw_eqi (pk_sub (a := 2 ^ n) (b := 1) (by omega)) ?_
      refine bw_iand 18 dX3_firstUnsplit_17 rfl ?_
      refine bw_eqi (xn_mask hn (by omega)) ?_
      refine bw_istore 20 dX3_firstUnsplit_18 rfl (by decide) ?_
      refine bw_iload_n 21 dX3_firstUnsplit_20 rfl rfl ?_
      refine bw_iload 23 dX3_firstUnsplit_21 rfl rfl ?_
      refine bw_ior 24 dX3_firstUnsplit_23 rfl ?_
      refine bw_eqi (xn_or (2 ^ n) ((s + j) % 2 ^ n)) ?_
      refine bw_iload_n 25 dX3_firstUnsplit_24 rfl rfl ?_
      refine bw_cSi 28 dX3_firstUnsplit_25 rfl sX3_40 (c3_splits g (z := 0) hn hn2 (gq_le n _) (gq_lt (hm _)) (Or.inl ⟨rfl, h0⟩)) rfl rfl (Nat.le_of_ble_eq_true rfl) ⟨(Nat.le_of_ble_eq_true rfl), (Nat.le_of_ble_eq_true rfl)⟩ (Nat.le_of_ble_eq_true rfl) (Nat.le_of_ble_eq_true rfl) ?_
      refine bw_if_ne 34 31 dX3_firstUnsplit_28 rfl rfl (fun c28 => ?_) (fun c28 => ?_)
      · exact absurd rfl c28
      · refine bw_iload 33 dX3_firstUnsplit_31 rfl rfl ?_
        refine bw_iret dX3_firstUnsplit_33 rfl (Nat.le_of_ble_eq_true rfl) (Nat.le_of_ble_eq_true rfl) ?_
        exact ⟨rfl, rfl⟩
  | succ r ih =>
    intro j hj
    refine bw_iload_n 7 dX3_firstUnsplit_6 rfl rfl ?_
    refine bw_iload_n 8 dX3_firstUnsplit_7 rfl rfl ?_
    refine bw_icmp_ge 40 11 dX3_firstUnsplit_8 rfl rfl (fun c8 => ?_) (fun c8 => ?_)
    · exact absurd c8 (nI_ge (by omega) (by omega))
    · refine bw_iload_n 12 dX3_firstUnsplit_11 rfl rfl ?_
      refine bw_iload_n 13 dX3_firstUnsplit_12 rfl rfl ?_
      refine bw_iadd 14 dX3_firstUnsplit_13 rfl ?_
      refine bw_eqi (nI_add s j) ?_
      refine bw_iload_n 15 dX3_firstUnsplit_14 rfl rfl ?_
      refine bw_iconst (1) 16 dX3_firstUnsplit_15 (by decide) rfl ?_
      refine bw_isub 17 dX3_firstUnsplit_16 rfl ?_
      refine bw_eqi (pk_sub (a := 2 ^ n) (b := 1) (by omega)) ?_
      refine bw_iand 18 dX3_firstUnsplit_17 rfl ?_
      refine bw_eqi (xn_mask hn (by omega)) ?_
      refine bw_istore 20 dX3_firstUnsplit_18 rfl (by decide) ?_
      refine bw_iload_n 21 dX3_firstUnsplit_20 rfl rfl ?_
      refine bw_iload 23 dX3_firstUnsplit_21 rfl rfl ?_
      refine bw_ior 24 dX3_firstUnsplit_23 rfl ?_
      refine bw_eqi (xn_or (2 ^ n) ((s + j) % 2 ^ n)) ?_
      refine bw_iload_n 25 dX3_firstUnsplit_24 rfl rfl ?_
      refine bw_cSi 28 dX3_firstUnsplit_25 rfl sX3_40 (c3_splits g (z := 1) hn hn2 (gq_le n _) (gq_lt (hm _)) (Or.inr ⟨rfl, h1 j (by omega)⟩)) rfl rfl (Nat.le_of_ble_eq_true rfl) ⟨(Nat.le_of_ble_eq_true rfl), (Nat.le_of_ble_eq_true rfl)⟩ (Nat.le_of_ble_eq_true rfl) (Nat.le_of_ble_eq_true rfl) ?_
      refine bw_if_ne 34 31 dX3_firstUnsplit_28 rfl rfl (fun c28 => ?_) (fun c28 => ?_)
      · skip
        refine bw_iincN (1) 37 dX3_firstUnsplit_34 rfl rfl (by decide) (by decide) ?_
        refine bw_goto 6 dX3_firstUnsplit_37 rfl ?_
        refine bw_loc [(0, .int (nI n)), (1, .int (nI s)), (2, .int (nI (2 ^ n))), (3, .int (nI (j + 1)))] ⟨rfl, rfl, rfl, congrArg (fun x => some (Value.int x)) (nI_1 j), trivial⟩ ?_
        exact ih (j + 1) (by omega)
      · exact absurd c28 (by decide)
set_option maxHeartbeats 4000000 in
set_option maxRecDepth 100000 in
theorem c3_firstUnsplit (g : bw_G) {A : bw_H} {n s j0 : Nat} (hn : n ≤ 16) (hn2 : 2 ≤ n) (hs : s < 2 ^ n) (hj0 : j0 < 2 ^ n) (h0 : bpr (2 ^ n ||| ((s + j0) % 2 ^ n)) (n / 2 + 1)) (h1 : ∀ i, i < j0 → ¬ bpr (2 ^ n ||| ((s + i) % 2 ^ n)) (n / 2 + 1)) :
    bw_C g (bw_rm 4 0 0) mX3_firstUnsplit [.int (nI n), .int (nI s)] A (bw_pi (nI ((s + j0) % 2 ^ n)) A) := by
  have h16 : 2 ^ n ≤ 2 ^ 16 := Nat.pow_le_pow_right (by omega) hn
  refine bw_C.of (by decide) (Nat.le_of_ble_eq_true rfl) rfl ?_
  refine bw_iconst (1) 1 dX3_firstUnsplit_0 (by decide) rfl ?_
  refine bw_iload_n 2 dX3_firstUnsplit_1 rfl rfl ?_
  refine bw_ishl 3 dX3_firstUnsplit_2 rfl ?_
  refine bw_eqi ((xn_shl (a := 1) n (by omega) (by omega)).trans (congrArg nI (Nat.one_mul _))) ?_
  refine bw_istore_n 4 dX3_firstUnsplit_3 rfl (by decide) ?_
  refine bw_iconst (0) 5 dX3_firstUnsplit_4 (by decide) rfl ?_
  refine bw_istore_n 6 dX3_firstUnsplit_5 rfl (by decide) ?_
  refine bw_loc [(0, .int (nI n)), (1, .int (nI s)), (2, .int (nI (2 ^ n))), (3, .int (nI 0))] ⟨rfl, rfl, rfl, rfl, trivial⟩ ?_
  exact c3_firstUnsplit_loop g hn hn2 hs hj0 h0 h1 j0 0 (by omega)
set_option maxHeartbeats 4000000 in
set_option maxRecDepth 100000 in
theorem c3_slowProduct_loop (g : bw_G) {A : bw_H} {F n p b : Nat} {fs : List Value} (hn : n ≤ 16) (hC : bw_has A [(F, .inr (5, fs))]) (hb : fs[0]? = some (.int (nI n))) (hN : fs[1]? = some (.int (nI (2 ^ n)))) (hp : fs[3]? = some (.int (nI p))) (hq2 : 2 ^ n ||| p < 2 ^ (n + 1)) (hq : 2 ^ n ≤ 2 ^ n ||| p) (hbl : b < 2 ^ n) (z : Nat) :
    ∀ (j k x r : Nat), k + j = n → x < 2 ^ n → r < 2 ^ n → gml (2 ^ n) (2 ^ n ||| p) j (b / 2 ^ k) x r = z → bw_W g (bw_rm 0 0 0) mX3_slowProduct (bw_pi (nI z) A) 0 0 8 [(0, .ref F), (2, .int (nI b)), (3, .int (nI r)), (4, .int (nI x)), (5, .int (nI k))] [] A := by
  have hn2 : 2 ^ n ≤ 2 ^ 16 := Nat.pow_le_pow_right (by omega) hn
  intro j
  induction j with
  | zero =>
    intro k x r hk hx hr hz
    have hz : r = z := hz
    subst hz
    refine bw_iload 10 dX3_slowProduct_8 rfl rfl ?_
    refine bw_aload_n 11 dX3_slowProduct_10 rfl rfl ?_
    refine bw_get 14 dX3_slowProduct_11 rfl lX3_7 (hC.at 0 rfl) hb ?_
    refine bw_icmp_ge 73 17 dX3_slowProduct_14 rfl rfl (fun c14 => ?_) (fun c14 => ?_)
    · refine bw_iload_n 74 dX3_slowProduct_73 rfl rfl ?_
      refine bw_iret dX3_slowProduct_74 rfl (Nat.le_of_ble_eq_true rfl) (Nat.le_of_ble_eq_true rfl) ?_
      exact ⟨rfl, rfl⟩
    · exact absurd (nI_le (by omega) (by omega)) c14
  | succ j ih =>
    intro k x r hk hx hr hz
    have hz0 := hz
    have hz : gml (2 ^ n) (2 ^ n ||| p) j (b / 2 ^ k / 2) (gx (2 ^ n) (2 ^ n ||| p) x) (if b / 2 ^ k % 2 = 1 then r ^^^ x else r) = z := hz
    rw [show b / 2 ^ k / 2 = b / 2 ^ (k + 1) by rw [Nat.pow_succ, Nat.div_div_eq_div_mul]] at hz
    have hgx := gx_lt (n := n) hq hq2 hx
    have hbk : b / 2 ^ k < 2 ^ 31 := Nat.lt_of_le_of_lt (Nat.div_le_self _ _) (by omega)
    refine bw_iload 10 dX3_slowProduct_8 rfl rfl ?_
    refine bw_aload_n 11 dX3_slowProduct_10 rfl rfl ?_
    refine bw_get 14 dX3_slowProduct_11 rfl lX3_7 (hC.at 0 rfl) hb ?_
    refine bw_icmp_ge 73 17 dX3_slowProduct_14 rfl rfl (fun c14 => ?_) (fun c14 => ?_)
    · exact absurd c14 (nI_ge (by omega) (by omega))
    · skip
      refine bw_iload_n 18 dX3_slowProduct_17 rfl rfl ?_
      refine bw_iload 20 dX3_slowProduct_18 rfl rfl ?_
      refine bw_ishr 21 dX3_slowProduct_20 rfl ?_
      refine bw_eqi (xn_shr k (by omega) (by omega)) ?_
      refine bw_if_eq 73 24 dX3_slowProduct_21 rfl rfl (fun c21 => ?_) (fun c21 => ?_)
      · have hb0 : b / 2 ^ k = 0 := (xn_eq0 hbk).mp c21
        rw [hb0, gml_0] at hz0
        subst hz0
        refine bw_iload_n 74 dX3_slowProduct_73 rfl rfl ?_
        refine bw_iret dX3_slowProduct_74 rfl (Nat.le_of_ble_eq_true rfl) (Nat.le_of_ble_eq_true rfl) ?_
        exact ⟨rfl, rfl⟩
      · refine bw_iload_n 25 dX3_slowProduct_24 rfl rfl ?_
        refine bw_iload 27 dX3_slowProduct_25 rfl rfl ?_
        refine bw_ishr 28 dX3_slowProduct_27 rfl ?_
        refine bw_eqi (xn_shr k (by omega) (by omega)) ?_
        refine bw_iconst (1) 29 dX3_slowProduct_28 (by decide) rfl ?_
        refine bw_iand 30 dX3_slowProduct_29 rfl ?_
        refine bw_eqi (xn_and1 (b / 2 ^ k)) ?_
        refine bw_if_eq 38 33 dX3_slowProduct_30 rfl rfl (fun c30 => ?_) (fun c30 => ?_)
        · rw [if_neg (fun h => by rw [h] at c30; exact absurd c30 (by decide))] at hz
          refine bw_iload 40 dX3_slowProduct_38 rfl rfl ?_
          refine bw_iconst (1) 41 dX3_slowProduct_40 (by decide) rfl ?_
          refine bw_ishl 42 dX3_slowProduct_41 rfl ?_
          refine bw_eqi (xn_shl1 (by omega)) ?_
          refine bw_istore 44 dX3_slowProduct_42 rfl (by decide) ?_
          refine bw_iload 46 dX3_slowProduct_44 rfl rfl ?_
          refine bw_aload_n 47 dX3_slowProduct_46 rfl rfl ?_
          refine bw_get 50 dX3_slowProduct_47 rfl lX3_13 (hC.at 0 rfl) hN ?_
          refine bw_icmp_lt 67 53 dX3_slowProduct_50 rfl rfl (fun c50 => ?_) (fun c50 => ?_)
          · have h2 : 2 * x < 2 ^ n := (nI_ltI (by omega) (by omega)).mp c50
            have hg : gx (2 ^ n) (2 ^ n ||| p) x = 2 * x := if_pos h2
            rw [hg] at hz hgx
            refine bw_iincN (1) 70 dX3_slowProduct_67 rfl rfl (by decide) (by decide) ?_
            refine bw_goto 8 dX3_slowProduct_70 rfl ?_
            refine bw_loc [(0, .ref F), (2, .int (nI b)), (3, _), (4, _), (5, .int (nI (k + 1)))] ⟨rfl, rfl, rfl, rfl, congrArg (fun x => some (Value.int x)) (nI_1 k), trivial⟩ ?_
            exact ih _ _ _ (by omega) hgx (by assumption) hz
          · have h2 : ¬ 2 * x < 2 ^ n := fun h => c50 ((nI_ltI (by omega) (by omega)).mpr h)
            have hg : gx (2 ^ n) (2 ^ n ||| p) x = (2 * x) ^^^ (2 ^ n ||| p) := if_neg h2
            rw [hg] at hz hgx
            refine bw_iload 55 dX3_slowProduct_53 rfl rfl ?_
            refine bw_aload_n 56 dX3_slowProduct_55 rfl rfl ?_
            refine bw_get 59 dX3_slowProduct_56 rfl lX3_13 (hC.at 0 rfl) hN ?_
            refine bw_aload_n 60 dX3_slowProduct_59 rfl rfl ?_
            refine bw_get 63 dX3_slowProduct_60 rfl lX3_23 (hC.at 0 rfl) hp ?_
            refine bw_ior 64 dX3_slowProduct_63 rfl ?_
            refine bw_eqi (xn_or (2 ^ n) p) ?_
            refine bw_ixor 65 dX3_slowProduct_64 rfl ?_
            refine bw_eqi (xn_xor (2 * x) (2 ^ n ||| p)) ?_
            refine bw_istore 67 dX3_slowProduct_65 rfl (by decide) ?_
            refine bw_iincN (1) 70 dX3_slowProduct_67 rfl rfl (by decide) (by decide) ?_
            refine bw_goto 8 dX3_slowProduct_70 rfl ?_
            refine bw_loc [(0, .ref F), (2, .int (nI b)), (3, _), (4, _), (5, .int (nI (k + 1)))] ⟨rfl, rfl, rfl, rfl, congrArg (fun x => some (Value.int x)) (nI_1 k), trivial⟩ ?_
            exact ih _ _ _ (by omega) hgx (by assumption) hz
        · rw [if_pos ((Nat.mod_two_eq_zero_or_one _).resolve_left (fun h => c30 (by rw [h]; rfl)))] at hz
          have hr := xor_lt hr hx
          refine bw_iload_n 34 dX3_slowProduct_33 rfl rfl ?_
          refine bw_iload 36 dX3_slowProduct_34 rfl rfl ?_
          refine bw_ixor 37 dX3_slowProduct_36 rfl ?_
          refine bw_eqi (xn_xor r x) ?_
          refine bw_istore_n 38 dX3_slowProduct_37 rfl (by decide) ?_
          refine bw_iload 40 dX3_slowProduct_38 rfl rfl ?_
          refine bw_iconst (1) 41 dX3_slowProduct_40 (by decide) rfl ?_
          refine bw_ishl 42 dX3_slowProduct_41 rfl ?_
          refine bw_eqi (xn_shl1 (by omega)) ?_
          refine bw_istore 44 dX3_slowProduct_42 rfl (by decide) ?_
          refine bw_iload 46 dX3_slowProduct_44 rfl rfl ?_
          refine bw_aload_n 47 dX3_slowProduct_46 rfl rfl ?_
          refine bw_get 50 dX3_slowProduct_47 rfl lX3_13 (hC.at 0 rfl) hN ?_
          refine bw_icmp_lt 67 53 dX3_slowProduct_50 rfl rfl (fun c50 => ?_) (fun c50 => ?_)
          · have h2 : 2 * x < 2 ^ n := (nI_ltI (by omega) (by omega)).mp c50
            have hg : gx (2 ^ n) (2 ^ n ||| p) x = 2 * x := if_pos h2
            rw [hg] at hz hgx
            refine bw_iincN (1) 70 dX3_slowProduct_67 rfl rfl (by decide) (by decide) ?_
            refine bw_goto 8 dX3_slowProduct_70 rfl ?_
            refine bw_loc [(0, .ref F), (2, .int (nI b)), (3, _), (4, _), (5, .int (nI (k + 1)))] ⟨rfl, rfl, rfl, rfl, congrArg (fun x => some (Value.int x)) (nI_1 k), trivial⟩ ?_
            exact ih _ _ _ (by omega) hgx (by assumption) hz
          · have h2 : ¬ 2 * x < 2 ^ n := fun h => c50 ((nI_ltI (by omega) (by omega)).mpr h)
            have hg : gx (2 ^ n) (2 ^ n ||| p) x = (2 * x) ^^^ (2 ^ n ||| p) := if_neg h2
            rw [hg] at hz hgx
            refine bw_iload 55 dX3_slowProduct_53 rfl rfl ?_
            refine bw_aload_n 56 dX3_slowProduct_55 rfl rfl ?_
            refine bw_get 59 dX3_slowProduct_56 rfl lX3_13 (hC.at 0 rfl) hN ?_
            refine bw_aload_n 60 dX3_slowProduct_59 rfl rfl ?_
            refine bw_get 63 dX3_slowProduct_60 rfl lX3_23 (hC.at 0 rfl) hp ?_
            refine bw_ior 64 dX3_slowProduct_63 rfl ?_
            refine bw_eqi (xn_or (2 ^ n) p) ?_
            refine bw_ixor 65 dX3_slowProduct_64 rfl ?_
            refine bw_eqi (xn_xor (2 * x) (2 ^ n ||| p)) ?_
            refine bw_istore 67 dX3_slowProduct_65 rfl (by decide) ?_
            refine bw_iincN (1) 70 dX3_slowProduct_67 rfl rfl (by decide) (by decide) ?_
            refine bw_goto 8 dX3_slowProduct_70 rfl ?_
            refine bw_loc [(0, .ref F), (2, .int (nI b)), (3, _), (4, _), (5, .int (nI (k + 1)))] ⟨rfl, rfl, rfl, rfl, congrArg (fun x => some (Value.int x)) (nI_1 k), trivial⟩ ?_
            exact ih _ _ _ (by omega) hgx (by assumption) hz
set_option maxHeartbeats 4000000 in
set_option maxRecDepth 100000 in
theorem c3_slowProduct (g : bw_G) {A : bw_H} {F n p a b : Nat} {fs : List Value} (hn : n ≤ 16) (hC : bw_has A [(F, .inr (5, fs))]) (hb : fs[0]? = some (.int (nI n))) (hN : fs[1]? = some (.int (nI (2 ^ n)))) (hp : fs[3]? = some (.int (nI p))) (hpl : p < 2 ^ n) (ha : a < 2 ^ n) (hbl : b < 2 ^ n) :
    bw_C g (bw_rm 0 0 0) mX3_slowProduct [.ref F, .int (nI a), .int (nI b)] A (bw_pi (nI (gm n (2 ^ n ||| p) a b)) A) := by
  refine bw_C.of (by decide) (Nat.le_of_ble_eq_true rfl) rfl ?_
  refine bw_iconst (0) 1 dX3_slowProduct_0 (by decide) rfl ?_
  refine bw_istore_n 2 dX3_slowProduct_1 rfl (by decide) ?_
  refine bw_iload_n 3 dX3_slowProduct_2 rfl rfl ?_
  refine bw_istore 5 dX3_slowProduct_3 rfl (by decide) ?_
  refine bw_iconst (0) 6 dX3_slowProduct_5 (by decide) rfl ?_
  refine bw_istore 8 dX3_slowProduct_6 rfl (by decide) ?_
  refine bw_loc [(0, .ref F), (2, .int (nI b)), (3, .int (nI 0)), (4, .int (nI a)), (5, .int (nI 0))] ⟨rfl, rfl, rfl, rfl, rfl, trivial⟩ ?_
  exact c3_slowProduct_loop g hn hC hb hN hp (gq_lt hpl) (gq_le n p) hbl _ n 0 a 0 (by omega) ha (Nat.two_pow_pos n) (by rw [Nat.pow_zero, Nat.div_one]; rfl)
theorem gpl_fuel (n q : Nat) : ∀ (i j k x r : Nat), k < 2 ^ j → gpl n q (j + i) k x r = gpl n q j k x r := by
  intro i j
  induction j with
  | zero =>
    intro k x r hk
    have hk : k = 0 := by simpa using hk
    subst hk
    rw [gpl_0, gpl_0]
  | succ j ih =>
    intro k x r hk
    rw [show j + 1 + i = (j + i) + 1 by omega]
    show gpl n q (j + i) (k / 2) _ _ = gpl n q j (k / 2) _ _
    exact ih _ _ _ (by rw [Nat.pow_succ] at hk; omega)
set_option maxHeartbeats 4000000 in
set_option maxRecDepth 100000 in
theorem c3_slowPower_loop (g : bw_G) {A : bw_H} {F n p e : Nat} {fs : List Value} (hn : n ≤ 16) (hC : bw_has A [(F, .inr (5, fs))]) (hb : fs[0]? = some (.int (nI n))) (hN : fs[1]? = some (.int (nI (2 ^ n)))) (hp : fs[3]? = some (.int (nI p))) (hpl : p < 2 ^ n) (he : e < 2 ^ n) (z : Nat) :
    ∀ (j k x r : Nat), k + j = n → x < 2 ^ n → r < 2 ^ n → gpl n (2 ^ n ||| p) j (e / 2 ^ k) x r = z → bw_W g (bw_rm 1 0 0) mX3_slowPower (bw_pi (nI z) A) 0 0 8 [(0, .ref F), (2, .int (nI e)), (3, .int (nI r)), (4, .int (nI x)), (5, .int (nI k))] [] A := by
  have hn2 : 2 ^ n ≤ 2 ^ 16 := Nat.pow_le_pow_right (by omega) hn
  intro j
  induction j with
  | zero =>
    intro k x r hk hx hr hz
    have hz : r = z := hz
    subst hz
    refine bw_iload 10 dX3_slowPower_8 rfl rfl ?_
    refine bw_aload_n 11 dX3_slowPower_10 rfl rfl ?_
    refine bw_get 14 dX3_slowPower_11 rfl lX3_7 (hC.at 0 rfl) hb ?_
    refine bw_icmp_ge 50 17 dX3_slowPower_14 rfl rfl (fun c14 => ?_) (fun c14 => ?_)
    · refine bw_iload_n 51 dX3_slowPower_50 rfl rfl ?_
      refine bw_iret dX3_slowPower_51 rfl (Nat.le_of_ble_eq_true rfl) (Nat.le_of_ble_eq_true rfl) ?_
      exact ⟨rfl, rfl⟩
    · exact absurd (nI_le (by omega) (by omega)) c14
  | succ j ih =>
    intro k x r hk hx hr hz
    have hz : gpl n (2 ^ n ||| p) j (e / 2 ^ k / 2) (gm n (2 ^ n ||| p) x x) (if e / 2 ^ k % 2 = 1 then gm n (2 ^ n ||| p) r x else r) = z := hz
    rw [show e / 2 ^ k / 2 = e / 2 ^ (k + 1) by rw [Nat.pow_succ, Nat.div_div_eq_div_mul]] at hz
    have hxx := gm_lt (b := x) (gq_le n p) (gq_lt hpl) hx
    refine bw_iload 10 dX3_slowPower_8 rfl rfl ?_
    refine bw_aload_n 11 dX3_slowPower_10 rfl rfl ?_
    refine bw_get 14 dX3_slowPower_11 rfl lX3_7 (hC.at 0 rfl) hb ?_
    refine bw_icmp_ge 50 17 dX3_slowPower_14 rfl rfl (fun c14 => ?_) (fun c14 => ?_)
    · exact absurd c14 (nI_ge (by omega) (by omega))
    · skip
      refine bw_iload_n 18 dX3_slowPower_17 rfl rfl ?_
      refine bw_iload 20 dX3_slowPower_18 rfl rfl ?_
      refine bw_ishr 21 dX3_slowPower_20 rfl ?_
      refine bw_eqi (xn_shr k (by omega) (by omega)) ?_
      refine bw_iconst (1) 22 dX3_slowPower_21 (by decide) rfl ?_
      refine bw_iand 23 dX3_slowPower_22 rfl ?_
      refine bw_eqi (xn_and1 (e / 2 ^ k)) ?_
      refine bw_if_eq 34 26 dX3_slowPower_23 rfl rfl (fun c23 => ?_) (fun c23 => ?_)
      · rw [if_neg (fun h => by rw [h] at c23; exact absurd c23 (by decide))] at hz
        refine bw_aload_n 35 dX3_slowPower_34 rfl rfl ?_
        refine bw_iload 37 dX3_slowPower_35 rfl rfl ?_
        refine bw_iload 39 dX3_slowPower_37 rfl rfl ?_
        refine bw_cVi 42 dX3_slowPower_39 rfl vX3_37 (c3_slowProduct g hn hC hb hN hp hpl hx hx) (hC.at 0 rfl) rfl rfl (Nat.le_of_ble_eq_true rfl) ⟨(Nat.le_of_ble_eq_true rfl), (Nat.le_of_ble_eq_true rfl)⟩ (Nat.le_of_ble_eq_true rfl) (Nat.le_of_ble_eq_true rfl) ?_
        refine bw_istore 44 dX3_slowPower_42 rfl (by decide) ?_
        refine bw_iincN (1) 47 dX3_slowPower_44 rfl rfl (by decide) (by decide) ?_
        refine bw_goto 8 dX3_slowPower_47 rfl ?_
        refine bw_loc [(0, .ref F), (2, .int (nI e)), (3, _), (4, _), (5, .int (nI (k + 1)))] ⟨rfl, rfl, rfl, rfl, congrArg (fun x => some (Value.int x)) (nI_1 k), trivial⟩ ?_
        exact ih _ _ _ (by omega) hxx (by assumption) hz
      · rw [if_pos ((Nat.mod_two_eq_zero_or_one _).resolve_left (fun h => c23 (by rw [h]; rfl)))] at hz
        have hr2 := gm_lt (b := x) (gq_le n p) (gq_lt hpl) hr
        refine bw_aload_n 27 dX3_slowPower_26 rfl rfl ?_
        refine bw_iload_n 28 dX3_slowPower_27 rfl rfl ?_
        refine bw_iload 30 dX3_slowPower_28 rfl rfl ?_
        refine bw_cVi 33 dX3_slowPower_30 rfl vX3_37 (c3_slowProduct g hn hC hb hN hp hpl hr hx) (hC.at 0 rfl) rfl rfl (Nat.le_of_ble_eq_true rfl) ⟨(Nat.le_of_ble_eq_true rfl), (Nat.le_of_ble_eq_true rfl)⟩ (Nat.le_of_ble_eq_true rfl) (Nat.le_of_ble_eq_true rfl) ?_
        refine bw_istore_n 34 dX3_slowPower_33 rfl (by decide) ?_
        refine bw_aload_n 35 dX3_slowPower_34 rfl rfl ?_
        refine bw_iload 37 dX3_slowPower_35 rfl rfl ?_
        refine bw_iload 39 dX3_slowPower_37 rfl rfl ?_
        refine bw_cVi 42 dX3_slowPower_39 rfl vX3_37 (c3_slowProduct g hn hC hb hN hp hpl hx hx) (hC.at 0 rfl) rfl rfl (Nat.le_of_ble_eq_true rfl) ⟨(Nat.le_of_ble_eq_true rfl), (Nat.le_of_ble_eq_true rfl)⟩ (Nat.le_of_ble_eq_true rfl) (Nat.le_of_ble_eq_true rfl) ?_
        refine bw_istore 44 dX3_slowPower_42 rfl (by decide) ?_
        refine bw_iincN (1) 47 dX3_slowPower_44 rfl rfl (by decide) (by decide) ?_
        refine bw_goto 8 dX3_slowPower_47 rfl ?_
        refine bw_loc [(0, .ref F), (2, .int (nI e)), (3, _), (4, _), (5, .int (nI (k + 1)))] ⟨rfl, rfl, rfl, rfl, congrArg (fun x => some (Value.int x)) (nI_1 k), trivial⟩ ?_
        exact ih _ _ _ (by omega) hxx (by assumption) hz
set_option maxHeartbeats 4000000 in
set_option maxRecDepth 100000 in
theorem c3_slowPower (g : bw_G) {A : bw_H} {F n p a e : Nat} {fs : List Value} (hn : n ≤ 16) (hC : bw_has A [(F, .inr (5, fs))]) (hb : fs[0]? = some (.int (nI n))) (hN : fs[1]? = some (.int (nI (2 ^ n)))) (hp : fs[3]? = some (.int (nI p))) (hpl : p < 2 ^ n) (ha : a < 2 ^ n) (he : e < 2 ^ n) (h1 : 1 < 2 ^ n) :
    bw_C g (bw_rm 1 0 0) mX3_slowPower [.ref F, .int (nI a), .int (nI e)] A (bw_pi (nI (gp n (2 ^ n ||| p) a e)) A) := by
  have hz : gpl n (2 ^ n ||| p) n e a 1 = gp n (2 ^ n ||| p) a e := by
    have := gpl_fuel n (2 ^ n ||| p) (31 - n) n e a 1 he
    rw [show n + (31 - n) = 31 by omega] at this
    exact this.symm
  refine bw_C.of (by decide) (Nat.le_of_ble_eq_true rfl) rfl ?_
  refine bw_iconst (1) 1 dX3_slowPower_0 (by decide) rfl ?_
  refine bw_istore_n 2 dX3_slowPower_1 rfl (by decide) ?_
  refine bw_iload_n 3 dX3_slowPower_2 rfl rfl ?_
  refine bw_istore 5 dX3_slowPower_3 rfl (by decide) ?_
  refine bw_iconst (0) 6 dX3_slowPower_5 (by decide) rfl ?_
  refine bw_istore 8 dX3_slowPower_6 rfl (by decide) ?_
  refine bw_loc [(0, .ref F), (2, .int (nI e)), (3, .int (nI 1)), (4, .int (nI a)), (5, .int (nI 0))] ⟨rfl, rfl, rfl, rfl, rfl, trivial⟩ ?_
  exact c3_slowPower_loop g hn hC hb hN hp hpl he _ n 0 a 1 (by omega) ha h1 (by rw [Nat.pow_zero, Nat.div_one]; exact hz)
/-- a generates: none of its powers by units by a prime of units is 1 -/
def ggen (n q a : Nat) : Prop := ∀ i, i < 4 → (2 ^ n - 1) % gfac i = 0 → gp n q a ((2 ^ n - 1) / gfac i) ≠ 1
theorem pr_fac (i : Nat) (hi : i < 2 ^ 31) : bw_pr (nI i).toNatClampNeg = nI (gfac i) := by
  rw [nI_clamp hi]
  unfold bw_pr gfac
  split
  · rfl
  · split
    · rfl
    · split <;> rfl
set_option maxHeartbeats 4000000 in
set_option maxRecDepth 100000 in
theorem c3_generates_loop (g : bw_G) {A : bw_H} {F n p a z : Nat} {fs : List Value} (hn : n ≤ 16) (hC : bw_has A [(F, .inr (5, fs))]) (hb : fs[0]? = some (.int (nI n))) (hN : fs[1]? = some (.int (nI (2 ^ n)))) (hu : fs[2]? = some (.int (nI (2 ^ n - 1)))) (hp : fs[3]? = some (.int (nI p))) (hpl : p < 2 ^ n) (ha : a < 2 ^ n) (h1 : 1 < 2 ^ n) (hz : z = 1 ∧ ggen n (2 ^ n ||| p) a ∨ z = 0 ∧ ¬ ggen n (2 ^ n ||| p) a) :
    ∀ (r i : Nat), i + r = 4 → (∀ j, j < i → (2 ^ n - 1) % gfac j = 0 → gp n (2 ^ n ||| p) a ((2 ^ n - 1) / gfac j) ≠ 1) → bw_W g (bw_rm 2 0 0) mX3_generates (bw_pi (nI z) A) 0 0 10 [(0, .ref F), (1, .int (nI a)), (2, .ref g.2.2.2.1), (3, .int (nI 4)), (4, .int (nI i))] [] A := by
  have hn2 : 2 ^ n ≤ 2 ^ 16 := Nat.pow_le_pow_right (by omega) hn
  intro r
  induction r with
  | zero =>
    intro i hi hall
    have hi : i = 4 := by omega
    subst hi
    have hz1 : z = 1 := by
      rcases hz with h | h
      · exact h.1
      · exact absurd hall h.2
    subst hz1
    refine bw_iload 12 dX3_generates_10 rfl rfl ?_
    refine bw_iload_n 13 dX3_generates_12 rfl rfl ?_
    refine bw_icmp_ge 56 16 dX3_generates_13 rfl rfl (fun c13 => ?_) (fun c13 => ?_)
    · refine bw_iconst (1) 57 dX3_generates_56 (by decide) rfl ?_
      refine bw_zret dX3_generates_57 rfl (by first | decide | assumption) (Nat.le_of_ble_eq_true rfl) (Nat.le_of_ble_eq_true rfl) ?_
      exact ⟨rfl, rfl⟩
    · exact absurd (nI_le (a := 4) (b := 4) (by omega) (by omega)) c13
  | succ r ih =>
    intro i hi hall
    have hgl := gp_lt (k := (2 ^ n - 1) / gfac i) (gq_le n p) (gq_lt hpl) ha h1
    have hml : (2 ^ n - 1) % gfac i < 2 ^ 31 := Nat.lt_of_le_of_lt (Nat.mod_le _ _) (by omega)
    refine bw_iload 12 dX3_generates_10 rfl rfl ?_
    refine bw_iload_n 13 dX3_generates_12 rfl rfl ?_
    refine bw_icmp_ge 56 16 dX3_generates_13 rfl rfl (fun c13 => ?_) (fun c13 => ?_)
    · exact absurd c13 (nI_ge (a := i) (b := 4) (by omega) (by omega))
    · skip
      refine bw_aload_n 17 dX3_generates_16 rfl rfl ?_
      refine bw_iload 19 dX3_generates_17 rfl rfl ?_
      refine bw_primeAt 20 dX3_generates_19 rfl (by exact vp_in_nI (by omega) (by omega)) ?_
      refine bw_eqi (pr_fac i (by omega)) ?_
      refine bw_istore 22 dX3_generates_20 rfl (by decide) ?_
      refine bw_aload_n 23 dX3_generates_22 rfl rfl ?_
      refine bw_get 26 dX3_generates_23 rfl lX3_16 (hC.at 0 rfl) hu ?_
      refine bw_iload 28 dX3_generates_26 rfl rfl ?_
      refine bw_irem 29 dX3_generates_28 (by exact fun h => absurd ((xn_eq0 (Nat.lt_of_le_of_lt (gfac_le i) (by omega))).mp h) (Nat.ne_of_gt (gfac_pos i))) rfl ?_
      refine bw_eqi (pk_rem (by omega) (gfac_pos i) (Nat.lt_of_le_of_lt (gfac_le i) (by omega))) ?_
      refine bw_if_ne 50 32 dX3_generates_29 rfl rfl (fun c29 => ?_) (fun c29 => ?_)
      · have hh : ∀ j, j < i + 1 → (2 ^ n - 1) % gfac j = 0 → gp n (2 ^ n ||| p) a ((2 ^ n - 1) / gfac j) ≠ 1 := lt_s hall (fun h => absurd ((xn_eq0 hml).mpr h) c29)
        refine bw_iincN (1) 53 dX3_generates_50 rfl rfl (by decide) (by decide) ?_
        refine bw_goto 10 dX3_generates_53 rfl ?_
        refine bw_loc [(0, .ref F), (1, .int (nI a)), (2, .ref g.2.2.2.1), (3, .int (nI 4)), (4, .int (nI (i + 1)))] ⟨rfl, rfl, rfl, rfl, congrArg (fun x => some (Value.int x)) (nI_1 i), trivial⟩ ?_
        exact ih (i + 1) (by omega) hh
      · refine bw_aload_n 33 dX3_generates_32 rfl rfl ?_
        refine bw_iload_n 34 dX3_generates_33 rfl rfl ?_
        refine bw_aload_n 35 dX3_generates_34 rfl rfl ?_
        refine bw_get 38 dX3_generates_35 rfl lX3_16 (hC.at 0 rfl) hu ?_
        refine bw_iload 40 dX3_generates_38 rfl rfl ?_
        refine bw_idiv 41 dX3_generates_40 (by exact fun h => absurd ((xn_eq0 (Nat.lt_of_le_of_lt (gfac_le i) (by omega))).mp h) (Nat.ne_of_gt (gfac_pos i))) rfl ?_
        refine bw_eqi (pk_div (by omega) (gfac_pos i) (Nat.lt_of_le_of_lt (gfac_le i) (by omega))) ?_
        refine bw_cVi 44 dX3_generates_41 rfl vX3_63 (c3_slowPower g hn hC hb hN hp hpl ha (Nat.lt_of_le_of_lt (Nat.div_le_self _ _) (by omega)) h1) (hC.at 0 rfl) rfl rfl (Nat.le_of_ble_eq_true rfl) ⟨(Nat.le_of_ble_eq_true rfl), (Nat.le_of_ble_eq_true rfl)⟩ (Nat.le_of_ble_eq_true rfl) (Nat.le_of_ble_eq_true rfl) ?_
        refine bw_iconst (1) 45 dX3_generates_44 (by decide) rfl ?_
        refine bw_icmp_ne 50 48 dX3_generates_45 rfl rfl (fun c45 => ?_) (fun c45 => ?_)
        · have hh : ∀ j, j < i + 1 → (2 ^ n - 1) % gfac j = 0 → gp n (2 ^ n ||| p) a ((2 ^ n - 1) / gfac j) ≠ 1 := lt_s hall (fun _ h => c45 ((xn_eq1 (by omega)).mpr h))
          refine bw_iincN (1) 53 dX3_generates_50 rfl rfl (by decide) (by decide) ?_
          refine bw_goto 10 dX3_generates_53 rfl ?_
          refine bw_loc [(0, .ref F), (1, .int (nI a)), (2, .ref g.2.2.2.1), (3, .int (nI 4)), (4, .int (nI (i + 1)))] ⟨rfl, rfl, rfl, rfl, congrArg (fun x => some (Value.int x)) (nI_1 i), trivial⟩ ?_
          exact ih (i + 1) (by omega) hh
        · have hz0 : z = 0 := by
            rcases hz with h | h
            · exact absurd ((xn_eq1 (by omega)).mp c45) (h.2 i (by omega) ((xn_eq0 hml).mp c29))
            · exact h.1
          subst hz0
          refine bw_iconst (0) 49 dX3_generates_48 (by decide) rfl ?_
          refine bw_zret dX3_generates_49 rfl (by first | decide | assumption) (Nat.le_of_ble_eq_true rfl) (Nat.le_of_ble_eq_true rfl) ?_
          exact ⟨rfl, rfl⟩
set_option maxHeartbeats 4000000 in
set_option maxRecDepth 100000 in
theorem c3_generates (g : bw_G) {A : bw_H} {F n p a z : Nat} {fs : List Value} (hn : n ≤ 16) (hC : bw_has A [(F, .inr (5, fs))]) (hb : fs[0]? = some (.int (nI n))) (hN : fs[1]? = some (.int (nI (2 ^ n)))) (hu : fs[2]? = some (.int (nI (2 ^ n - 1)))) (hp : fs[3]? = some (.int (nI p))) (hpl : p < 2 ^ n) (ha : a < 2 ^ n) (h1 : 1 < 2 ^ n) (hz : z = 1 ∧ ggen n (2 ^ n ||| p) a ∨ z = 0 ∧ ¬ ggen n (2 ^ n ||| p) a) :
    bw_C g (bw_rm 2 0 0) mX3_generates [.ref F, .int (nI a)] A (bw_pi (nI z) A) := by
  refine bw_C.of (by decide) (Nat.le_of_ble_eq_true rfl) rfl ?_
  refine bw_primes 3 dX3_generates_0 rfl gX3_60 ?_
  refine bw_astore_n 4 dX3_generates_3 rfl (by decide) ?_
  refine bw_aload_n 5 dX3_generates_4 rfl rfl ?_
  refine bw_primeLen 6 dX3_generates_5 rfl ?_
  refine bw_istore_n 7 dX3_generates_6 rfl (by decide) ?_
  refine bw_iconst (0) 8 dX3_generates_7 (by decide) rfl ?_
  refine bw_istore 10 dX3_generates_8 rfl (by decide) ?_
  refine bw_loc [(0, .ref F), (1, .int (nI a)), (2, .ref g.2.2.2.1), (3, .int (nI 4)), (4, .int (nI 0))] ⟨rfl, rfl, rfl, rfl, rfl, trivial⟩ ?_
  exact c3_generates_loop g hn hC hb hN hu hp hpl ha h1 hz 4 0 rfl (fun j h => absurd h (Nat.not_lt_zero j))
set_option maxHeartbeats 4000000 in
set_option maxRecDepth 100000 in
theorem c3_leastGenerator_loop (g : bw_G) {A : bw_H} {F n p a0 : Nat} {fs : List Value} (hn : n ≤ 16) (hC : bw_has A [(F, .inr (5, fs))]) (hb : fs[0]? = some (.int (nI n))) (hN : fs[1]? = some (.int (nI (2 ^ n)))) (hu : fs[2]? = some (.int (nI (2 ^ n - 1)))) (hp : fs[3]? = some (.int (nI p))) (hpl : p < 2 ^ n) (h1 : 1 < 2 ^ n) (ha0 : a0 < 2 ^ n) (hg0 : ggen n (2 ^ n ||| p) a0) (hg1 : ∀ b, 2 ≤ b → b < a0 → ¬ ggen n (2 ^ n ||| p) b) :
    ∀ (r a : Nat), a + r = a0 → 2 ≤ a → bw_W g (bw_rm 3 0 0) mX3_leastGenerator (bw_pi (nI a0) A) 0 0 2 [(0, .ref F), (1, .int (nI a))] [] A := by
  have hn2 : 2 ^ n ≤ 2 ^ 16 := Nat.pow_le_pow_right (by omega) hn
  intro r
  induction r with
  | zero =>
    intro a ha h2
    have ha : a = a0 := by omega
    subst ha
    refine bw_iload_n 3 dX3_leastGenerator_2 rfl rfl ?_
    refine bw_aload_n 4 dX3_leastGenerator_3 rfl rfl ?_
    refine bw_get 7 dX3_leastGenerator_4 rfl lX3_13 (hC.at 0 rfl) hN ?_
    refine bw_icmp_ge 26 10 dX3_leastGenerator_7 rfl rfl (fun c7 => ?_) (fun c7 => ?_)
    · exact absurd c7 (nI_ge (by omega) (by omega))
    · refine bw_aload_n 11 dX3_leastGenerator_10 rfl rfl ?_
      refine bw_iload_n 12 dX3_leastGenerator_11 rfl rfl ?_
      refine bw_cVi 15 dX3_leastGenerator_12 rfl vX3_56 (c3_generates g (z := 1) hn hC hb hN hu hp hpl ha0 h1 (Or.inl ⟨rfl, hg0⟩)) (hC.at 0 rfl) rfl rfl (Nat.le_of_ble_eq_true rfl) ⟨(Nat.le_of_ble_eq_true rfl), (Nat.le_of_ble_eq_true rfl)⟩ (Nat.le_of_ble_eq_true rfl) (Nat.le_of_ble_eq_true rfl) ?_
      refine bw_if_eq 20 18 dX3_leastGenerator_15 rfl rfl (fun c15 => ?_) (fun c15 => ?_)
      · exact absurd c15 (by decide)
      · refine bw_iload_n 19 dX3_leastGenerator_18 rfl rfl ?_
        refine bw_iret dX3_leastGenerator_19 rfl (Nat.le_of_ble_eq_true rfl) (Nat.le_of_ble_eq_true rfl) ?_
        exact ⟨rfl, rfl⟩
  | succ r ih =>
    intro a ha h2
    refine bw_iload_n 3 dX3_leastGenerator_2 rfl rfl ?_
    refine bw_aload_n 4 dX3_leastGenerator_3 rfl rfl ?_
    refine bw_get 7 dX3_leastGenerator_4 rfl lX3_13 (hC.at 0 rfl) hN ?_
    refine bw_icmp_ge 26 10 dX3_leastGenerator_7 rfl rfl (fun c7 => ?_) (fun c7 => ?_)
    · exact absurd c7 (nI_ge (by omega) (by omega))
    · refine bw_aload_n 11 dX3_leastGenerator_10 rfl rfl ?_
      refine bw_iload_n 12 dX3_leastGenerator_11 rfl rfl ?_
      refine bw_cVi 15 dX3_leastGenerator_12 rfl vX3_56 (c3_generates g (z := 0) hn hC hb hN hu hp hpl (by omega) h1 (Or.inr ⟨rfl, hg1 a h2 (by omega)⟩)) (hC.at 0 rfl) rfl rfl (Nat.le_of_ble_eq_true rfl) ⟨(Nat.le_of_ble_eq_true rfl), (Nat.le_of_ble_eq_true rfl)⟩ (Nat.le_of_ble_eq_true rfl) (Nat.le_of_ble_eq_true rfl) ?_
      refine bw_if_eq 20 18 dX3_leastGenerator_15 rfl rfl (fun c15 => ?_) (fun c15 => ?_)
      · skip
        refine bw_iincN (1) 23 dX3_leastGenerator_20 rfl rfl (by decide) (by decide) ?_
        refine bw_goto 2 dX3_leastGenerator_23 rfl ?_
        refine bw_loc [(0, .ref F), (1, .int (nI (a + 1)))] ⟨rfl, congrArg (fun x => some (Value.int x)) (nI_1 a), trivial⟩ ?_
        exact ih (a + 1) (by omega) (by omega)
      · exact absurd rfl c15
set_option maxHeartbeats 4000000 in
set_option maxRecDepth 100000 in
theorem c3_leastGenerator (g : bw_G) {A : bw_H} {F n p a0 : Nat} {fs : List Value} (hn : n ≤ 16) (hC : bw_has A [(F, .inr (5, fs))]) (hb : fs[0]? = some (.int (nI n))) (hN : fs[1]? = some (.int (nI (2 ^ n)))) (hu : fs[2]? = some (.int (nI (2 ^ n - 1)))) (hp : fs[3]? = some (.int (nI p))) (hpl : p < 2 ^ n) (h1 : 1 < 2 ^ n) (h2 : 2 ≤ a0) (ha0 : a0 < 2 ^ n) (hg0 : ggen n (2 ^ n ||| p) a0) (hg1 : ∀ b, 2 ≤ b → b < a0 → ¬ ggen n (2 ^ n ||| p) b) :
    bw_C g (bw_rm 3 0 0) mX3_leastGenerator [.ref F] A (bw_pi (nI a0) A) := by
  refine bw_C.of (by decide) (Nat.le_of_ble_eq_true rfl) rfl ?_
  refine bw_iconst (2) 1 dX3_leastGenerator_0 (by decide) rfl ?_
  refine bw_istore_n 2 dX3_leastGenerator_1 rfl (by decide) ?_
  refine bw_loc [(0, .ref F), (1, .int (nI 2))] ⟨rfl, rfl, trivial⟩ ?_
  exact c3_leastGenerator_loop g hn hC hb hN hu hp hpl h1 ha0 hg0 hg1 (a0 - 2) 2 (by omega) (by omega)
