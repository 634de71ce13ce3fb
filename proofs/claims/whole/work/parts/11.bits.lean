/-! the reference: orders, rests of bits, what is prime -/
set_option maxHeartbeats 4000000 in
set_option maxRecDepth 100000 in
theorem c10_factors (g : bw_G) {A : bw_H} {M n : Nat} {ms : List Value} (hn : n ≤ 16) (hC : bw_has A [(M, .inr (12, ms))]) (hb : ms[0]? = some (.int (nI n))) : bw_C g (bw_rm 0 0 0) mX10_factors [.ref M] A (bw_pi (nI (if n = 8 then 3 else 4)) A) := by
  refine bw_C.of (by decide) (Nat.le_of_ble_eq_true rfl) rfl ?_
  refine bw_aload_n 1 dX10_factors_0 rfl rfl ?_
  refine bw_get 4 dX10_factors_1 rfl lX10_75 (hC.at 0 rfl) hb ?_
  refine bw_bipush (8) 6 dX10_factors_4 (by decide) rfl ?_
  refine bw_icmp_ne 13 9 dX10_factors_6 rfl rfl (fun c6 => ?_) (fun c6 => ?_)
  · have hb8 : ¬ n = 8 := fun h => c6 ((nI_eq (b := 8) (by omega) (by omega)).mpr h)
    refine bw_iconst (4) 14 dX10_factors_13 (by decide) rfl ?_
    refine bw_iret dX10_factors_14 rfl (Nat.le_of_ble_eq_true rfl) (Nat.le_of_ble_eq_true rfl) ?_
    refine ⟨?_, rfl⟩
    first | (rw [if_pos hb8]; rfl) | (rw [if_neg hb8]; rfl)
  · have hb8 : n = 8 := (nI_eq (b := 8) (by omega) (by omega)).mp c6
    refine bw_iconst (3) 10 dX10_factors_9 (by decide) rfl ?_
    refine bw_goto 14 dX10_factors_10 rfl ?_
    refine bw_iret dX10_factors_14 rfl (Nat.le_of_ble_eq_true rfl) (Nat.le_of_ble_eq_true rfl) ?_
    refine ⟨?_, rfl⟩
    first | (rw [if_pos hb8]; rfl) | (rw [if_neg hb8]; rfl)
/-- the order, by the primes of what is left -/
def gol (n q a : Nat) : Nat → Nat → Nat → Nat
  | 0, _, m => m
  | r + 1, k, m => gol n q a r (k + 1) (if gp n q a (m / gfac k) = 1 then m / gfac k else m)
theorem gfac_pos (k : Nat) : 0 < gfac k := by
  unfold gfac
  split
  · omega
  · split
    · omega
    · split <;> omega
theorem gfac_le (k : Nat) : gfac k ≤ 257 := by
  unfold gfac
  split
  · omega
  · split
    · omega
    · split <;> omega
theorem gpl_lt {n q : Nat} (hq : 2 ^ n ≤ q) (hq2 : q < 2 ^ (n + 1)) : ∀ (j k x r : Nat), x < 2 ^ n → r < 2 ^ n → gpl n q j k x r < 2 ^ n
  | 0, _, _, _, _, hr => hr
  | j + 1, k, x, r, hx, hr => by
    show gpl n q j (k / 2) (gm n q x x) (if k % 2 = 1 then gm n q r x else r) < 2 ^ n
    refine gpl_lt hq hq2 j _ _ _ (gm_lt hq hq2 hx) ?_
    split
    · exact gm_lt hq hq2 hr
    · exact hr
theorem gp_lt {n q a k : Nat} (hq : 2 ^ n ≤ q) (hq2 : q < 2 ^ (n + 1)) (ha : a < 2 ^ n) (h1 : 1 < 2 ^ n) : gp n q a k < 2 ^ n := gpl_lt hq hq2 31 k a 1 ha h1
set_option maxHeartbeats 4000000 in
set_option maxRecDepth 100000 in
theorem c10_orderOf_loop (g : bw_G) {A : bw_H} {M n p a f : Nat} {ms : List Value} (hn : n ≤ 16) (hC : bw_has A [(M, .inr (12, ms))]) (hb : ms[0]? = some (.int (nI n))) (hN : ms[2]? = some (.int (nI (2 ^ n)))) (hp : ms[1]? = some (.int (nI p))) (hpl : p < 2 ^ n) (ha : a < 2 ^ n) (h1 : 1 < 2 ^ n) (hf : f = if n = 8 then 3 else 4) (z : Nat) :
    ∀ (r k m : Nat), k + r = f → m < 2 ^ 31 → gol n (2 ^ n ||| p) a r k m = z → bw_W g (bw_rm 2 0 0) mX10_orderOf (bw_pi (nI z) A) 0 0 9 [(0, .ref M), (1, .int (nI a)), (2, .int (nI m)), (3, .int (nI k))] [] A := by
  have hf4 : f ≤ 4 := by rw [hf]; split <;> omega
  intro r
  induction r with
  | zero =>
    intro k m hk hm hz
    have hz : m = z := hz
    subst hz
    refine bw_iload_n 10 dX10_orderOf_9 rfl rfl ?_
    refine bw_aload_n 11 dX10_orderOf_10 rfl rfl ?_
    refine bw_cVi 14 dX10_orderOf_11 rfl vX10_108 (c10_factors g hn hC hb) (hC.at 0 rfl) rfl rfl (Nat.le_of_ble_eq_true rfl) ⟨(Nat.le_of_ble_eq_true rfl), (Nat.le_of_ble_eq_true rfl)⟩ (Nat.le_of_ble_eq_true rfl) (Nat.le_of_ble_eq_true rfl) ?_
    refine bw_eqi (congrArg nI hf.symm) ?_
    refine bw_icmp_ge 45 17 dX10_orderOf_14 rfl rfl (fun c14 => ?_) (fun c14 => ?_)
    · refine bw_iload_n 46 dX10_orderOf_45 rfl rfl ?_
      refine bw_iret dX10_orderOf_46 rfl (Nat.le_of_ble_eq_true rfl) (Nat.le_of_ble_eq_true rfl) ?_
      exact ⟨rfl, rfl⟩
    · exact absurd (nI_le (by omega) (by omega)) c14
  | succ r ih =>
    intro k m hk hm hz
    have hz : gol n (2 ^ n ||| p) a r (k + 1) (if gp n (2 ^ n ||| p) a (m / gfac k) = 1 then m / gfac k else m) = z := hz
    have hgl := gp_lt (k := m / gfac k) (gq_le n p) (gq_lt hpl) ha h1
    have hn2 : 2 ^ n ≤ 2 ^ 16 := Nat.pow_le_pow_right (by omega) hn
    refine bw_iload_n 10 dX10_orderOf_9 rfl rfl ?_
    refine bw_aload_n 11 dX10_orderOf_10 rfl rfl ?_
    refine bw_cVi 14 dX10_orderOf_11 rfl vX10_108 (c10_factors g hn hC hb) (hC.at 0 rfl) rfl rfl (Nat.le_of_ble_eq_true rfl) ⟨(Nat.le_of_ble_eq_true rfl), (Nat.le_of_ble_eq_true rfl)⟩ (Nat.le_of_ble_eq_true rfl) (Nat.le_of_ble_eq_true rfl) ?_
    refine bw_eqi (congrArg nI hf.symm) ?_
    refine bw_icmp_ge 45 17 dX10_orderOf_14 rfl rfl (fun c14 => ?_) (fun c14 => ?_)
    · exact absurd c14 (nI_ge (by omega) (by omega))
    · skip
      refine bw_aload_n 18 dX10_orderOf_17 rfl rfl ?_
      refine bw_iload_n 19 dX10_orderOf_18 rfl rfl ?_
      refine bw_iload_n 20 dX10_orderOf_19 rfl rfl ?_
      refine bw_iload_n 21 dX10_orderOf_20 rfl rfl ?_
      refine bw_cSi 24 dX10_orderOf_21 rfl sX10_112 (c10_factor g (by omega)) rfl rfl (Nat.le_of_ble_eq_true rfl) ⟨(Nat.le_of_ble_eq_true rfl), (Nat.le_of_ble_eq_true rfl)⟩ (Nat.le_of_ble_eq_true rfl) (Nat.le_of_ble_eq_true rfl) ?_
      refine bw_idiv 25 dX10_orderOf_24 (by exact fun h => absurd ((xn_eq0 (Nat.lt_of_le_of_lt (gfac_le k) (by omega))).mp h) (Nat.ne_of_gt (gfac_pos k))) rfl ?_
      refine bw_eqi (pk_div (by omega) (gfac_pos k) (Nat.lt_of_le_of_lt (gfac_le k) (by omega))) ?_
      refine bw_cVi 28 dX10_orderOf_25 rfl vX10_105 (c10_raised g hn hC hN hp hpl ha (Nat.lt_of_le_of_lt (Nat.div_le_self _ _) hm) h1) (hC.at 0 rfl) rfl rfl (Nat.le_of_ble_eq_true rfl) ⟨(Nat.le_of_ble_eq_true rfl), (Nat.le_of_ble_eq_true rfl)⟩ (Nat.le_of_ble_eq_true rfl) (Nat.le_of_ble_eq_true rfl) ?_
      refine bw_iconst (1) 29 dX10_orderOf_28 (by decide) rfl ?_
      refine bw_icmp_ne 39 32 dX10_orderOf_29 rfl rfl (fun c29 => ?_) (fun c29 => ?_)
      · rw [if_neg (fun h => c29 ((xn_eq1 (by omega)).mpr h))] at hz
        refine bw_iincN (1) 42 dX10_orderOf_39 rfl rfl (by decide) (by decide) ?_
        refine bw_goto 9 dX10_orderOf_42 rfl ?_
        refine bw_loc [(0, .ref M), (1, _), (2, _), (3, .int (nI (k + 1)))] ⟨rfl, rfl, rfl, congrArg (fun x => some (Value.int x)) (nI_1 k), trivial⟩ ?_
        exact ih _ _ (by omega) (by assumption) hz
      · rw [if_pos ((xn_eq1 (by omega)).mp c29)] at hz
        have hm := Nat.lt_of_le_of_lt (Nat.div_le_self m (gfac k)) hm
        refine bw_iload_n 33 dX10_orderOf_32 rfl rfl ?_
        refine bw_iload_n 34 dX10_orderOf_33 rfl rfl ?_
        refine bw_cSi 37 dX10_orderOf_34 rfl sX10_112 (c10_factor g (by omega)) rfl rfl (Nat.le_of_ble_eq_true rfl) ⟨(Nat.le_of_ble_eq_true rfl), (Nat.le_of_ble_eq_true rfl)⟩ (Nat.le_of_ble_eq_true rfl) (Nat.le_of_ble_eq_true rfl) ?_
        refine bw_idiv 38 dX10_orderOf_37 (by exact fun h => absurd ((xn_eq0 (Nat.lt_of_le_of_lt (gfac_le k) (by omega))).mp h) (Nat.ne_of_gt (gfac_pos k))) rfl ?_
        refine bw_eqi (pk_div (by omega) (gfac_pos k) (Nat.lt_of_le_of_lt (gfac_le k) (by omega))) ?_
        refine bw_istore_n 39 dX10_orderOf_38 rfl (by decide) ?_
        refine bw_iincN (1) 42 dX10_orderOf_39 rfl rfl (by decide) (by decide) ?_
        refine bw_goto 9 dX10_orderOf_42 rfl ?_
        refine bw_loc [(0, .ref M), (1, _), (2, _), (3, .int (nI (k + 1)))] ⟨rfl, rfl, rfl, congrArg (fun x => some (Value.int x)) (nI_1 k), trivial⟩ ?_
        exact ih _ _ (by omega) (by assumption) hz
set_option maxHeartbeats 4000000 in
set_option maxRecDepth 100000 in
theorem c10_orderOf (g : bw_G) {A : bw_H} {M n p a : Nat} {ms : List Value} (hn : n ≤ 16) (hC : bw_has A [(M, .inr (12, ms))]) (hb : ms[0]? = some (.int (nI n))) (hN : ms[2]? = some (.int (nI (2 ^ n)))) (hp : ms[1]? = some (.int (nI p))) (hpl : p < 2 ^ n) (ha : a < 2 ^ n) (h1 : 1 < 2 ^ n) :
    bw_C g (bw_rm 2 0 0) mX10_orderOf [.ref M, .int (nI a)] A (bw_pi (nI (gol n (2 ^ n ||| p) a (if n = 8 then 3 else 4) 0 (2 ^ n - 1))) A) := by
  have hn2 : 2 ^ n ≤ 2 ^ 16 := Nat.pow_le_pow_right (by omega) hn
  refine bw_C.of (by decide) (Nat.le_of_ble_eq_true rfl) rfl ?_
  refine bw_aload_n 1 dX10_orderOf_0 rfl rfl ?_
  refine bw_get 4 dX10_orderOf_1 rfl lX10_78 (hC.at 0 rfl) hN ?_
  refine bw_iconst (1) 5 dX10_orderOf_4 (by decide) rfl ?_
  refine bw_isub 6 dX10_orderOf_5 rfl ?_
  refine bw_eqi (pk_sub (a := 2 ^ n) (b := 1) (by omega)) ?_
  refine bw_istore_n 7 dX10_orderOf_6 rfl (by decide) ?_
  refine bw_iconst (0) 8 dX10_orderOf_7 (by decide) rfl ?_
  refine bw_istore_n 9 dX10_orderOf_8 rfl (by decide) ?_
  refine bw_loc [(0, .ref M), (1, _), (2, _), (3, .int (nI 0))] ⟨rfl, rfl, rfl, rfl, trivial⟩ ?_
  exact c10_orderOf_loop g hn hC hb hN hp hpl ha h1 rfl _ _ 0 _ (Nat.zero_add _) (by omega) rfl
/-- the place of the highest bit; -1 of 0 -/
def bdg (p : Nat) : Int32 := if p = 0 then -1 else nI (Nat.log2 p)
theorem log2_top {k x : Nat} (h : 2 ^ k ≤ x) (h2 : x < 2 ^ (k + 1)) : Nat.log2 x = k := by
  have hx : x ≠ 0 := by have := Nat.two_pow_pos k; omega
  have a := (Nat.le_log2 hx).mpr h
  have b := (Nat.log2_lt hx).mpr h2
  omega
theorem bdg_step {p k : Nat} : bdg (p % 2 ^ (k + 1)) = if p / 2 ^ k % 2 = 1 then nI k else bdg (p % 2 ^ k) := by
  have h := Nat.mod_pow_succ (x := p) (b := 2) (k := k)
  have hlt : p % 2 ^ k < 2 ^ k := Nat.mod_lt _ (Nat.two_pow_pos k)
  split
  · rename_i h1
    rw [h1, Nat.mul_one] at h
    have hs : 2 ^ (k + 1) = 2 ^ k * 2 := Nat.pow_succ 2 k
    rw [h]
    unfold bdg
    rw [if_neg (by omega), log2_top (k := k) (by omega) (by omega)]
  · rename_i h1
    have h0 : p / 2 ^ k % 2 = 0 := by omega
    rw [h0, Nat.mul_zero] at h
    rw [h]
    rfl
set_option maxHeartbeats 4000000 in
set_option maxRecDepth 100000 in
theorem c10_degreeOf_loop (g : bw_G) {A : bw_H} {p : Nat} (hp : p < 2 ^ 31) :
    ∀ (r k : Nat), k + r = 31 → bw_W g (bw_rm 0 0 0) mX10_degreeOf (bw_pi (bdg p) A) 0 0 4 [(0, .int (nI p)), (1, .int (bdg (p % 2 ^ k))), (2, .int (nI k))] [] A := by
  intro r
  induction r with
  | zero =>
    intro k hk
    have hk : k = 31 := by omega
    subst hk
    rw [Nat.mod_eq_of_lt hp]
    refine bw_iload_n 5 dX10_degreeOf_4 rfl rfl ?_
    refine bw_bipush (31) 7 dX10_degreeOf_5 (by decide) rfl ?_
    refine bw_icmp_ge 27 10 dX10_degreeOf_7 rfl rfl (fun c7 => ?_) (fun c7 => ?_)
    · refine bw_iload_n 28 dX10_degreeOf_27 rfl rfl ?_
      refine bw_iret dX10_degreeOf_28 rfl (Nat.le_of_ble_eq_true rfl) (Nat.le_of_ble_eq_true rfl) ?_
      exact ⟨rfl, rfl⟩
    · exact absurd (nI_le (a := 31) (b := 31) (by omega) (by omega)) c7
  | succ r ih =>
    intro k hk
    have ih := ih (k + 1) (by omega)
    rw [bdg_step] at ih
    refine bw_iload_n 5 dX10_degreeOf_4 rfl rfl ?_
    refine bw_bipush (31) 7 dX10_degreeOf_5 (by decide) rfl ?_
    refine bw_icmp_ge 27 10 dX10_degreeOf_7 rfl rfl (fun c7 => ?_) (fun c7 => ?_)
    · exact absurd c7 (nI_ge (a := k) (b := 31) (by omega) (by omega))
    · skip
      refine bw_iload_n 11 dX10_degreeOf_10 rfl rfl ?_
      refine bw_iload_n 12 dX10_degreeOf_11 rfl rfl ?_
      refine bw_ishr 13 dX10_degreeOf_12 rfl ?_
      refine bw_eqi (xn_shr k (by omega) hp) ?_
      refine bw_iconst (1) 14 dX10_degreeOf_13 (by decide) rfl ?_
      refine bw_iand 15 dX10_degreeOf_14 rfl ?_
      refine bw_eqi (xn_and1 (p / 2 ^ k)) ?_
      refine bw_iconst (1) 16 dX10_degreeOf_15 (by decide) rfl ?_
      refine bw_icmp_ne 21 19 dX10_degreeOf_16 rfl rfl (fun c16 => ?_) (fun c16 => ?_)
      · rw [if_neg (fun h => c16 ((xn_eq1 (by omega)).mpr h))] at ih
        refine bw_iincN (1) 24 dX10_degreeOf_21 rfl rfl (by decide) (by decide) ?_
        refine bw_goto 4 dX10_degreeOf_24 rfl ?_
        refine bw_loc [(0, .int (nI p)), (1, _), (2, .int (nI (k + 1)))] ⟨rfl, rfl, congrArg (fun x => some (Value.int x)) (nI_1 k), trivial⟩ ?_
        exact ih
      · rw [if_pos ((xn_eq1 (by omega)).mp c16)] at ih
        refine bw_iload_n 20 dX10_degreeOf_19 rfl rfl ?_
        refine bw_istore_n 21 dX10_degreeOf_20 rfl (by decide) ?_
        refine bw_iincN (1) 24 dX10_degreeOf_21 rfl rfl (by decide) (by decide) ?_
        refine bw_goto 4 dX10_degreeOf_24 rfl ?_
        refine bw_loc [(0, .int (nI p)), (1, _), (2, .int (nI (k + 1)))] ⟨rfl, rfl, congrArg (fun x => some (Value.int x)) (nI_1 k), trivial⟩ ?_
        exact ih
set_option maxHeartbeats 4000000 in
set_option maxRecDepth 100000 in
theorem c10_degreeOf (g : bw_G) {A : bw_H} {p : Nat} (hp : p < 2 ^ 31) : bw_C g (bw_rm 0 0 0) mX10_degreeOf [.int (nI p)] A (bw_pi (bdg p) A) := by
  have h0 : (-1 : Int32) = bdg (p % 2 ^ 0) := by
    rw [Nat.pow_zero, Nat.mod_one]; rfl
  refine bw_C.of (by decide) (Nat.le_of_ble_eq_true rfl) rfl ?_
  refine bw_iconst (-1) 1 dX10_degreeOf_0 (by decide) rfl ?_
  refine bw_istore_n 2 dX10_degreeOf_1 rfl (by decide) ?_
  refine bw_iconst (0) 3 dX10_degreeOf_2 (by decide) rfl ?_
  refine bw_istore_n 4 dX10_degreeOf_3 rfl (by decide) ?_
  refine bw_loc [(0, .int (nI p)), (1, .int (bdg (p % 2 ^ 0))), (2, .int (nI 0))] ⟨rfl, congrArg (fun x => some (Value.int x)) h0, rfl, trivial⟩ ?_
  exact c10_degreeOf_loop g hp 31 0 rfl
/-- the rest of r by d of degree deep: the highest m bits above it are freed -/
def brs (d deep : Nat) : Nat → Nat → Nat
  | 0, r => r
  | m + 1, r => brs d deep m (if r / 2 ^ (deep + m) % 2 = 1 then r ^^^ (d * 2 ^ m) else r)
def brest (p d : Nat) : Nat := brs d (Nat.log2 d) (17 - Nat.log2 d) p
set_option maxHeartbeats 4000000 in
set_option maxRecDepth 100000 in
theorem c10_restOf_loop (g : bw_G) {A : bw_H} {d deep : Nat} (hd : d < 2 ^ (deep + 1)) (h1 : 1 ≤ deep) (z : Nat) :
    ∀ (m r : Nat), deep + m ≤ 17 → r < 2 ^ 17 → brs d deep m r = z → bw_W g (bw_rm 1 0 0) mX10_restOf (bw_pi (nI z) A) 0 0 11 [(1, .int (nI d)), (2, .int (nI r)), (3, .int (nI deep)), (4, .int (nI (deep + m - 1)))] [] A := by
  intro m
  induction m with
  | zero =>
    intro r hm hr hz
    have hz : r = z := hz
    subst hz
    refine bw_iload 13 dX10_restOf_11 rfl rfl ?_
    refine bw_iload_n 14 dX10_restOf_13 rfl rfl ?_
    refine bw_icmp_lt 42 17 dX10_restOf_14 rfl rfl (fun c14 => ?_) (fun c14 => ?_)
    · refine bw_iload_n 43 dX10_restOf_42 rfl rfl ?_
      refine bw_iret dX10_restOf_43 rfl (Nat.le_of_ble_eq_true rfl) (Nat.le_of_ble_eq_true rfl) ?_
      exact ⟨rfl, rfl⟩
    · exact absurd (nI_lt (by omega) (by omega)) c14
  | succ m ih =>
    intro r hm hr hz
    rw [show deep + (m + 1) - 1 = deep + m by omega]
    have hz : brs d deep m (if r / 2 ^ (deep + m) % 2 = 1 then r ^^^ (d * 2 ^ m) else r) = z := hz
    have hdm : d * 2 ^ m < 2 ^ 17 := by
      have h2 : d * 2 ^ m < 2 ^ (deep + 1) * 2 ^ m := Nat.mul_lt_mul_of_pos_right hd (Nat.two_pow_pos m)
      rw [← Nat.pow_add] at h2
      exact Nat.lt_of_lt_of_le h2 (Nat.pow_le_pow_right (by omega) (by omega))
    have hd17 : d < 2 ^ 18 := Nat.lt_of_lt_of_le hd (Nat.pow_le_pow_right (by omega) (by omega))
    refine bw_iload 13 dX10_restOf_11 rfl rfl ?_
    refine bw_iload_n 14 dX10_restOf_13 rfl rfl ?_
    refine bw_icmp_lt 42 17 dX10_restOf_14 rfl rfl (fun c14 => ?_) (fun c14 => ?_)
    · exact absurd c14 (nI_nlt (by omega) (by omega))
    · skip
      refine bw_iload_n 18 dX10_restOf_17 rfl rfl ?_
      refine bw_iload 20 dX10_restOf_18 rfl rfl ?_
      refine bw_ishr 21 dX10_restOf_20 rfl ?_
      refine bw_eqi (xn_shr (deep + m) (by omega) (by omega)) ?_
      refine bw_iconst (1) 22 dX10_restOf_21 (by decide) rfl ?_
      refine bw_iand 23 dX10_restOf_22 rfl ?_
      refine bw_eqi (xn_and1 (r / 2 ^ (deep + m))) ?_
      refine bw_iconst (1) 24 dX10_restOf_23 (by decide) rfl ?_
      refine bw_icmp_ne 36 27 dX10_restOf_24 rfl rfl (fun c24 => ?_) (fun c24 => ?_)
      · rw [if_neg (fun h => c24 ((xn_eq1 (by omega)).mpr h))] at hz
        refine bw_iincN (-1) 39 dX10_restOf_36 rfl rfl (by decide) (by decide) ?_
        refine bw_goto 11 dX10_restOf_39 rfl ?_
        refine bw_loc [(1, .int (nI d)), (2, _), (3, .int (nI deep)), (4, .int (nI (deep + m - 1)))] ⟨rfl, rfl, rfl, congrArg (fun x => some (Value.int x)) (sb_m1 (p := deep + m) (by omega)), trivial⟩ ?_
        exact ih _ (by omega) (by assumption) hz
      · rw [if_pos ((xn_eq1 (by omega)).mp c24)] at hz
        have hr := xor_lt hr hdm
        refine bw_iload_n 28 dX10_restOf_27 rfl rfl ?_
        refine bw_iload_n 29 dX10_restOf_28 rfl rfl ?_
        refine bw_iload 31 dX10_restOf_29 rfl rfl ?_
        refine bw_iload_n 32 dX10_restOf_31 rfl rfl ?_
        refine bw_isub 33 dX10_restOf_32 rfl ?_
        refine bw_eqi ((pk_sub (a := deep + m) (b := deep) (by omega)).trans (congrArg nI (Nat.add_sub_cancel_left deep m))) ?_
        refine bw_ishl 34 dX10_restOf_33 rfl ?_
        refine bw_eqi (xn_shl m (by omega) (by omega)) ?_
        refine bw_ixor 35 dX10_restOf_34 rfl ?_
        refine bw_eqi (xn_xor r (d * 2 ^ m)) ?_
        refine bw_istore_n 36 dX10_restOf_35 rfl (by decide) ?_
        refine bw_iincN (-1) 39 dX10_restOf_36 rfl rfl (by decide) (by decide) ?_
        refine bw_goto 11 dX10_restOf_39 rfl ?_
        refine bw_loc [(1, .int (nI d)), (2, _), (3, .int (nI deep)), (4, .int (nI (deep + m - 1)))] ⟨rfl, rfl, rfl, congrArg (fun x => some (Value.int x)) (sb_m1 (p := deep + m) (by omega)), trivial⟩ ?_
        exact ih _ (by omega) (by assumption) hz
set_option maxHeartbeats 4000000 in
set_option maxRecDepth 100000 in
theorem c10_restOf (g : bw_G) {A : bw_H} {p d : Nat} (hp : p < 2 ^ 17) (hd : 2 ≤ d) (hd2 : d < 2 ^ 17) : bw_C g (bw_rm 1 0 0) mX10_restOf [.int (nI p), .int (nI d)] A (bw_pi (nI (brest p d)) A) := by
  have hdg : bdg d = nI (Nat.log2 d) := if_neg (by omega)
  have hl1 : 1 ≤ Nat.log2 d := (Nat.le_log2 (by omega)).mpr hd
  have hl2 : Nat.log2 d < 17 := (Nat.log2_lt (by omega)).mpr hd2
  refine bw_C.of (by decide) (Nat.le_of_ble_eq_true rfl) rfl ?_
  refine bw_iload_n 1 dX10_restOf_0 rfl rfl ?_
  refine bw_istore_n 2 dX10_restOf_1 rfl (by decide) ?_
  refine bw_iload_n 3 dX10_restOf_2 rfl rfl ?_
  refine bw_cSi 6 dX10_restOf_3 rfl sX10_99 (c10_degreeOf g (by omega)) rfl rfl (Nat.le_of_ble_eq_true rfl) ⟨(Nat.le_of_ble_eq_true rfl), (Nat.le_of_ble_eq_true rfl)⟩ (Nat.le_of_ble_eq_true rfl) (Nat.le_of_ble_eq_true rfl) ?_
  refine bw_eqi (hdg) ?_
  refine bw_istore_n 7 dX10_restOf_6 rfl (by decide) ?_
  refine bw_bipush (16) 9 dX10_restOf_7 (by decide) rfl ?_
  refine bw_istore 11 dX10_restOf_9 rfl (by decide) ?_
  refine bw_loc [(1, .int (nI d)), (2, .int (nI p)), (3, .int (nI (Nat.log2 d))), (4, .int (nI (Nat.log2 d + (17 - Nat.log2 d) - 1)))] ⟨rfl, rfl, rfl, congrArg (fun x => some (Value.int (nI x))) (show 16 = Nat.log2 d + (17 - Nat.log2 d) - 1 by omega), trivial⟩ ?_
  exact c10_restOf_loop g (Nat.lt_log2_self) hl1 _ _ p (by omega) hp rfl
/-- no number from 2 on below 2 to the h leaves p without rest -/
def bpr (p h : Nat) : Prop := ∀ d, 2 ≤ d → d < 2 ^ h → brest p d ≠ 0
theorem brs_lt {d deep : Nat} (hd : d < 2 ^ (deep + 1)) : ∀ (m r : Nat), deep + m ≤ 17 → r < 2 ^ 17 → brs d deep m r < 2 ^ 17
  | 0, _, _, hr => hr
  | m + 1, r, hm, hr => by
    show brs d deep m (if r / 2 ^ (deep + m) % 2 = 1 then r ^^^ (d * 2 ^ m) else r) < 2 ^ 17
    refine brs_lt hd m _ (by omega) ?_
    split
    · refine xor_lt hr ?_
      have h2 : d * 2 ^ m < 2 ^ (deep + 1) * 2 ^ m := Nat.mul_lt_mul_of_pos_right hd (Nat.two_pow_pos m)
      rw [← Nat.pow_add] at h2
      exact Nat.lt_of_lt_of_le h2 (Nat.pow_le_pow_right (by omega) (by omega))
    · exact hr
theorem brest_lt {p d : Nat} (hp : p < 2 ^ 17) (hd : 2 ≤ d) (hd2 : d < 2 ^ 17) : brest p d < 2 ^ 17 := by
  have hl2 : Nat.log2 d < 17 := (Nat.log2_lt (by omega)).mpr hd2
  exact brs_lt Nat.lt_log2_self _ p (by omega) hp
set_option maxHeartbeats 4000000 in
set_option maxRecDepth 100000 in
theorem c10_isPrime_end (g : bw_G) {A : bw_H} {M n p : Nat} {ms : List Value} (hn : n ≤ 16) (hC : bw_has A [(M, .inr (12, ms))]) (hb : ms[0]? = some (.int (nI n))) (d : Int32) : bw_W g (bw_rm 2 0 0) mX10_isPrime (bw_pi (nI 0) A) 0 0 4 [(0, .ref M), (1, .int (nI p)), (2, .int (nI 0)), (3, .int d)] [] A := by
  refine bw_iload_n 5 dX10_isPrime_4 rfl rfl ?_
  refine bw_iconst (2) 6 dX10_isPrime_5 (by decide) rfl ?_
  refine bw_aload_n 7 dX10_isPrime_6 rfl rfl ?_
  refine bw_get 10 dX10_isPrime_7 rfl lX10_75 (hC.at 0 rfl) hb ?_
  refine bw_iconst (2) 11 dX10_isPrime_10 (by decide) rfl ?_
  refine bw_idiv 12 dX10_isPrime_11 (by decide) rfl ?_
  refine bw_eqi ((pk_div (a := n) (d := 2) (by omega) (by omega) (by omega))) ?_
  refine bw_ishl 13 dX10_isPrime_12 rfl ?_
  refine bw_icmp_ge 40 16 dX10_isPrime_13 rfl rfl (fun c13 => ?_) (fun c13 => ?_)
  · refine bw_iload_n 41 dX10_isPrime_40 rfl rfl ?_
    refine bw_zret dX10_isPrime_41 rfl (by first | decide | assumption) (Nat.le_of_ble_eq_true rfl) (Nat.le_of_ble_eq_true rfl) ?_
    exact ⟨rfl, rfl⟩
  · refine bw_iload_n 17 dX10_isPrime_16 rfl rfl ?_
    refine bw_if_eq 40 20 dX10_isPrime_17 rfl rfl (fun c17 => ?_) (fun c17 => ?_)
    · refine bw_iload_n 41 dX10_isPrime_40 rfl rfl ?_
      refine bw_zret dX10_isPrime_41 rfl (by first | decide | assumption) (Nat.le_of_ble_eq_true rfl) (Nat.le_of_ble_eq_true rfl) ?_
      exact ⟨rfl, rfl⟩
    · exact absurd rfl c17
set_option maxHeartbeats 4000000 in
set_option maxRecDepth 100000 in
theorem c10_isPrime_loop (g : bw_G) {A : bw_H} {M n p z : Nat} {ms : List Value} (hn : n ≤ 16) (hC : bw_has A [(M, .inr (12, ms))]) (hb : ms[0]? = some (.int (nI n))) (hp : p < 2 ^ 17) (hz : z = 1 ∧ bpr p (n / 2 + 1) ∨ z = 0 ∧ ¬ bpr p (n / 2 + 1)) :
    ∀ (r d : Nat), d + r = 2 ^ (n / 2 + 1) → 2 ≤ d → (∀ e, 2 ≤ e → e < d → brest p e ≠ 0) → bw_W g (bw_rm 2 0 0) mX10_isPrime (bw_pi (nI z) A) 0 0 4 [(0, .ref M), (1, .int (nI p)), (2, .int (nI 1)), (3, .int (nI d))] [] A := by
  have hh : 2 ^ (n / 2 + 1) ≤ 2 ^ 9 := Nat.pow_le_pow_right (by omega) (by omega)
  intro r
  induction r with
  | zero =>
    intro d hd h2 hall
    have hd : d = 2 ^ (n / 2 + 1) := by omega
    have hz1 : z = 1 := by
      rcases hz with h | h
      · exact h.1
      · exact absurd (fun e h3 h4 => hall e h3 (by omega)) h.2
    subst hz1
    refine bw_iload_n 5 dX10_isPrime_4 rfl rfl ?_
    refine bw_iconst (2) 6 dX10_isPrime_5 (by decide) rfl ?_
    refine bw_aload_n 7 dX10_isPrime_6 rfl rfl ?_
    refine bw_get 10 dX10_isPrime_7 rfl lX10_75 (hC.at 0 rfl) hb ?_
    refine bw_iconst (2) 11 dX10_isPrime_10 (by decide) rfl ?_
    refine bw_idiv 12 dX10_isPrime_11 (by decide) rfl ?_
    refine bw_eqi ((pk_div (a := n) (d := 2) (by omega) (by omega) (by omega))) ?_
    refine bw_ishl 13 dX10_isPrime_12 rfl ?_
    refine bw_eqi ((xn_shl (a := 2) (n / 2) (by omega) (by have := Nat.pow_le_pow_right (n := 2) (by omega) (show n / 2 ≤ 8 by omega); omega)).trans (congrArg nI (show 2 * 2 ^ (n / 2) = 2 ^ (n / 2 + 1) by rw [Nat.pow_succ]; omega))) ?_
    refine bw_icmp_ge 40 16 dX10_isPrime_13 rfl rfl (fun c13 => ?_) (fun c13 => ?_)
    · refine bw_iload_n 41 dX10_isPrime_40 rfl rfl ?_
      refine bw_zret dX10_isPrime_41 rfl (by first | decide | assumption) (Nat.le_of_ble_eq_true rfl) (Nat.le_of_ble_eq_true rfl) ?_
      exact ⟨rfl, rfl⟩
    · exact absurd (nI_le (by omega) (by omega)) c13
  | succ r ih =>
    intro d hd h2 hall
    have hrl : brest p d < 2 ^ 31 := Nat.lt_of_lt_of_le (brest_lt hp h2 (by omega)) (by omega)
    refine bw_iload_n 5 dX10_isPrime_4 rfl rfl ?_
    refine bw_iconst (2) 6 dX10_isPrime_5 (by decide) rfl ?_
    refine bw_aload_n 7 dX10_isPrime_6 rfl rfl ?_
    refine bw_get 10 dX10_isPrime_7 rfl lX10_75 (hC.at 0 rfl) hb ?_
    refine bw_iconst (2) 11 dX10_isPrime_10 (by decide) rfl ?_
    refine bw_idiv 12 dX10_isPrime_11 (by decide) rfl ?_
    refine bw_eqi ((pk_div (a := n) (d := 2) (by omega) (by omega) (by omega))) ?_
    refine bw_ishl 13 dX10_isPrime_12 rfl ?_
    refine bw_eqi ((xn_shl (a := 2) (n / 2) (by omega) (by have := Nat.pow_le_pow_right (n := 2) (by omega) (show n / 2 ≤ 8 by omega); omega)).trans (congrArg nI (show 2 * 2 ^ (n / 2) = 2 ^ (n / 2 + 1) by rw [Nat.pow_succ]; omega))) ?_
    refine bw_icmp_ge 40 16 dX10_isPrime_13 rfl rfl (fun c13 => ?_) (fun c13 => ?_)
    · exact absurd c13 (nI_ge (by omega) (by omega))
    · skip
      refine bw_iload_n 17 dX10_isPrime_16 rfl rfl ?_
      refine bw_if_eq 40 20 dX10_isPrime_17 rfl rfl (fun c17 => ?_) (fun c17 => ?_)
      · exact absurd c17 (by decide)
      · refine bw_iload_n 21 dX10_isPrime_20 rfl rfl ?_
        refine bw_iload_n 22 dX10_isPrime_21 rfl rfl ?_
        refine bw_cSi 25 dX10_isPrime_22 rfl sX10_95 (c10_restOf g hp h2 (by omega)) rfl rfl (Nat.le_of_ble_eq_true rfl) ⟨(Nat.le_of_ble_eq_true rfl), (Nat.le_of_ble_eq_true rfl)⟩ (Nat.le_of_ble_eq_true rfl) (Nat.le_of_ble_eq_true rfl) ?_
        refine bw_if_eq 32 28 dX10_isPrime_25 rfl rfl (fun c25 => ?_) (fun c25 => ?_)
        · have hr0 : brest p d = 0 := (xn_eq0 hrl).mp c25
          have hz0 : z = 0 := by
            rcases hz with h | h
            · exact absurd hr0 (h.2 d h2 (by omega))
            · exact h.1
          subst hz0
          refine bw_iconst (0) 33 dX10_isPrime_32 (by decide) rfl ?_
          refine bw_istore_n 34 dX10_isPrime_33 rfl (by decide) ?_
          refine bw_iincN (1) 37 dX10_isPrime_34 rfl rfl (by decide) (by decide) ?_
          refine bw_goto 4 dX10_isPrime_37 rfl ?_
          refine bw_loc [(0, .ref M), (1, .int (nI p)), (2, .int (nI 0)), (3, _)] ⟨rfl, rfl, rfl, rfl, trivial⟩ ?_
          exact c10_isPrime_end g hn hC hb _
        · have hr0 : brest p d ≠ 0 := fun h => c25 ((xn_eq0 hrl).mpr h)
          refine bw_iconst (1) 29 dX10_isPrime_28 (by decide) rfl ?_
          refine bw_goto 33 dX10_isPrime_29 rfl ?_
          refine bw_istore_n 34 dX10_isPrime_33 rfl (by decide) ?_
          refine bw_iincN (1) 37 dX10_isPrime_34 rfl rfl (by decide) (by decide) ?_
          refine bw_goto 4 dX10_isPrime_37 rfl ?_
          refine bw_loc [(0, .ref M), (1, .int (nI p)), (2, .int (nI 1)), (3, .int (nI (d + 1)))] ⟨rfl, rfl, rfl, congrArg (fun x => some (Value.int x)) (nI_1 d), trivial⟩ ?_
          exact ih (d + 1) (by omega) (by omega) (fun e h3 h4 => (Nat.lt_or_ge e d).elim (fun h5 => hall e h3 h5) (fun h5 => by rw [show e = d by omega]; exact hr0))
set_option maxHeartbeats 4000000 in
set_option maxRecDepth 100000 in
theorem c10_isPrime (g : bw_G) {A : bw_H} {M n p z : Nat} {ms : List Value} (hn : n ≤ 16) (hC : bw_has A [(M, .inr (12, ms))]) (hb : ms[0]? = some (.int (nI n))) (hp : p < 2 ^ 17) (hz : z = 1 ∧ bpr p (n / 2 + 1) ∨ z = 0 ∧ ¬ bpr p (n / 2 + 1)) :
    bw_C g (bw_rm 2 0 0) mX10_isPrime [.ref M, .int (nI p)] A (bw_pi (nI z) A) := by
  have hh : 2 ^ 1 ≤ 2 ^ (n / 2 + 1) := Nat.pow_le_pow_right (by omega) (by omega)
  refine bw_C.of (by decide) (Nat.le_of_ble_eq_true rfl) rfl ?_
  refine bw_iconst (1) 1 dX10_isPrime_0 (by decide) rfl ?_
  refine bw_istore_n 2 dX10_isPrime_1 rfl (by decide) ?_
  refine bw_iconst (2) 3 dX10_isPrime_2 (by decide) rfl ?_
  refine bw_istore_n 4 dX10_isPrime_3 rfl (by decide) ?_
  refine bw_loc [(0, .ref M), (1, .int (nI p)), (2, .int (nI 1)), (3, .int (nI 2))] ⟨rfl, rfl, rfl, rfl, trivial⟩ ?_
  exact c10_isPrime_loop g hn hC hb hp hz (2 ^ (n / 2 + 1) - 2) 2 (by omega) (by omega) (fun e h3 h4 => absurd h4 (by omega))
