/-! the class's Field, ahead of its tables -/
theorem xn_dec {m : Nat} (c : Int32) (k : Nat) (hc : c = -(nI k)) (h : k ≤ m) : nI m + c = nI (m - k) := by
  rw [hc, ← Int32.sub_eq_add_neg, pk_sub h]
theorem nlz_end {x a y : Nat} (hy : y = x / 2 ^ a) (h1 : 1 ≤ y) (h4 : y < 4) (ha : a + 1 ≤ 31) : nI (31 - a) - nI (y / 2) = nI (31 - Nat.log2 x) := by
  have hx : x ≠ 0 := by intro h; rw [h, Nat.zero_div] at hy; omega
  have hl : Nat.log2 x = a + y / 2 := by
    have hp := Nat.two_pow_pos a
    have hlo : y * 2 ^ a ≤ x := by rw [hy]; exact Nat.div_mul_le_self x (2 ^ a)
    have hhi : x < (y + 1) * 2 ^ a := by
      rw [hy]
      have := Nat.lt_div_mul_add (a := x) hp
      rw [Nat.add_mul, Nat.one_mul]
      exact this
    rcases (show y = 1 ∨ y = 2 ∨ y = 3 by omega) with h | h | h
    · subst h
      rw [show a + 1 / 2 = a from rfl]
      refine log2_top (by omega) ?_
      rw [Nat.pow_succ]; omega
    · subst h
      refine log2_top (k := a + 2 / 2) (by rw [Nat.pow_succ]; omega) ?_
      rw [Nat.pow_succ, Nat.pow_succ]; omega
    · subst h
      refine log2_top (k := a + 3 / 2) (by rw [Nat.pow_succ]; omega) ?_
      rw [Nat.pow_succ, Nat.pow_succ]; omega
  rw [pk_sub (by omega), hl]
  congr 1
  omega
set_option maxHeartbeats 4000000 in
set_option maxRecDepth 100000 in
theorem cJ6_nlz73 (g : bw_G) {A : bw_H} {x a y : Nat} (hy : y = x / 2 ^ a) (h1 : 1 ≤ y) (h4 : y < 4) (ha : a + 1 ≤ 31) : bw_W g (bw_rm 0 0 0) mJ6_numberOfLeadingZeros_0f7a4 (bw_pi (nI (31 - Nat.log2 x)) A) 0 0 73 [(0, .int (nI y)), (1, .int (nI (31 - a)))] [] A := by
  refine bw_iload_n 74 dJ6_numberOfLeadingZeros_0f7a4_73 rfl rfl ?_
  refine bw_iload_n 75 dJ6_numberOfLeadingZeros_0f7a4_74 rfl rfl ?_
  refine bw_iconst (1) 76 dJ6_numberOfLeadingZeros_0f7a4_75 (by decide) rfl ?_
  refine bw_iushr 77 dJ6_numberOfLeadingZeros_0f7a4_76 rfl ?_
  refine bw_eqi (xn_ushr 1 (by omega) (by omega)) ?_
  refine bw_isub 78 dJ6_numberOfLeadingZeros_0f7a4_77 rfl ?_
  refine bw_iret dJ6_numberOfLeadingZeros_0f7a4_78 rfl (Nat.le_of_ble_eq_true rfl) (Nat.le_of_ble_eq_true rfl) ?_
  exact ⟨congrArg (fun x => Sum.inl (some (Value.int x))) (nlz_end hy h1 h4 ha), rfl⟩
set_option maxHeartbeats 4000000 in
set_option maxRecDepth 100000 in
theorem cJ6_nlz61 (g : bw_G) {A : bw_H} {x a y : Nat} (hy : y = x / 2 ^ a) (h1 : 1 ≤ y) (h16 : y < 16) (ha : a ≤ 28) : bw_W g (bw_rm 0 0 0) mJ6_numberOfLeadingZeros_0f7a4 (bw_pi (nI (31 - Nat.log2 x)) A) 0 0 61 [(0, .int (nI y)), (1, .int (nI (31 - a)))] [] A := by
  refine bw_iload_n 62 dJ6_numberOfLeadingZeros_0f7a4_61 rfl rfl ?_
  refine bw_iconst (4) 63 dJ6_numberOfLeadingZeros_0f7a4_62 (by decide) rfl ?_
  refine bw_icmp_lt 73 66 dJ6_numberOfLeadingZeros_0f7a4_63 rfl rfl (fun c63 => ?_) (fun c63 => ?_)
  · have h4 : y < 4 := (nI_ltI (b := 4) (by omega) (by omega)).mp c63
    exact cJ6_nlz73 g hy h1 h4 (by omega)
  · have h4 : 4 ≤ y := Nat.not_lt.mp (fun h => c63 ((nI_ltI (b := 4) (by omega) (by omega)).mpr h))
    refine bw_iincN (-2) 69 dJ6_numberOfLeadingZeros_0f7a4_66 rfl rfl (by decide) (by decide) ?_
    refine bw_iload_n 70 dJ6_numberOfLeadingZeros_0f7a4_69 rfl rfl ?_
    refine bw_iconst (2) 71 dJ6_numberOfLeadingZeros_0f7a4_70 (by decide) rfl ?_
    refine bw_iushr 72 dJ6_numberOfLeadingZeros_0f7a4_71 rfl ?_
    refine bw_eqi (xn_ushr 2 (by omega) (by omega)) ?_
    refine bw_istore_n 73 dJ6_numberOfLeadingZeros_0f7a4_72 rfl (by decide) ?_
    refine bw_loc [(0, .int (nI (y / 2 ^ 2))), (1, .int (nI (31 - (a + 2))))] ⟨rfl, congrArg (fun x => some (Value.int x)) ((xn_dec _ 2 rfl (by omega)).trans (congrArg nI (by omega))), trivial⟩ ?_
    exact cJ6_nlz73 g (by rw [hy, Nat.div_div_eq_div_mul, ← Nat.pow_add]) (by omega) (by omega) (by omega)
set_option maxHeartbeats 4000000 in
set_option maxRecDepth 100000 in
theorem cJ6_nlz48 (g : bw_G) {A : bw_H} {x a y : Nat} (hy : y = x / 2 ^ a) (h1 : 1 ≤ y) (h16 : y < 256) (ha : a ≤ 24) : bw_W g (bw_rm 0 0 0) mJ6_numberOfLeadingZeros_0f7a4 (bw_pi (nI (31 - Nat.log2 x)) A) 0 0 48 [(0, .int (nI y)), (1, .int (nI (31 - a)))] [] A := by
  refine bw_iload_n 49 dJ6_numberOfLeadingZeros_0f7a4_48 rfl rfl ?_
  refine bw_bipush (16) 51 dJ6_numberOfLeadingZeros_0f7a4_49 (by decide) rfl ?_
  refine bw_icmp_lt 61 54 dJ6_numberOfLeadingZeros_0f7a4_51 rfl rfl (fun c51 => ?_) (fun c51 => ?_)
  · have h4 : y < 16 := (nI_ltI (b := 16) (by omega) (by omega)).mp c51
    exact cJ6_nlz61 g hy h1 h4 (by omega)
  · have h4 : 16 ≤ y := Nat.not_lt.mp (fun h => c51 ((nI_ltI (b := 16) (by omega) (by omega)).mpr h))
    refine bw_iincN (-4) 57 dJ6_numberOfLeadingZeros_0f7a4_54 rfl rfl (by decide) (by decide) ?_
    refine bw_iload_n 58 dJ6_numberOfLeadingZeros_0f7a4_57 rfl rfl ?_
    refine bw_iconst (4) 59 dJ6_numberOfLeadingZeros_0f7a4_58 (by decide) rfl ?_
    refine bw_iushr 60 dJ6_numberOfLeadingZeros_0f7a4_59 rfl ?_
    refine bw_eqi (xn_ushr 4 (by omega) (by omega)) ?_
    refine bw_istore_n 61 dJ6_numberOfLeadingZeros_0f7a4_60 rfl (by decide) ?_
    refine bw_loc [(0, .int (nI (y / 2 ^ 4))), (1, .int (nI (31 - (a + 4))))] ⟨rfl, congrArg (fun x => some (Value.int x)) ((xn_dec _ 4 rfl (by omega)).trans (congrArg nI (by omega))), trivial⟩ ?_
    exact cJ6_nlz61 g (by rw [hy, Nat.div_div_eq_div_mul, ← Nat.pow_add]) (by omega) (by omega) (by omega)
set_option maxHeartbeats 4000000 in
set_option maxRecDepth 100000 in
theorem cJ6_nlz33 (g : bw_G) {A : bw_H} {x a y : Nat} (hy : y = x / 2 ^ a) (h1 : 1 ≤ y) (h16 : y < 65536) (ha : a ≤ 16) : bw_W g (bw_rm 0 0 0) mJ6_numberOfLeadingZeros_0f7a4 (bw_pi (nI (31 - Nat.log2 x)) A) 0 0 33 [(0, .int (nI y)), (1, .int (nI (31 - a)))] [] A := by
  refine bw_iload_n 34 dJ6_numberOfLeadingZeros_0f7a4_33 rfl rfl ?_
  refine bw_sipush (256) 37 dJ6_numberOfLeadingZeros_0f7a4_34 (by decide) rfl ?_
  refine bw_icmp_lt 48 40 dJ6_numberOfLeadingZeros_0f7a4_37 rfl rfl (fun c37 => ?_) (fun c37 => ?_)
  · have h4 : y < 256 := (nI_ltI (b := 256) (by omega) (by omega)).mp c37
    exact cJ6_nlz48 g hy h1 h4 (by omega)
  · have h4 : 256 ≤ y := Nat.not_lt.mp (fun h => c37 ((nI_ltI (b := 256) (by omega) (by omega)).mpr h))
    refine bw_iincN (-8) 43 dJ6_numberOfLeadingZeros_0f7a4_40 rfl rfl (by decide) (by decide) ?_
    refine bw_iload_n 44 dJ6_numberOfLeadingZeros_0f7a4_43 rfl rfl ?_
    refine bw_bipush (8) 46 dJ6_numberOfLeadingZeros_0f7a4_44 (by decide) rfl ?_
    refine bw_iushr 47 dJ6_numberOfLeadingZeros_0f7a4_46 rfl ?_
    refine bw_eqi (xn_ushr 8 (by omega) (by omega)) ?_
    refine bw_istore_n 48 dJ6_numberOfLeadingZeros_0f7a4_47 rfl (by decide) ?_
    refine bw_loc [(0, .int (nI (y / 2 ^ 8))), (1, .int (nI (31 - (a + 8))))] ⟨rfl, congrArg (fun x => some (Value.int x)) ((xn_dec _ 8 rfl (by omega)).trans (congrArg nI (by omega))), trivial⟩ ?_
    exact cJ6_nlz48 g (by rw [hy, Nat.div_div_eq_div_mul, ← Nat.pow_add]) (by omega) (by omega) (by omega)
set_option maxHeartbeats 4000000 in
set_option maxRecDepth 100000 in
theorem cJ6_nlz (g : bw_G) {A : bw_H} {x : Nat} (h0 : x ≠ 0) (hx : x < 2 ^ 31) : bw_C g (bw_rm 0 0 0) mJ6_numberOfLeadingZeros_0f7a4 [.int (nI x)] A (bw_pi (nI (31 - Nat.log2 x)) A) := by
  refine bw_C.of (by decide) (Nat.le_of_ble_eq_true rfl) rfl ?_
  refine bw_iload_n 1 dJ6_numberOfLeadingZeros_0f7a4_0 rfl rfl ?_
  refine bw_if_gt 15 4 dJ6_numberOfLeadingZeros_0f7a4_1 rfl rfl (fun c1 => ?_) (fun c1 => ?_)
  · refine bw_bipush (31) 17 dJ6_numberOfLeadingZeros_0f7a4_15 (by decide) rfl ?_
    refine bw_istore_n 18 dJ6_numberOfLeadingZeros_0f7a4_17 rfl (by decide) ?_
    refine bw_iload_n 19 dJ6_numberOfLeadingZeros_0f7a4_18 rfl rfl ?_
    refine bw_ldcw 22 dJ6_numberOfLeadingZeros_0f7a4_19 kJ6_264 rfl ?_
    refine bw_icmp_lt 33 25 dJ6_numberOfLeadingZeros_0f7a4_22 rfl rfl (fun c22 => ?_) (fun c22 => ?_)
    · have h4 : x < 65536 := (nI_ltI (b := 65536) (by omega) (by omega)).mp c22
      refine bw_loc [(0, .int (nI x)), (1, .int (nI (31 - 0)))] ⟨rfl, rfl, trivial⟩ ?_
      exact cJ6_nlz33 g (by simp) (by omega) h4 (by omega)
    · have h4 : 65536 ≤ x := Nat.not_lt.mp (fun h => c22 ((nI_ltI (b := 65536) (by omega) (by omega)).mpr h))
      refine bw_iincN (-16) 28 dJ6_numberOfLeadingZeros_0f7a4_25 rfl rfl (by decide) (by decide) ?_
      refine bw_iload_n 29 dJ6_numberOfLeadingZeros_0f7a4_28 rfl rfl ?_
      refine bw_bipush (16) 31 dJ6_numberOfLeadingZeros_0f7a4_29 (by decide) rfl ?_
      refine bw_iushr 32 dJ6_numberOfLeadingZeros_0f7a4_31 rfl ?_
      refine bw_eqi (xn_ushr 16 (by omega) (by omega)) ?_
      refine bw_istore_n 33 dJ6_numberOfLeadingZeros_0f7a4_32 rfl (by decide) ?_
      refine bw_loc [(0, .int (nI (x / 2 ^ 16))), (1, .int (nI (31 - (0 + 16))))] ⟨rfl, rfl, trivial⟩ ?_
      exact cJ6_nlz33 g rfl (by omega) (by omega) (by omega)
  · exact absurd (Int32.not_le.mp (fun h => h0 ((xn_le0 hx).mp h))) c1
set_option maxHeartbeats 4000000 in
set_option maxRecDepth 100000 in
theorem c3_highestBit (g : bw_G) {A : bw_H} {x : Nat} (h0 : x ≠ 0) (hx : x < 2 ^ 31) : bw_C g (bw_rm 1 0 0) mX3_highestBit [.int (nI x)] A (bw_pi (nI (Nat.log2 x)) A) := by
  have hl : Nat.log2 x < 31 := (Nat.log2_lt h0).mpr hx
  refine bw_C.of (by decide) (Nat.le_of_ble_eq_true rfl) rfl ?_
  refine bw_bipush (31) 2 dX3_highestBit_0 (by decide) rfl ?_
  refine bw_iload_n 3 dX3_highestBit_2 rfl rfl ?_
  refine bw_cSi 6 dX3_highestBit_3 rfl sX3_51 (cJ6_nlz g h0 hx) rfl rfl (Nat.le_of_ble_eq_true rfl) ⟨(Nat.le_of_ble_eq_true rfl), (Nat.le_of_ble_eq_true rfl)⟩ (Nat.le_of_ble_eq_true rfl) (Nat.le_of_ble_eq_true rfl) ?_
  refine bw_isub 7 dX3_highestBit_6 rfl ?_
  refine bw_eqi ((pk_sub (a := 31) (b := 31 - Nat.log2 x) (by omega)).trans (congrArg nI (show 31 - (31 - Nat.log2 x) = Nat.log2 x by omega))) ?_
  refine bw_iret dX3_highestBit_7 rfl (Nat.le_of_ble_eq_true rfl) (Nat.le_of_ble_eq_true rfl) ?_
  exact ⟨rfl, rfl⟩
set_option maxHeartbeats 4000000 in
set_option maxRecDepth 100000 in
theorem c3_restOfBits_loop (g : bw_G) {A : bw_H} {d deep : Nat} (hd : d < 2 ^ (deep + 1)) (h1 : 1 ≤ deep) (z : Nat) :
    ∀ (m r : Nat), deep + m ≤ 17 → r < 2 ^ 17 → brs d deep m r = z → bw_W g (bw_rm 2 0 0) mX3_restOfBits (bw_pi (nI z) A) 0 0 13 [(1, .int (nI d)), (3, .int (nI r)), (2, .int (nI deep)), (4, .int (nI (deep + m - 1)))] [] A := by
  intro m
  induction m with
  | zero =>
    intro r hm hr hz
    have hz : r = z := hz
    subst hz
    refine bw_iload 15 dX3_restOfBits_13 rfl rfl ?_
    refine bw_iload_n 16 dX3_restOfBits_15 rfl rfl ?_
    refine bw_icmp_lt 43 19 dX3_restOfBits_16 rfl rfl (fun c16 => ?_) (fun c16 => ?_)
    · refine bw_iload_n 44 dX3_restOfBits_43 rfl rfl ?_
      refine bw_iret dX3_restOfBits_44 rfl (Nat.le_of_ble_eq_true rfl) (Nat.le_of_ble_eq_true rfl) ?_
      exact ⟨rfl, rfl⟩
    · exact absurd (nI_lt (by omega) (by omega)) c16
  | succ m ih =>
    intro r hm hr hz
    rw [show deep + (m + 1) - 1 = deep + m by omega]
    have hz : brs d deep m (if r / 2 ^ (deep + m) % 2 = 1 then r ^^^ (d * 2 ^ m) else r) = z := hz
    have hdm : d * 2 ^ m < 2 ^ 17 := by
      have h2 : d * 2 ^ m < 2 ^ (deep + 1) * 2 ^ m := Nat.mul_lt_mul_of_pos_right hd (Nat.two_pow_pos m)
      rw [← Nat.pow_add] at h2
      exact Nat.lt_of_lt_of_le h2 (Nat.pow_le_pow_right (by omega) (by omega))
    have hd17 : d < 2 ^ 18 := Nat.lt_of_lt_of_le hd (Nat.pow_le_pow_right (by omega) (by omega))
    refine bw_iload 15 dX3_restOfBits_13 rfl rfl ?_
    refine bw_iload_n 16 dX3_restOfBits_15 rfl rfl ?_
    refine bw_icmp_lt 43 19 dX3_restOfBits_16 rfl rfl (fun c16 => ?_) (fun c16 => ?_)
    · exact absurd c16 (nI_nlt (by omega) (by omega))
    · skip
      refine bw_iload_n 20 dX3_restOfBits_19 rfl rfl ?_
      refine bw_iload 22 dX3_restOfBits_20 rfl rfl ?_
      refine bw_ishr 23 dX3_restOfBits_22 rfl ?_
      refine bw_eqi (xn_shr (deep + m) (by omega) (by omega)) ?_
      refine bw_iconst (1) 24 dX3_restOfBits_23 (by decide) rfl ?_
      refine bw_iand 25 dX3_restOfBits_24 rfl ?_
      refine bw_eqi (xn_and1 (r / 2 ^ (deep + m))) ?_
      refine bw_if_eq 37 28 dX3_restOfBits_25 rfl rfl (fun c25 => ?_) (fun c25 => ?_)
      · rw [if_neg (fun h => by rw [h] at c25; exact absurd c25 (by decide))] at hz
        refine bw_iincN (-1) 40 dX3_restOfBits_37 rfl rfl (by decide) (by decide) ?_
        refine bw_goto 13 dX3_restOfBits_40 rfl ?_
        refine bw_loc [(1, .int (nI d)), (3, _), (2, .int (nI deep)), (4, .int (nI (deep + m - 1)))] ⟨rfl, rfl, rfl, congrArg (fun x => some (Value.int x)) (sb_m1 (p := deep + m) (by omega)), trivial⟩ ?_
        exact ih _ (by omega) (by assumption) hz
      · rw [if_pos ((Nat.mod_two_eq_zero_or_one _).resolve_left (fun h => c25 (by rw [h]; rfl)))] at hz
        have hr := xor_lt hr hdm
        refine bw_iload_n 29 dX3_restOfBits_28 rfl rfl ?_
        refine bw_iload_n 30 dX3_restOfBits_29 rfl rfl ?_
        refine bw_iload 32 dX3_restOfBits_30 rfl rfl ?_
        refine bw_iload_n 33 dX3_restOfBits_32 rfl rfl ?_
        refine bw_isub 34 dX3_restOfBits_33 rfl ?_
        refine bw_eqi ((pk_sub (a := deep + m) (b := deep) (by omega)).trans (congrArg nI (Nat.add_sub_cancel_left deep m))) ?_
        refine bw_ishl 35 dX3_restOfBits_34 rfl ?_
        refine bw_eqi (xn_shl m (by omega) (by omega)) ?_
        refine bw_ixor 36 dX3_restOfBits_35 rfl ?_
        refine bw_eqi (xn_xor r (d * 2 ^ m)) ?_
        refine bw_istore_n 37 dX3_restOfBits_36 rfl (by decide) ?_
        refine bw_iincN (-1) 40 dX3_restOfBits_37 rfl rfl (by decide) (by decide) ?_
        refine bw_goto 13 dX3_restOfBits_40 rfl ?_
        refine bw_loc [(1, .int (nI d)), (3, _), (2, .int (nI deep)), (4, .int (nI (deep + m - 1)))] ⟨rfl, rfl, rfl, congrArg (fun x => some (Value.int x)) (sb_m1 (p := deep + m) (by omega)), trivial⟩ ?_
        exact ih _ (by omega) (by assumption) hz
theorem brs_skip {d deep : Nat} : ∀ (j m r : Nat), r < 2 ^ (deep + m) → brs d deep (m + j) r = brs d deep m r
  | 0, _, _, _ => rfl
  | j + 1, m, r, h => by
    show brs d deep (m + j) (if r / 2 ^ (deep + (m + j)) % 2 = 1 then r ^^^ (d * 2 ^ (m + j)) else r) = _
    have h0 : r / 2 ^ (deep + (m + j)) = 0 := Nat.div_eq_of_lt (Nat.lt_of_lt_of_le h (Nat.pow_le_pow_right (by omega) (by omega)))
    rw [h0, if_neg (by decide)]
    exact brs_skip j m r h
set_option maxHeartbeats 4000000 in
set_option maxRecDepth 100000 in
theorem c3_restOfBits (g : bw_G) {A : bw_H} {p d n : Nat} (hn : n ≤ 16) (hp : 2 ^ n ≤ p) (hp2 : p < 2 ^ (n + 1)) (hd : 2 ≤ d) (hd2 : d < 2 ^ n) : bw_C g (bw_rm 2 0 0) mX3_restOfBits [.int (nI p), .int (nI d)] A (bw_pi (nI (brest p d)) A) := by
  have h17 : 2 ^ (n + 1) ≤ 2 ^ 17 := Nat.pow_le_pow_right (by omega) (by omega)
  have hpn := Nat.two_pow_pos n
  have hl1 : 1 ≤ Nat.log2 d := (Nat.le_log2 (by omega)).mpr hd
  have hl2 : Nat.log2 d < n := (Nat.log2_lt (by omega)).mpr hd2
  have hlp : Nat.log2 p = n := log2_top hp hp2
  have hz : brest p d = brs d (Nat.log2 d) (n + 1 - Nat.log2 d) p := by
    have := brs_skip (d := d) (deep := Nat.log2 d) (16 - n) (n + 1 - Nat.log2 d) p (by rw [show Nat.log2 d + (n + 1 - Nat.log2 d) = n + 1 by omega]; exact hp2)
    rw [show n + 1 - Nat.log2 d + (16 - n) = 17 - Nat.log2 d by omega] at this
    exact this
  refine bw_C.of (by decide) (Nat.le_of_ble_eq_true rfl) rfl ?_
  refine bw_iload_n 1 dX3_restOfBits_0 rfl rfl ?_
  refine bw_cSi 4 dX3_restOfBits_1 rfl sX3_47 (c3_highestBit g (by omega) (by omega)) rfl rfl (Nat.le_of_ble_eq_true rfl) ⟨(Nat.le_of_ble_eq_true rfl), (Nat.le_of_ble_eq_true rfl)⟩ (Nat.le_of_ble_eq_true rfl) (Nat.le_of_ble_eq_true rfl) ?_
  refine bw_istore_n 5 dX3_restOfBits_4 rfl (by decide) ?_
  refine bw_iload_n 6 dX3_restOfBits_5 rfl rfl ?_
  refine bw_istore_n 7 dX3_restOfBits_6 rfl (by decide) ?_
  refine bw_iload_n 8 dX3_restOfBits_7 rfl rfl ?_
  refine bw_cSi 11 dX3_restOfBits_8 rfl sX3_47 (c3_highestBit g (by omega) (by omega)) rfl rfl (Nat.le_of_ble_eq_true rfl) ⟨(Nat.le_of_ble_eq_true rfl), (Nat.le_of_ble_eq_true rfl)⟩ (Nat.le_of_ble_eq_true rfl) (Nat.le_of_ble_eq_true rfl) ?_
  refine bw_istore 13 dX3_restOfBits_11 rfl (by decide) ?_
  refine bw_loc [(1, .int (nI d)), (3, .int (nI p)), (2, .int (nI (Nat.log2 d))), (4, .int (nI (Nat.log2 d + (n + 1 - Nat.log2 d) - 1)))] ⟨rfl, rfl, rfl, congrArg (fun x => some (Value.int (nI x))) (show Nat.log2 p = Nat.log2 d + (n + 1 - Nat.log2 d) - 1 by omega), trivial⟩ ?_
  exact c3_restOfBits_loop g (Nat.lt_log2_self) hl1 _ _ p (by omega) (by omega) hz.symm
set_option maxHeartbeats 4000000 in
set_option maxRecDepth 100000 in
theorem c3_splits_loop (g : bw_G) {A : bw_H} {n p z : Nat} (hn : n ≤ 16) (hn2 : 2 ≤ n) (hp : 2 ^ n ≤ p) (hp2 : p < 2 ^ (n + 1)) (hz : z = 0 ∧ bpr p (n / 2 + 1) ∨ z = 1 ∧ ¬ bpr p (n / 2 + 1)) :
    ∀ (r d : Nat), d + r = 2 ^ (n / 2 + 1) → 2 ≤ d → (∀ e, 2 ≤ e → e < d → brest p e ≠ 0) → bw_W g (bw_rm 3 0 0) mX3_splits (bw_pi (nI z) A) 0 0 10 [(0, .int (nI p)), (2, .int (nI (2 ^ (n / 2 + 1)))), (3, .int (nI d))] [] A := by
  have hh : 2 ^ (n / 2 + 1) ≤ 2 ^ 9 := Nat.pow_le_pow_right (by omega) (by omega)
  have hh2 : 2 ^ (n / 2 + 1) ≤ 2 ^ n := Nat.pow_le_pow_right (by omega) (by omega)
  have h17 : 2 ^ (n + 1) ≤ 2 ^ 17 := Nat.pow_le_pow_right (by omega) (by omega)
  intro r
  induction r with
  | zero =>
    intro d hd h2 hall
    have hz1 : z = 0 := by
      rcases hz with h | h
      · exact h.1
      · exact absurd (fun e h3 h4 => hall e h3 (by omega)) h.2
    subst hz1
    refine bw_iload_n 11 dX3_splits_10 rfl rfl ?_
    refine bw_iload_n 12 dX3_splits_11 rfl rfl ?_
    refine bw_icmp_ge 31 15 dX3_splits_12 rfl rfl (fun c12 => ?_) (fun c12 => ?_)
    · refine bw_iconst (0) 32 dX3_splits_31 (by decide) rfl ?_
      refine bw_zret dX3_splits_32 rfl (by first | decide | assumption) (Nat.le_of_ble_eq_true rfl) (Nat.le_of_ble_eq_true rfl) ?_
      exact ⟨rfl, rfl⟩
    · exact absurd (nI_le (by omega) (by omega)) c12
  | succ r ih =>
    intro d hd h2 hall
    have hrl : brest p d < 2 ^ 31 := Nat.lt_of_lt_of_le (brest_lt (by omega) h2 (by omega)) (by omega)
    refine bw_iload_n 11 dX3_splits_10 rfl rfl ?_
    refine bw_iload_n 12 dX3_splits_11 rfl rfl ?_
    refine bw_icmp_ge 31 15 dX3_splits_12 rfl rfl (fun c12 => ?_) (fun c12 => ?_)
    · exact absurd c12 (nI_ge (by omega) (by omega))
    · skip
      refine bw_iload_n 16 dX3_splits_15 rfl rfl ?_
      refine bw_iload_n 17 dX3_splits_16 rfl rfl ?_
      refine bw_cSi 20 dX3_splits_17 rfl sX3_44 (c3_restOfBits g hn hp hp2 h2 (by omega)) rfl rfl (Nat.le_of_ble_eq_true rfl) ⟨(Nat.le_of_ble_eq_true rfl), (Nat.le_of_ble_eq_true rfl)⟩ (Nat.le_of_ble_eq_true rfl) (Nat.le_of_ble_eq_true rfl) ?_
      refine bw_if_ne 25 23 dX3_splits_20 rfl rfl (fun c20 => ?_) (fun c20 => ?_)
      · have hr0 : brest p d ≠ 0 := fun h => c20 ((xn_eq0 hrl).mpr h)
        refine bw_iincN (1) 28 dX3_splits_25 rfl rfl (by decide) (by decide) ?_
        refine bw_goto 10 dX3_splits_28 rfl ?_
        refine bw_loc [(0, .int (nI p)), (2, .int (nI (2 ^ (n / 2 + 1)))), (3, .int (nI (d + 1)))] ⟨rfl, rfl, congrArg (fun x => some (Value.int x)) (nI_1 d), trivial⟩ ?_
        exact ih (d + 1) (by omega) (by omega) (fun e h3 h4 => (Nat.lt_or_ge e d).elim (fun h5 => hall e h3 h5) (fun h5 => by rw [show e = d by omega]; exact hr0))
      · have hr0 : brest p d = 0 := (xn_eq0 hrl).mp c20
        have hz0 : z = 1 := by
          rcases hz with h | h
          · exact absurd hr0 (h.2 d h2 (by omega))
          · exact h.1
        subst hz0
        refine bw_iconst (1) 24 dX3_splits_23 (by decide) rfl ?_
        refine bw_zret dX3_splits_24 rfl (by first | decide | assumption) (Nat.le_of_ble_eq_true rfl) (Nat.le_of_ble_eq_true rfl) ?_
        exact ⟨rfl, rfl⟩
set_option maxHeartbeats 4000000 in
set_option maxRecDepth 100000 in
theorem c3_splits (g : bw_G) {A : bw_H} {n p z : Nat} (hn : n ≤ 16) (hn2 : 2 ≤ n) (hp : 2 ^ n ≤ p) (hp2 : p < 2 ^ (n + 1)) (hz : z = 0 ∧ bpr p (n / 2 + 1) ∨ z = 1 ∧ ¬ bpr p (n / 2 + 1)) :
    bw_C g (bw_rm 3 0 0) mX3_splits [.int (nI p), .int (nI n)] A (bw_pi (nI z) A) := by
  have hh : 2 ^ 1 ≤ 2 ^ (n / 2 + 1) := Nat.pow_le_pow_right (by omega) (by omega)
  have hh9 : 2 ^ (n / 2 + 1) ≤ 2 ^ 9 := Nat.pow_le_pow_right (by omega) (by omega)
  refine bw_C.of (by decide) (Nat.le_of_ble_eq_true rfl) rfl ?_
  refine bw_iconst (1) 1 dX3_splits_0 (by decide) rfl ?_
  refine bw_iload_n 2 dX3_splits_1 rfl rfl ?_
  refine bw_iconst (2) 3 dX3_splits_2 (by decide) rfl ?_
  refine bw_idiv 4 dX3_splits_3 (by decide) rfl ?_
  refine bw_eqi (pk_div (a := n) (d := 2) (by omega) (by omega) (by omega)) ?_
  refine bw_iconst (1) 5 dX3_splits_4 (by decide) rfl ?_
  refine bw_iadd 6 dX3_splits_5 rfl ?_
  refine bw_eqi (nI_1 (n / 2)) ?_
  refine bw_ishl 7 dX3_splits_6 rfl ?_
  refine bw_eqi ((xn_shl (a := 1) (n / 2 + 1) (by omega) (by omega)).trans (congrArg nI (Nat.one_mul _))) ?_
  refine bw_istore_n 8 dX3_splits_7 rfl (by decide) ?_
  refine bw_iconst (2) 9 dX3_splits_8 (by decide) rfl ?_
  refine bw_istore_n 10 dX3_splits_9 rfl (by decide) ?_
  refine bw_loc [(0, .int (nI p)), (2, .int (nI (2 ^ (n / 2 + 1)))), (3, .int (nI 2))] ⟨rfl, rfl, rfl, trivial⟩ ?_
  exact c3_splits_loop g hn hn2 hp hp2 hz (2 ^ (n / 2 + 1) - 2) 2 (by omega) (by omega) (fun e h3 h4 => absurd h4 (by omega))
