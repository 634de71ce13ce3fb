/-! bits of small numbers; Minors -/
/-- how many of the lowest k bits are there -/
def gbc : Nat → Nat → Nat
  | 0, _ => 0
  | k + 1, v => gbc k v + v / 2 ^ k % 2
/-- how many bits ahead of the lowest -/
def gtz : Nat → Nat → Nat
  | 0, _ => 0
  | k + 1, x => if x % 2 = 1 then 0 else 1 + gtz k (x / 2)
def bcx1 (x : Int32) : Int32 := x - ((x.toUInt32 >>> ((1 : Int32).toUInt32 &&& Int32.toUInt32 31)).toInt32 &&& 1431655765)
def bcx2 (x : Int32) : Int32 := (x &&& 858993459) + ((x.toUInt32 >>> ((2 : Int32).toUInt32 &&& Int32.toUInt32 31)).toInt32 &&& 858993459)
def bcx3 (x : Int32) : Int32 := (x + (x.toUInt32 >>> ((4 : Int32).toUInt32 &&& Int32.toUInt32 31)).toInt32) &&& 252645135
def bcx4 (x : Int32) : Int32 := x + (x.toUInt32 >>> ((8 : Int32).toUInt32 &&& Int32.toUInt32 31)).toInt32
def bcx5 (x : Int32) : Int32 := x + (x.toUInt32 >>> ((16 : Int32).toUInt32 &&& Int32.toUInt32 31)).toInt32
theorem bcx_all : ∀ x, x < 256 → bcx5 (bcx4 (bcx3 (bcx2 (bcx1 (nI x))))) &&& 63 = nI (gbc 8 x) := by decide +kernel
set_option maxHeartbeats 4000000 in
set_option maxRecDepth 100000 in
theorem cJ6_bits (g : bw_G) {A : bw_H} {x : Nat} (hx : x < 256) : bw_C g (bw_rm 0 0 0) mJ6_bitCount_0f7a4 [.int (nI x)] A (bw_pi (nI (gbc 8 x)) A) := by
  refine bw_C.of (by decide) (Nat.le_of_ble_eq_true rfl) rfl ?_
  refine bw_iload_n 1 dJ6_bitCount_0f7a4_0 rfl rfl ?_
  refine bw_iload_n 2 dJ6_bitCount_0f7a4_1 rfl rfl ?_
  refine bw_iconst (1) 3 dJ6_bitCount_0f7a4_2 (by decide) rfl ?_
  refine bw_iushr 4 dJ6_bitCount_0f7a4_3 rfl ?_
  refine bw_ldcw 7 dJ6_bitCount_0f7a4_4 kJ6_265 rfl ?_
  refine bw_iand 8 dJ6_bitCount_0f7a4_7 rfl ?_
  refine bw_isub 9 dJ6_bitCount_0f7a4_8 rfl ?_
  refine bw_istore_n 10 dJ6_bitCount_0f7a4_9 rfl (by decide) ?_
  refine bw_iload_n 11 dJ6_bitCount_0f7a4_10 rfl rfl ?_
  refine bw_ldcw 14 dJ6_bitCount_0f7a4_11 kJ6_266 rfl ?_
  refine bw_iand 15 dJ6_bitCount_0f7a4_14 rfl ?_
  refine bw_iload_n 16 dJ6_bitCount_0f7a4_15 rfl rfl ?_
  refine bw_iconst (2) 17 dJ6_bitCount_0f7a4_16 (by decide) rfl ?_
  refine bw_iushr 18 dJ6_bitCount_0f7a4_17 rfl ?_
  refine bw_ldcw 21 dJ6_bitCount_0f7a4_18 kJ6_266 rfl ?_
  refine bw_iand 22 dJ6_bitCount_0f7a4_21 rfl ?_
  refine bw_iadd 23 dJ6_bitCount_0f7a4_22 rfl ?_
  refine bw_istore_n 24 dJ6_bitCount_0f7a4_23 rfl (by decide) ?_
  refine bw_iload_n 25 dJ6_bitCount_0f7a4_24 rfl rfl ?_
  refine bw_iload_n 26 dJ6_bitCount_0f7a4_25 rfl rfl ?_
  refine bw_iconst (4) 27 dJ6_bitCount_0f7a4_26 (by decide) rfl ?_
  refine bw_iushr 28 dJ6_bitCount_0f7a4_27 rfl ?_
  refine bw_iadd 29 dJ6_bitCount_0f7a4_28 rfl ?_
  refine bw_ldcw 32 dJ6_bitCount_0f7a4_29 kJ6_267 rfl ?_
  refine bw_iand 33 dJ6_bitCount_0f7a4_32 rfl ?_
  refine bw_istore_n 34 dJ6_bitCount_0f7a4_33 rfl (by decide) ?_
  refine bw_iload_n 35 dJ6_bitCount_0f7a4_34 rfl rfl ?_
  refine bw_iload_n 36 dJ6_bitCount_0f7a4_35 rfl rfl ?_
  refine bw_bipush (8) 38 dJ6_bitCount_0f7a4_36 (by decide) rfl ?_
  refine bw_iushr 39 dJ6_bitCount_0f7a4_38 rfl ?_
  refine bw_iadd 40 dJ6_bitCount_0f7a4_39 rfl ?_
  refine bw_istore_n 41 dJ6_bitCount_0f7a4_40 rfl (by decide) ?_
  refine bw_iload_n 42 dJ6_bitCount_0f7a4_41 rfl rfl ?_
  refine bw_iload_n 43 dJ6_bitCount_0f7a4_42 rfl rfl ?_
  refine bw_bipush (16) 45 dJ6_bitCount_0f7a4_43 (by decide) rfl ?_
  refine bw_iushr 46 dJ6_bitCount_0f7a4_45 rfl ?_
  refine bw_iadd 47 dJ6_bitCount_0f7a4_46 rfl ?_
  refine bw_istore_n 48 dJ6_bitCount_0f7a4_47 rfl (by decide) ?_
  refine bw_iload_n 49 dJ6_bitCount_0f7a4_48 rfl rfl ?_
  refine bw_bipush (63) 51 dJ6_bitCount_0f7a4_49 (by decide) rfl ?_
  refine bw_iand 52 dJ6_bitCount_0f7a4_51 rfl ?_
  refine bw_iret dJ6_bitCount_0f7a4_52 rfl (Nat.le_of_ble_eq_true rfl) (Nat.le_of_ble_eq_true rfl) ?_
  exact ⟨congrArg (fun x => Sum.inl (some (Value.int x))) (bcx_all x hx), rfl⟩
theorem gtz_all : ∀ x, x < 256 → x ≠ 0 → ((nI x ^^^ (-1)) &&& (nI x - 1) = nI (2 ^ gtz 8 x - 1) ∧ gtz 8 x < 8) := by decide +kernel
def tzsh (x : Int32) (k : Int32) : Int32 := (x.toUInt32 >>> (k.toUInt32 &&& Int32.toUInt32 31)).toInt32
theorem gtz_a : ∀ t, t < 8 → ¬ (0 : Int32) < nI (2 ^ t - 1) → nI (2 ^ t - 1) &&& 32 = nI t := by decide +kernel
theorem gtz_b : ∀ t, t < 8 → nI (2 ^ t - 1) ≤ 65536 ∧ nI (2 ^ t - 1) ≤ 256 := by decide +kernel
theorem gtz_c : ∀ t, t < 8 → (0 : Int32) < nI (2 ^ t - 1) → nI (2 ^ t - 1) ≤ 16 → nI (2 ^ t - 1) ≤ 4 → 1 + tzsh (nI (2 ^ t - 1)) 1 = nI t := by decide +kernel
theorem gtz_d : ∀ t, t < 8 → (0 : Int32) < nI (2 ^ t - 1) → nI (2 ^ t - 1) ≤ 16 → ¬ nI (2 ^ t - 1) ≤ 4 → 1 + 2 + tzsh (tzsh (nI (2 ^ t - 1)) 2) 1 = nI t := by decide +kernel
theorem gtz_e : ∀ t, t < 8 → (0 : Int32) < nI (2 ^ t - 1) → ¬ nI (2 ^ t - 1) ≤ 16 → tzsh (nI (2 ^ t - 1)) 4 ≤ 4 → 1 + 4 + tzsh (tzsh (nI (2 ^ t - 1)) 4) 1 = nI t := by decide +kernel
theorem gtz_f : ∀ t, t < 8 → (0 : Int32) < nI (2 ^ t - 1) → ¬ nI (2 ^ t - 1) ≤ 16 → ¬ tzsh (nI (2 ^ t - 1)) 4 ≤ 4 → 1 + 4 + 2 + tzsh (tzsh (tzsh (nI (2 ^ t - 1)) 4) 2) 1 = nI t := by decide +kernel
set_option maxHeartbeats 4000000 in
set_option maxRecDepth 100000 in
theorem cJ6_ntz (g : bw_G) {A : bw_H} {x : Nat} (hx : x < 256) (h0 : x ≠ 0) : bw_C g (bw_rm 0 0 0) mJ6_numberOfTrailingZeros_0f7a4 [.int (nI x)] A (bw_pi (nI (gtz 8 x)) A) := by
  have ht := (gtz_all x hx h0).2
  refine bw_C.of (by decide) (Nat.le_of_ble_eq_true rfl) rfl ?_
  refine bw_iload_n 1 dJ6_numberOfTrailingZeros_0f7a4_0 rfl rfl ?_
  refine bw_iconst (-1) 2 dJ6_numberOfTrailingZeros_0f7a4_1 (by decide) rfl ?_
  refine bw_ixor 3 dJ6_numberOfTrailingZeros_0f7a4_2 rfl ?_
  refine bw_iload_n 4 dJ6_numberOfTrailingZeros_0f7a4_3 rfl rfl ?_
  refine bw_iconst (1) 5 dJ6_numberOfTrailingZeros_0f7a4_4 (by decide) rfl ?_
  refine bw_isub 6 dJ6_numberOfTrailingZeros_0f7a4_5 rfl ?_
  refine bw_iand 7 dJ6_numberOfTrailingZeros_0f7a4_6 rfl ?_
  refine bw_eqi ((gtz_all x hx h0).1) ?_
  refine bw_istore_n 8 dJ6_numberOfTrailingZeros_0f7a4_7 rfl (by decide) ?_
  refine bw_iload_n 9 dJ6_numberOfTrailingZeros_0f7a4_8 rfl rfl ?_
  refine bw_if_gt 17 12 dJ6_numberOfTrailingZeros_0f7a4_9 rfl rfl (fun c9 => ?_) (fun c9 => ?_)
  · refine bw_iconst (1) 18 dJ6_numberOfTrailingZeros_0f7a4_17 (by decide) rfl ?_
    refine bw_istore_n 19 dJ6_numberOfTrailingZeros_0f7a4_18 rfl (by decide) ?_
    refine bw_iload_n 20 dJ6_numberOfTrailingZeros_0f7a4_19 rfl rfl ?_
    refine bw_ldcw 23 dJ6_numberOfTrailingZeros_0f7a4_20 kJ6_264 rfl ?_
    refine bw_icmp_le 34 26 dJ6_numberOfTrailingZeros_0f7a4_23 rfl rfl (fun c23 => ?_) (fun c23 => ?_)
    · refine bw_iload_n 35 dJ6_numberOfTrailingZeros_0f7a4_34 rfl rfl ?_
      refine bw_sipush (256) 38 dJ6_numberOfTrailingZeros_0f7a4_35 (by decide) rfl ?_
      refine bw_icmp_le 49 41 dJ6_numberOfTrailingZeros_0f7a4_38 rfl rfl (fun c38 => ?_) (fun c38 => ?_)
      · refine bw_iload_n 50 dJ6_numberOfTrailingZeros_0f7a4_49 rfl rfl ?_
        refine bw_bipush (16) 52 dJ6_numberOfTrailingZeros_0f7a4_50 (by decide) rfl ?_
        refine bw_icmp_le 62 55 dJ6_numberOfTrailingZeros_0f7a4_52 rfl rfl (fun c52 => ?_) (fun c52 => ?_)
        · refine bw_iload_n 63 dJ6_numberOfTrailingZeros_0f7a4_62 rfl rfl ?_
          refine bw_iconst (4) 64 dJ6_numberOfTrailingZeros_0f7a4_63 (by decide) rfl ?_
          refine bw_icmp_le 74 67 dJ6_numberOfTrailingZeros_0f7a4_64 rfl rfl (fun c64 => ?_) (fun c64 => ?_)
          · refine bw_iload_n 75 dJ6_numberOfTrailingZeros_0f7a4_74 rfl rfl ?_
            refine bw_iload_n 76 dJ6_numberOfTrailingZeros_0f7a4_75 rfl rfl ?_
            refine bw_iconst (1) 77 dJ6_numberOfTrailingZeros_0f7a4_76 (by decide) rfl ?_
            refine bw_iushr 78 dJ6_numberOfTrailingZeros_0f7a4_77 rfl ?_
            refine bw_iadd 79 dJ6_numberOfTrailingZeros_0f7a4_78 rfl ?_
            refine bw_iret dJ6_numberOfTrailingZeros_0f7a4_79 rfl (Nat.le_of_ble_eq_true rfl) (Nat.le_of_ble_eq_true rfl) ?_
            first
              | exact ⟨congrArg (fun x => Sum.inl (some (Value.int x))) (gtz_c _ ht c9 c52 c64), rfl⟩
              | exact ⟨congrArg (fun x => Sum.inl (some (Value.int x))) (gtz_d _ ht c9 c52 c64), rfl⟩
              | exact ⟨congrArg (fun x => Sum.inl (some (Value.int x))) (gtz_e _ ht c9 c52 c64), rfl⟩
              | exact ⟨congrArg (fun x => Sum.inl (some (Value.int x))) (gtz_f _ ht c9 c52 c64), rfl⟩
          · refine bw_iincN (2) 70 dJ6_numberOfTrailingZeros_0f7a4_67 rfl rfl (by decide) (by decide) ?_
            refine bw_iload_n 71 dJ6_numberOfTrailingZeros_0f7a4_70 rfl rfl ?_
            refine bw_iconst (2) 72 dJ6_numberOfTrailingZeros_0f7a4_71 (by decide) rfl ?_
            refine bw_iushr 73 dJ6_numberOfTrailingZeros_0f7a4_72 rfl ?_
            refine bw_istore_n 74 dJ6_numberOfTrailingZeros_0f7a4_73 rfl (by decide) ?_
            refine bw_iload_n 75 dJ6_numberOfTrailingZeros_0f7a4_74 rfl rfl ?_
            refine bw_iload_n 76 dJ6_numberOfTrailingZeros_0f7a4_75 rfl rfl ?_
            refine bw_iconst (1) 77 dJ6_numberOfTrailingZeros_0f7a4_76 (by decide) rfl ?_
            refine bw_iushr 78 dJ6_numberOfTrailingZeros_0f7a4_77 rfl ?_
            refine bw_iadd 79 dJ6_numberOfTrailingZeros_0f7a4_78 rfl ?_
            refine bw_iret dJ6_numberOfTrailingZeros_0f7a4_79 rfl (Nat.le_of_ble_eq_true rfl) (Nat.le_of_ble_eq_true rfl) ?_
            first
              | exact ⟨congrArg (fun x => Sum.inl (some (Value.int x))) (gtz_c _ ht c9 c52 c64), rfl⟩
              | exact ⟨congrArg (fun x => Sum.inl (some (Value.int x))) (gtz_d _ ht c9 c52 c64), rfl⟩
              | exact ⟨congrArg (fun x => Sum.inl (some (Value.int x))) (gtz_e _ ht c9 c52 c64), rfl⟩
              | exact ⟨congrArg (fun x => Sum.inl (some (Value.int x))) (gtz_f _ ht c9 c52 c64), rfl⟩
        · refine bw_iincN (4) 58 dJ6_numberOfTrailingZeros_0f7a4_55 rfl rfl (by decide) (by decide) ?_
          refine bw_iload_n 59 dJ6_numberOfTrailingZeros_0f7a4_58 rfl rfl ?_
          refine bw_iconst (4) 60 dJ6_numberOfTrailingZeros_0f7a4_59 (by decide) rfl ?_
          refine bw_iushr 61 dJ6_numberOfTrailingZeros_0f7a4_60 rfl ?_
          refine bw_istore_n 62 dJ6_numberOfTrailingZeros_0f7a4_61 rfl (by decide) ?_
          refine bw_iload_n 63 dJ6_numberOfTrailingZeros_0f7a4_62 rfl rfl ?_
          refine bw_iconst (4) 64 dJ6_numberOfTrailingZeros_0f7a4_63 (by decide) rfl ?_
          refine bw_icmp_le 74 67 dJ6_numberOfTrailingZeros_0f7a4_64 rfl rfl (fun c64 => ?_) (fun c64 => ?_)
          · refine bw_iload_n 75 dJ6_numberOfTrailingZeros_0f7a4_74 rfl rfl ?_
            refine bw_iload_n 76 dJ6_numberOfTrailingZeros_0f7a4_75 rfl rfl ?_
            refine bw_iconst (1) 77 dJ6_numberOfTrailingZeros_0f7a4_76 (by decide) rfl ?_
            refine bw_iushr 78 dJ6_numberOfTrailingZeros_0f7a4_77 rfl ?_
            refine bw_iadd 79 dJ6_numberOfTrailingZeros_0f7a4_78 rfl ?_
            refine bw_iret dJ6_numberOfTrailingZeros_0f7a4_79 rfl (Nat.le_of_ble_eq_true rfl) (Nat.le_of_ble_eq_true rfl) ?_
            first
              | exact ⟨congrArg (fun x => Sum.inl (some (Value.int x))) (gtz_c _ ht c9 c52 c64), rfl⟩
              | exact ⟨congrArg (fun x => Sum.inl (some (Value.int x))) (gtz_d _ ht c9 c52 c64), rfl⟩
              | exact ⟨congrArg (fun x => Sum.inl (some (Value.int x))) (gtz_e _ ht c9 c52 c64), rfl⟩
              | exact ⟨congrArg (fun x => Sum.inl (some (Value.int x))) (gtz_f _ ht c9 c52 c64), rfl⟩
          · refine bw_iincN (2) 70 dJ6_numberOfTrailingZeros_0f7a4_67 rfl rfl (by decide) (by decide) ?_
            refine bw_iload_n 71 dJ6_numberOfTrailingZeros_0f7a4_70 rfl rfl ?_
            refine bw_iconst (2) 72 dJ6_numberOfTrailingZeros_0f7a4_71 (by decide) rfl ?_
            refine bw_iushr 73 dJ6_numberOfTrailingZeros_0f7a4_72 rfl ?_
            refine bw_istore_n 74 dJ6_numberOfTrailingZeros_0f7a4_73 rfl (by decide) ?_
            refine bw_iload_n 75 dJ6_numberOfTrailingZeros_0f7a4_74 rfl rfl ?_
            refine bw_iload_n 76 dJ6_numberOfTrailingZeros_0f7a4_75 rfl rfl ?_
            refine bw_iconst (1) 77 dJ6_numberOfTrailingZeros_0f7a4_76 (by decide) rfl ?_
            refine bw_iushr 78 dJ6_numberOfTrailingZeros_0f7a4_77 rfl ?_
            refine bw_iadd 79 dJ6_numberOfTrailingZeros_0f7a4_78 rfl ?_
            refine bw_iret dJ6_numberOfTrailingZeros_0f7a4_79 rfl (Nat.le_of_ble_eq_true rfl) (Nat.le_of_ble_eq_true rfl) ?_
            first
              | exact ⟨congrArg (fun x => Sum.inl (some (Value.int x))) (gtz_c _ ht c9 c52 c64), rfl⟩
              | exact ⟨congrArg (fun x => Sum.inl (some (Value.int x))) (gtz_d _ ht c9 c52 c64), rfl⟩
              | exact ⟨congrArg (fun x => Sum.inl (some (Value.int x))) (gtz_e _ ht c9 c52 c64), rfl⟩
              | exact ⟨congrArg (fun x => Sum.inl (some (Value.int x))) (gtz_f _ ht c9 c52 c64), rfl⟩
      · exact absurd (gtz_b _ ht).2 c38
    · exact absurd (gtz_b _ ht).1 c23
  · refine bw_iload_n 13 dJ6_numberOfTrailingZeros_0f7a4_12 rfl rfl ?_
    refine bw_bipush (32) 15 dJ6_numberOfTrailingZeros_0f7a4_13 (by decide) rfl ?_
    refine bw_iand 16 dJ6_numberOfTrailingZeros_0f7a4_15 rfl ?_
    refine bw_iret dJ6_numberOfTrailingZeros_0f7a4_16 rfl (Nat.le_of_ble_eq_true rfl) (Nat.le_of_ble_eq_true rfl) ?_
    exact ⟨congrArg (fun x => Sum.inl (some (Value.int x))) (gtz_a _ ht c9), rfl⟩
/-- a minor by a row, its columns those of ch -/
def gxp (n q : Nat) (m : Nat → Nat) (c row : Nat) (V : Nat → Nat) (ch : Nat) : Nat → Nat
  | 0 => 0
  | j + 1 => if ch / 2 ^ j % 2 = 0 then gxp n q m c row V ch j else gxp n q m c row V ch j ^^^ gm n q (m (row * c + j)) (V (ch ^^^ 2 ^ j))
theorem gxp_lt {n q : Nat} (hG : GFp n q) {m : Nat → Nat} {c row : Nat} {V : Nat → Nat} {ch : Nat} (hm : ∀ i, m i < 2 ^ n) : ∀ j, gxp n q m c row V ch j < 2 ^ n
  | 0 => Nat.two_pow_pos n
  | j + 1 => by
    unfold gxp
    split
    · exact gxp_lt hG hm j
    · exact xor_lt (gxp_lt hG hm j) (hG.lt (hm _))
abbrev nob (F vc : Nat) : va_E := .inr (8, [.ref F, .ref vc])
set_option maxHeartbeats 4000000 in
set_option maxRecDepth 100000 in
theorem c6_exp_loop (g : bw_G) {A : bw_H} {N F vc n p gg M r c row ch sa : Nat} {m V : Nat → Nat} (hG : GFg n p gg) (hC : bw_has A ((N, nob F vc) :: (fcl g n p gg F ++ (mcl g M r c m ++ [(sa, bw_an g 256 V)])))) (hr : r ≤ 8) (hc : c ≤ 8) (hrow : row < r) (hch : ch < 2 ^ c) (hm : ∀ i, m i < 2 ^ n) (hV : ∀ i, V i < 2 ^ n) :
    ∀ j, j ≤ c → bw_W g (bw_rm 1 0 0) mX6_expanded (bw_pi (nI (gxp n (2 ^ n ||| p) m c row V ch c)) A) 0 0 6 [(0, .ref N), (1, .ref M), (2, .int (nI row)), (3, .int (nI ch)), (4, .ref sa), (5, .int (nI (gxp n (2 ^ n ||| p) m c row V ch j))), (6, .int (nI j))] [] A := by
  have hrc : r * c ≤ 64 := Nat.mul_le_mul hr hc
  have hrr := row_end (c := c) hrow
  have hch8 : ch < 2 ^ 8 := Nat.lt_of_lt_of_le hch (Nat.pow_le_pow_right (by omega) hc)
  refine nat_up c ?_ ?_
  · skip
    refine bw_iload 8 dX6_expanded_6 rfl rfl ?_
    refine bw_aload_n 9 dX6_expanded_8 rfl rfl ?_
    refine bw_get 12 dX6_expanded_9 rfl lX6_39 (hC.at 3 rfl) rfl ?_
    refine bw_icmp_ge 65 15 dX6_expanded_12 rfl rfl (fun c12 => ?_) (fun c12 => ?_)
    · refine bw_iload 67 dX6_expanded_65 rfl rfl ?_
      refine bw_iret dX6_expanded_67 rfl (Nat.le_of_ble_eq_true rfl) (Nat.le_of_ble_eq_true rfl) ?_
      exact ⟨rfl, rfl⟩
    · exact absurd (Int32.le_refl _) c12
  · intro j hj ih
    have h2j : 2 ^ j < 2 ^ 8 := Nat.pow_lt_pow_right (by omega) (by omega)
    have hx8 : ch ^^^ 2 ^ j < 256 := xor_lt hch8 h2j
    refine bw_iload 8 dX6_expanded_6 rfl rfl ?_
    refine bw_aload_n 9 dX6_expanded_8 rfl rfl ?_
    refine bw_get 12 dX6_expanded_9 rfl lX6_39 (hC.at 3 rfl) rfl ?_
    refine bw_icmp_ge 65 15 dX6_expanded_12 rfl rfl (fun c12 => ?_) (fun c12 => ?_)
    · exact absurd c12 (nI_ge (by omega) (by omega))
    · skip
      refine bw_iload_n 16 dX6_expanded_15 rfl rfl ?_
      refine bw_iload 18 dX6_expanded_16 rfl rfl ?_
      refine bw_ishr 19 dX6_expanded_18 rfl ?_
      refine bw_eqi (xn_shr j (by omega) (by omega)) ?_
      refine bw_iconst (1) 20 dX6_expanded_19 (by decide) rfl ?_
      refine bw_iand 21 dX6_expanded_20 rfl ?_
      refine bw_eqi (xn_and1 _) ?_
      refine bw_if_eq 59 24 dX6_expanded_21 rfl rfl (fun c21 => ?_) (fun c21 => ?_)
      · have h0 : ch / 2 ^ j % 2 = 0 := (xn_eq0 (by omega)).mp c21
        have he : gxp n (2 ^ n ||| p) m c row V ch (j + 1) = gxp n (2 ^ n ||| p) m c row V ch j := if_pos h0
        refine bw_iincN (1) 62 dX6_expanded_59 rfl rfl (by decide) (by decide) ?_
        refine bw_goto 6 dX6_expanded_62 rfl ?_
        refine bw_loc _ ?_ ih
        exact ⟨rfl, rfl, rfl, rfl, rfl, congrArg (fun x => some (Value.int (nI x))) he.symm, congrArg (fun x => some (Value.int x)) (nI_1 j), trivial⟩
      · have h0 : ¬ ch / 2 ^ j % 2 = 0 := fun h => c21 ((xn_eq0 (by omega)).mpr h)
        have he : gxp n (2 ^ n ||| p) m c row V ch (j + 1) = gxp n (2 ^ n ||| p) m c row V ch j ^^^ gm n (2 ^ n ||| p) (m (row * c + j)) (V (ch ^^^ 2 ^ j)) := if_neg h0
        refine bw_iload 26 dX6_expanded_24 rfl rfl ?_
        refine bw_aload_n 27 dX6_expanded_26 rfl rfl ?_
        refine bw_get 30 dX6_expanded_27 rfl lX6_16 (hC.at 0 rfl) rfl ?_
        refine bw_aload_n 31 dX6_expanded_30 rfl rfl ?_
        refine bw_get 34 dX6_expanded_31 rfl lX6_46 (hC.at 3 rfl) rfl ?_
        refine bw_iload_n 35 dX6_expanded_34 rfl rfl ?_
        refine bw_aload_n 36 dX6_expanded_35 rfl rfl ?_
        refine bw_get 39 dX6_expanded_36 rfl lX6_39 (hC.at 3 rfl) rfl ?_
        refine bw_imul 40 dX6_expanded_39 rfl ?_
        refine bw_eqi (pk_mul row c) ?_
        refine bw_iload 42 dX6_expanded_40 rfl rfl ?_
        refine bw_iadd 43 dX6_expanded_42 rfl ?_
        refine bw_eqi (nI_add (row * c) j) ?_
        refine bw_ialdN 44 dX6_expanded_43 rfl (hC.at 4 rfl) (by omega) (by omega) ?_
        refine bw_aload 46 dX6_expanded_44 rfl rfl ?_
        refine bw_iload_n 47 dX6_expanded_46 rfl rfl ?_
        refine bw_iconst (1) 48 dX6_expanded_47 (by decide) rfl ?_
        refine bw_eqi (y := nI 1) rfl ?_
        refine bw_iload 50 dX6_expanded_48 rfl rfl ?_
        refine bw_ishl 51 dX6_expanded_50 rfl ?_
        refine bw_eqi ((xn_shl (a := 1) j (by omega) (by omega)).trans (congrArg nI (Nat.one_mul (2 ^ j)))) ?_
        refine bw_ixor 52 dX6_expanded_51 rfl ?_
        refine bw_eqi (xn_xor _ _) ?_
        refine bw_ialdN 53 dX6_expanded_52 rfl (hC.at 5 rfl) (by exact hx8) (by omega) ?_
        refine bw_cVi 56 dX6_expanded_53 rfl vX6_50 (c3_mul g hG (hC.sub [1, 2] (by decide) rfl) (hm _) (hV _)) (hC.at 1 rfl) rfl rfl (Nat.le_of_ble_eq_true rfl) ⟨(Nat.le_of_ble_eq_true rfl), (Nat.le_of_ble_eq_true rfl)⟩ (Nat.le_of_ble_eq_true rfl) (Nat.le_of_ble_eq_true rfl) ?_
        refine bw_ixor 57 dX6_expanded_56 rfl ?_
        refine bw_eqi (xn_xor _ _) ?_
        refine bw_istore 59 dX6_expanded_57 rfl (by decide) ?_
        refine bw_iincN (1) 62 dX6_expanded_59 rfl rfl (by decide) (by decide) ?_
        refine bw_goto 6 dX6_expanded_62 rfl ?_
        refine bw_loc _ ?_ ih
        exact ⟨rfl, rfl, rfl, rfl, rfl, congrArg (fun x => some (Value.int (nI x))) he.symm, congrArg (fun x => some (Value.int x)) (nI_1 j), trivial⟩
set_option maxHeartbeats 4000000 in
set_option maxRecDepth 100000 in
theorem c6_expanded (g : bw_G) {A : bw_H} {N F vc n p gg M r c row ch sa : Nat} {m V : Nat → Nat} (hG : GFg n p gg) (hC : bw_has A ((N, nob F vc) :: (fcl g n p gg F ++ (mcl g M r c m ++ [(sa, bw_an g 256 V)])))) (hr : r ≤ 8) (hc : c ≤ 8) (hrow : row < r) (hch : ch < 2 ^ c) (hm : ∀ i, m i < 2 ^ n) (hV : ∀ i, V i < 2 ^ n) :
    bw_C g (bw_rm 1 0 0) mX6_expanded [.ref N, .ref M, .int (nI row), .int (nI ch), .ref sa] A (bw_pi (nI (gxp n (2 ^ n ||| p) m c row V ch c)) A) := by
  refine bw_C.of (by decide) (Nat.le_of_ble_eq_true rfl) rfl ?_
  refine bw_iconst (0) 1 dX6_expanded_0 (by decide) rfl ?_
  refine bw_eqi (y := nI 0) rfl ?_
  refine bw_istore 3 dX6_expanded_1 rfl (by decide) ?_
  refine bw_iconst (0) 4 dX6_expanded_3 (by decide) rfl ?_
  refine bw_eqi (y := nI 0) rfl ?_
  refine bw_istore 6 dX6_expanded_4 rfl (by decide) ?_
  refine bw_loc _ ?_ (c6_exp_loop g hG hC hr hc hrow hch hm hV 0 (Nat.zero_le c))
  exact ⟨rfl, rfl, rfl, rfl, rfl, rfl, rfl, trivial⟩
/-- the minors with a row more, of the choices of columns below k -/
def garV (n q : Nat) (m : Nat → Nat) (c row cnt : Nat) (V : Nat → Nat → Nat) (k a b : Nat) : Nat := if a = cnt ∧ 1 ≤ b ∧ b < k ∧ gbc 8 b = cnt then gxp n q m c row (V (cnt - 1)) b c else V a b
/-- how many of them are 0 -/
def garZ (n q : Nat) (m : Nat → Nat) (c row cnt : Nat) (V : Nat → Nat → Nat) : Nat → Nat
  | 0 => 0
  | k + 1 => garZ n q m c row cnt V k + (if 1 ≤ k ∧ gbc 8 k = cnt ∧ gxp n q m c row (V (cnt - 1)) k c = 0 then 1 else 0)
theorem garV_lt {n q : Nat} (hG : GFp n q) {m : Nat → Nat} {c row cnt k : Nat} {V : Nat → Nat → Nat} (hm : ∀ i, m i < 2 ^ n) (hV : ∀ i j, V i j < 2 ^ n) (a b : Nat) : garV n q m c row cnt V k a b < 2 ^ n := by
  unfold garV
  split
  · exact gxp_lt hG hm c
  · exact hV a b
theorem garV_p {n q : Nat} {m : Nat → Nat} {c row cnt k : Nat} {V : Nat → Nat → Nat} (h : 1 ≤ cnt) : garV n q m c row cnt V k (cnt - 1) = V (cnt - 1) := by
  funext b
  exact if_neg (by omega)
theorem garV_0 {n q : Nat} {m : Nat → Nat} {c row cnt : Nat} {V : Nat → Nat → Nat} : garV n q m c row cnt V 1 = V := by
  funext a b
  exact if_neg (by omega)
theorem garV_s {n q : Nat} {m : Nat → Nat} {c row cnt k : Nat} {V : Nat → Nat → Nat} (h1 : 1 ≤ k) (hb : gbc 8 k = cnt) : ∀ a, (if a = cnt then (fun b => if b = k then gxp n q m c row (V (cnt - 1)) k c else garV n q m c row cnt V k cnt b) else garV n q m c row cnt V k a) = garV n q m c row cnt V (k + 1) a := by
  intro a
  funext b
  by_cases h2 : a = cnt
  · rw [if_pos h2]
    show (if b = k then gxp n q m c row (V (cnt - 1)) k c else garV n q m c row cnt V k cnt b) = _
    by_cases h3 : b = k
    · subst h3
      rw [if_pos rfl]
      unfold garV
      rw [if_pos ⟨h2, h1, by omega, hb⟩]
    · rw [if_neg h3, h2]
      unfold garV
      exact if_iff (by omega)
  · rw [if_neg h2]
    unfold garV
    exact if_iff (by omega)
theorem garV_n {n q : Nat} {m : Nat → Nat} {c row cnt k : Nat} {V : Nat → Nat → Nat} (hb : ¬ gbc 8 k = cnt) : garV n q m c row cnt V (k + 1) = garV n q m c row cnt V k := by
  funext a b
  unfold garV
  by_cases h : b = k
  · subst h
    rw [if_neg (fun q => hb q.2.2.2), if_neg (fun q => hb q.2.2.2)]
  · exact if_iff (by omega)
noncomputable abbrev nvl (g : bw_G) (n p gg N F vc M r c : Nat) (m : Nat → Nat) : List (Nat × va_E) := (N, nob F vc) :: (fcl g n p gg F ++ ((vc, eco g vc 9) :: mcl g M r c m))
abbrev mnL (vc : Nat) : List Nat := List.range' (vc + 1) 9
set_option maxHeartbeats 4000000 in
set_option maxRecDepth 100000 in
theorem c6_addRow_loop (g : bw_G) {A0 : bw_H} {N F vc n p gg M r c row cnt : Nat} {m : Nat → Nat} {V : Nat → Nat → Nat} (hG : GFg n p gg) (hsep : ∀ a ∈ [N, F, F + 1, vc, M, M + 1], a < vc + 1 ∨ vc + 1 + 9 ≤ a) (hr : r ≤ 8) (hc : c ≤ 8) (hrow : row < r) (hcnt : 1 ≤ cnt) (hcnt8 : cnt ≤ 8) (hm : ∀ i, m i < 2 ^ n) (hV : ∀ i j, V i j < 2 ^ n) :
    ∀ k, k ≤ 2 ^ c → 1 ≤ k → ∀ A : bw_H, bw_has A (nvl g n p gg N F vc M r c m) → bw_rw g A (vc + 1) 9 256 (garV n (2 ^ n ||| p) m c row cnt V k) → bw_sm (mnL vc) A0 A →
      bw_W g (bw_rm 2 0 0) mX6_addRow (bw_pm (fun x A' => x = nI (garZ n (2 ^ n ||| p) m c row cnt V (2 ^ c)) ∧ bw_sm (mnL vc) A0 A' ∧ bw_has A' (nvl g n p gg N F vc M r c m) ∧ bw_rw g A' (vc + 1) 9 256 (garV n (2 ^ n ||| p) m c row cnt V (2 ^ c)))) 0 0 6 [(0, .ref N), (1, .ref M), (2, .int (nI row)), (3, .int (nI cnt)), (4, .int (nI (garZ n (2 ^ n ||| p) m c row cnt V k))), (5, .int (nI k))] [] A := by
  have h16 := hG.p16
  have h2c : 2 ^ c ≤ 256 := Nat.pow_le_pow_right (n := 2) (by omega) hc
  have hsepX : ∀ a ∈ [N, F, F + 1, M, M + 1], a < vc + 1 ∨ vc + 1 + 9 ≤ a := fun b hb => hsep b (by simp at hb ⊢; omega)
  refine nat_up (2 ^ c) ?_ ?_
  · intro _ A hC hR hM
    refine bw_iload 8 dX6_addRow_6 rfl rfl ?_
    refine bw_iconst (1) 9 dX6_addRow_8 (by decide) rfl ?_
    refine bw_eqi (y := nI 1) rfl ?_
    refine bw_aload_n 10 dX6_addRow_9 rfl rfl ?_
    refine bw_get 13 dX6_addRow_10 rfl lX6_39 (hC.at 4 rfl) rfl ?_
    refine bw_ishl 14 dX6_addRow_13 rfl ?_
    refine bw_eqi ((xn_shl (a := 1) c (by omega) (by omega)).trans (congrArg nI (Nat.one_mul (2 ^ c)))) ?_
    refine bw_icmp_ge 76 17 dX6_addRow_14 rfl rfl (fun c14 => ?_) (fun c14 => ?_)
    · refine bw_iload 78 dX6_addRow_76 rfl rfl ?_
      refine bw_iret dX6_addRow_78 rfl (Nat.le_of_ble_eq_true rfl) (Nat.le_of_ble_eq_true rfl) ?_
      exact ⟨_, rfl, rfl, hM, hC, hR⟩
    · exact absurd (Int32.le_refl _) c14
  · intro k hk ih hk1 A hC hR hM
    have hexp := gxp_lt hG.2.2.1 (c := c) (row := row) (V := V (cnt - 1)) (ch := k) hm c
    have hgb : gbc 8 k ≤ 8 := by
      unfold gbc gbc gbc gbc gbc gbc gbc gbc gbc
      omega
    refine bw_iload 8 dX6_addRow_6 rfl rfl ?_
    refine bw_iconst (1) 9 dX6_addRow_8 (by decide) rfl ?_
    refine bw_eqi (y := nI 1) rfl ?_
    refine bw_aload_n 10 dX6_addRow_9 rfl rfl ?_
    refine bw_get 13 dX6_addRow_10 rfl lX6_39 (hC.at 4 rfl) rfl ?_
    refine bw_ishl 14 dX6_addRow_13 rfl ?_
    refine bw_eqi ((xn_shl (a := 1) c (by omega) (by omega)).trans (congrArg nI (Nat.one_mul (2 ^ c)))) ?_
    refine bw_icmp_ge 76 17 dX6_addRow_14 rfl rfl (fun c14 => ?_) (fun c14 => ?_)
    · exact absurd c14 (nI_ge (by omega) (by omega))
    · skip
      refine bw_iload 19 dX6_addRow_17 rfl rfl ?_
      refine bw_cSi 22 dX6_addRow_19 rfl sX6_26 (cJ6_bits g (by omega)) rfl rfl (Nat.le_of_ble_eq_true rfl) ⟨(Nat.le_of_ble_eq_true rfl), (Nat.le_of_ble_eq_true rfl)⟩ (Nat.le_of_ble_eq_true rfl) (Nat.le_of_ble_eq_true rfl) ?_
      refine bw_iload_n 23 dX6_addRow_22 rfl rfl ?_
      refine bw_icmp_ne 70 26 dX6_addRow_23 rfl rfl (fun c23 => ?_) (fun c23 => ?_)
      · have hb : ¬ gbc 8 k = cnt := fun h => c23 (by rw [h])
        have hz : garZ n (2 ^ n ||| p) m c row cnt V (k + 1) = garZ n (2 ^ n ||| p) m c row cnt V k := by
          show _ + (if _ then 1 else 0) = _
          rw [if_neg (fun q => hb q.2.1)]
          rfl
        rw [← garV_n hb] at hR
        refine bw_iincN (1) 73 dX6_addRow_70 rfl rfl (by decide) (by decide) ?_
        refine bw_goto 6 dX6_addRow_73 rfl ?_
        refine bw_loc _ ?_ (ih (by omega) _ hC hR hM)
        exact ⟨rfl, rfl, rfl, rfl, congrArg (fun x => some (Value.int (nI x))) hz.symm, congrArg (fun x => some (Value.int x)) (nI_1 k), trivial⟩
      · have hb : gbc 8 k = cnt := (nI_eq (by omega) (by omega)).mp c23
        refine bw_aload_n 27 dX6_addRow_26 rfl rfl ?_
        refine bw_aload_n 28 dX6_addRow_27 rfl rfl ?_
        refine bw_iload_n 29 dX6_addRow_28 rfl rfl ?_
        refine bw_iload 31 dX6_addRow_29 rfl rfl ?_
        refine bw_aload_n 32 dX6_addRow_31 rfl rfl ?_
        refine bw_get 35 dX6_addRow_32 rfl lX6_11 (hC.at 0 rfl) rfl ?_
        refine bw_iload_n 36 dX6_addRow_35 rfl rfl ?_
        refine bw_iconst (1) 37 dX6_addRow_36 (by decide) rfl ?_
        refine bw_eqi (y := nI 1) rfl ?_
        refine bw_isub 38 dX6_addRow_37 rfl ?_
        refine bw_eqi (pk_sub hcnt) ?_
        refine bw_aaldN 39 dX6_addRow_38 rfl rfl rfl (hC.at 3 rfl) (by omega) (by omega) (if_pos (by omega)) ?_
        refine bw_cVi 42 dX6_addRow_39 rfl vX6_42 (c6_expanded g hG ((hC.sub [0, 1, 2, 4, 5] (by decide) rfl).rwA (by have h := hR (cnt - 1) (by omega); rw [garV_p hcnt] at h; exact h) (show cnt - 1 < 9 by omega) hsepX) hr hc hrow hk hm (hV (cnt - 1))) (hC.at 0 rfl) rfl rfl (Nat.le_of_ble_eq_true rfl) ⟨(Nat.le_of_ble_eq_true rfl), (Nat.le_of_ble_eq_true rfl)⟩ (Nat.le_of_ble_eq_true rfl) (Nat.le_of_ble_eq_true rfl) ?_
        refine bw_istore 44 dX6_addRow_42 rfl (by decide) ?_
        refine bw_aload_n 45 dX6_addRow_44 rfl rfl ?_
        refine bw_get 48 dX6_addRow_45 rfl lX6_11 (hC.at 0 rfl) rfl ?_
        refine bw_iload_n 49 dX6_addRow_48 rfl rfl ?_
        refine bw_aaldN 50 dX6_addRow_49 rfl rfl rfl (hC.at 3 rfl) (by omega) (by omega) (if_pos (by omega)) ?_
        refine bw_iload 52 dX6_addRow_50 rfl rfl ?_
        refine bw_iload 54 dX6_addRow_52 rfl rfl ?_
        refine bw_iastN 55 dX6_addRow_54 rfl (hR cnt (by omega)) (by omega) (by omega) (G := _) (rfl) (fun A hU => ?_)
        have hR := hR.set (w' := garV n (2 ^ n ||| p) m c row cnt V (k + 1)) hU (garV_s (by omega) hb)
        have hC := hC.row hU (show cnt < 9 by omega) hsep
        have hM := hM.upd hU (by simp; omega)
        refine bw_iload 57 dX6_addRow_55 rfl rfl ?_
        refine bw_iload 59 dX6_addRow_57 rfl rfl ?_
        refine bw_if_ne 66 62 dX6_addRow_59 rfl rfl (fun c59 => ?_) (fun c59 => ?_)
        · have hz : garZ n (2 ^ n ||| p) m c row cnt V (k + 1) = garZ n (2 ^ n ||| p) m c row cnt V k + 0 := by
            show _ + (if _ then 1 else 0) = _
            rw [if_neg (fun q => c59 ((xn_eq0 (by omega)).mpr q.2.2))]
          refine bw_iconst (0) 67 dX6_addRow_66 (by decide) rfl ?_
          refine bw_eqi (show (0 : Int32) = nI 0 from rfl) ?_
          refine bw_iadd 68 dX6_addRow_67 rfl ?_
          refine bw_eqi (nI_add _ _) ?_
          refine bw_istore 70 dX6_addRow_68 rfl (by decide) ?_
          refine bw_iincN (1) 73 dX6_addRow_70 rfl rfl (by decide) (by decide) ?_
          refine bw_goto 6 dX6_addRow_73 rfl ?_
          refine bw_loc _ ?_ (ih (by omega) _ hC hR hM)
          exact ⟨rfl, rfl, rfl, rfl, congrArg (fun x => some (Value.int (nI x))) hz.symm, congrArg (fun x => some (Value.int x)) (nI_1 k), trivial⟩
        · have hz : garZ n (2 ^ n ||| p) m c row cnt V (k + 1) = garZ n (2 ^ n ||| p) m c row cnt V k + 1 := by
            show _ + (if _ then 1 else 0) = _
            rw [if_pos ⟨hk1, hb, (xn_eq0 (by omega)).mp c59⟩]
          refine bw_iconst (1) 63 dX6_addRow_62 (by decide) rfl ?_
          refine bw_eqi (show (1 : Int32) = nI 1 from rfl) ?_
          refine bw_goto 67 dX6_addRow_63 rfl ?_
          refine bw_iadd 68 dX6_addRow_67 rfl ?_
          refine bw_eqi (nI_add _ _) ?_
          refine bw_istore 70 dX6_addRow_68 rfl (by decide) ?_
          refine bw_iincN (1) 73 dX6_addRow_70 rfl rfl (by decide) (by decide) ?_
          refine bw_goto 6 dX6_addRow_73 rfl ?_
          refine bw_loc _ ?_ (ih (by omega) _ hC hR hM)
          exact ⟨rfl, rfl, rfl, rfl, congrArg (fun x => some (Value.int (nI x))) hz.symm, congrArg (fun x => some (Value.int x)) (nI_1 k), trivial⟩
set_option maxHeartbeats 4000000 in
set_option maxRecDepth 100000 in
theorem c6_addRow (g : bw_G) {A0 : bw_H} {N F vc n p gg M r c row cnt : Nat} {m : Nat → Nat} {V : Nat → Nat → Nat} (hG : GFg n p gg) (hsep : ∀ a ∈ [N, F, F + 1, vc, M, M + 1], a < vc + 1 ∨ vc + 1 + 9 ≤ a) (hr : r ≤ 8) (hc : c ≤ 8) (hrow : row < r) (hcnt : 1 ≤ cnt) (hcnt8 : cnt ≤ 8) (hm : ∀ i, m i < 2 ^ n) (hV : ∀ i j, V i j < 2 ^ n) (hC : bw_has A0 (nvl g n p gg N F vc M r c m)) (hR : bw_rw g A0 (vc + 1) 9 256 V) :
    bw_C g (bw_rm 2 0 0) mX6_addRow [.ref N, .ref M, .int (nI row), .int (nI cnt)] A0 (bw_pm (fun x A' => x = nI (garZ n (2 ^ n ||| p) m c row cnt V (2 ^ c)) ∧ bw_sm (mnL vc) A0 A' ∧ bw_has A' (nvl g n p gg N F vc M r c m) ∧ bw_rw g A' (vc + 1) 9 256 (garV n (2 ^ n ||| p) m c row cnt V (2 ^ c)))) := by
  refine bw_C.of (by decide) (Nat.le_of_ble_eq_true rfl) rfl ?_
  refine bw_iconst (0) 1 dX6_addRow_0 (by decide) rfl ?_
  refine bw_eqi (y := nI 0) rfl ?_
  refine bw_istore 3 dX6_addRow_1 rfl (by decide) ?_
  refine bw_iconst (1) 4 dX6_addRow_3 (by decide) rfl ?_
  refine bw_eqi (y := nI 1) rfl ?_
  refine bw_istore 6 dX6_addRow_4 rfl (by decide) ?_
  refine bw_loc _ ?_ (c6_addRow_loop g hG hsep hr hc hrow hcnt hcnt8 hm hV 1 (Nat.one_le_two_pow) (by omega) _ hC (by rw [garV_0]; exact hR) bw_sm.rf)
  exact ⟨rfl, rfl, rfl, rfl, rfl, rfl, trivial⟩
/-- all choices of rows below k: the minors kept -/
def gczV (n q : Nat) (m : Nat → Nat) (c : Nat) (V : Nat → Nat → Nat) : Nat → Nat → Nat → Nat
  | 0 => V
  | k + 1 => if k = 0 then V else garV n q m c (gtz 8 k) (gbc 8 k) (gczV n q m c V k) (2 ^ c)
/-- and how many are 0 -/
def gczZ (n q : Nat) (m : Nat → Nat) (c : Nat) (V : Nat → Nat → Nat) : Nat → Nat
  | 0 => 0
  | k + 1 => if k = 0 then 0 else gczZ n q m c V k + garZ n q m c (gtz 8 k) (gbc 8 k) (gczV n q m c V k) (2 ^ c)
theorem gczV_lt {n q : Nat} (hG : GFp n q) {m : Nat → Nat} {c : Nat} {V : Nat → Nat → Nat} (hm : ∀ i, m i < 2 ^ n) (hV : ∀ i j, V i j < 2 ^ n) : ∀ k i j, gczV n q m c V k i j < 2 ^ n
  | 0 => hV
  | k + 1 => by
    intro i j
    unfold gczV
    split
    · exact hV i j
    · exact garV_lt hG hm (gczV_lt hG hm hV k) i j
theorem gtz_row : ∀ k, k < 256 → k ≠ 0 → (2 ^ gtz 8 k ≤ k ∧ 1 ≤ gbc 8 k ∧ gbc 8 k ≤ 8) := by decide +kernel
/-- values with 1 at 0, 0 -/
def gv1 (V : Nat → Nat → Nat) (a b : Nat) : Nat := if a = 0 ∧ b = 0 then 1 else V a b
theorem gv1_s {V : Nat → Nat → Nat} : ∀ a, (if a = 0 then (fun b => if b = 0 then 1 else V 0 b) else V a) = gv1 V a := by
  intro a
  funext b
  unfold gv1
  by_cases h : a = 0
  · subst h
    rw [if_pos rfl]
    show (if b = 0 then 1 else V 0 b) = _
    exact if_iff (by omega)
  · rw [if_neg h, if_neg (by omega)]
set_option maxHeartbeats 4000000 in
set_option maxRecDepth 100000 in
theorem c6_cz_loop (g : bw_G) {A0 : bw_H} {N F vc n p gg M r c : Nat} {m : Nat → Nat} {V : Nat → Nat → Nat} (hG : GFg n p gg) (hsep : ∀ a ∈ [N, F, F + 1, vc, M, M + 1], a < vc + 1 ∨ vc + 1 + 9 ≤ a) (hr : r ≤ 8) (hc : c ≤ 8) (hm : ∀ i, m i < 2 ^ n) (hV : ∀ i j, V i j < 2 ^ n) :
    ∀ k, k ≤ 2 ^ r → 1 ≤ k → ∀ A : bw_H, bw_has A (nvl g n p gg N F vc M r c m) → bw_rw g A (vc + 1) 9 256 (gczV n (2 ^ n ||| p) m c V k) → bw_sm (mnL vc) A0 A →
      bw_W g (bw_rm 3 0 0) mX6_countZeros (bw_pm (fun x A' => x = nI (gczZ n (2 ^ n ||| p) m c V (2 ^ r)) ∧ bw_sm (mnL vc) A0 A' ∧ bw_has A' (nvl g n p gg N F vc M r c m) ∧ bw_rw g A' (vc + 1) 9 256 (gczV n (2 ^ n ||| p) m c V (2 ^ r)))) 0 0 13 [(0, .ref N), (1, .ref M), (2, .int (nI (gczZ n (2 ^ n ||| p) m c V k))), (3, .int (nI k))] [] A := by
  have h2r : 2 ^ r ≤ 256 := Nat.pow_le_pow_right (n := 2) (by omega) hr
  refine nat_up (2 ^ r) ?_ ?_
  · intro _ A hC hR hM
    refine bw_iload_n 14 dX6_countZeros_13 rfl rfl ?_
    refine bw_iconst (1) 15 dX6_countZeros_14 (by decide) rfl ?_
    refine bw_eqi (y := nI 1) rfl ?_
    refine bw_aload_n 16 dX6_countZeros_15 rfl rfl ?_
    refine bw_get 19 dX6_countZeros_16 rfl lX6_20 (hC.at 4 rfl) rfl ?_
    refine bw_ishl 20 dX6_countZeros_19 rfl ?_
    refine bw_eqi ((xn_shl (a := 1) r (by omega) (by omega)).trans (congrArg nI (Nat.one_mul (2 ^ r)))) ?_
    refine bw_icmp_ge 53 23 dX6_countZeros_20 rfl rfl (fun c20 => ?_) (fun c20 => ?_)
    · refine bw_iload_n 54 dX6_countZeros_53 rfl rfl ?_
      refine bw_iret dX6_countZeros_54 rfl (Nat.le_of_ble_eq_true rfl) (Nat.le_of_ble_eq_true rfl) ?_
      exact ⟨_, rfl, rfl, hM, hC, hR⟩
    · exact absurd (Int32.le_refl _) c20
  · intro k hk ih hk1 A hC hR hM
    have hgt := gtz_row k (by omega) (by omega)
    have hrow : gtz 8 k < r := by
      have : 2 ^ gtz 8 k < 2 ^ r := by omega
      exact (Nat.pow_lt_pow_iff_right (by omega)).mp this
    have hz : gczZ n (2 ^ n ||| p) m c V (k + 1) = gczZ n (2 ^ n ||| p) m c V k + garZ n (2 ^ n ||| p) m c (gtz 8 k) (gbc 8 k) (gczV n (2 ^ n ||| p) m c V k) (2 ^ c) := if_neg (by omega)
    have hv : gczV n (2 ^ n ||| p) m c V (k + 1) = garV n (2 ^ n ||| p) m c (gtz 8 k) (gbc 8 k) (gczV n (2 ^ n ||| p) m c V k) (2 ^ c) := if_neg (by omega)
    refine bw_iload_n 14 dX6_countZeros_13 rfl rfl ?_
    refine bw_iconst (1) 15 dX6_countZeros_14 (by decide) rfl ?_
    refine bw_eqi (y := nI 1) rfl ?_
    refine bw_aload_n 16 dX6_countZeros_15 rfl rfl ?_
    refine bw_get 19 dX6_countZeros_16 rfl lX6_20 (hC.at 4 rfl) rfl ?_
    refine bw_ishl 20 dX6_countZeros_19 rfl ?_
    refine bw_eqi ((xn_shl (a := 1) r (by omega) (by omega)).trans (congrArg nI (Nat.one_mul (2 ^ r)))) ?_
    refine bw_icmp_ge 53 23 dX6_countZeros_20 rfl rfl (fun c20 => ?_) (fun c20 => ?_)
    · exact absurd c20 (nI_ge (by omega) (by omega))
    · skip
      refine bw_iload_n 24 dX6_countZeros_23 rfl rfl ?_
      refine bw_cSi 27 dX6_countZeros_24 rfl sX6_26 (cJ6_bits g (by omega)) rfl rfl (Nat.le_of_ble_eq_true rfl) ⟨(Nat.le_of_ble_eq_true rfl), (Nat.le_of_ble_eq_true rfl)⟩ (Nat.le_of_ble_eq_true rfl) (Nat.le_of_ble_eq_true rfl) ?_
      refine bw_istore 29 dX6_countZeros_27 rfl (by decide) ?_
      refine bw_iload_n 30 dX6_countZeros_29 rfl rfl ?_
      refine bw_cSi 33 dX6_countZeros_30 rfl sX6_32 (cJ6_ntz g (by omega) (by omega)) rfl rfl (Nat.le_of_ble_eq_true rfl) ⟨(Nat.le_of_ble_eq_true rfl), (Nat.le_of_ble_eq_true rfl)⟩ (Nat.le_of_ble_eq_true rfl) (Nat.le_of_ble_eq_true rfl) ?_
      refine bw_istore 35 dX6_countZeros_33 rfl (by decide) ?_
      refine bw_iload_n 36 dX6_countZeros_35 rfl rfl ?_
      refine bw_aload_n 37 dX6_countZeros_36 rfl rfl ?_
      refine bw_aload_n 38 dX6_countZeros_37 rfl rfl ?_
      refine bw_iload 40 dX6_countZeros_38 rfl rfl ?_
      refine bw_iload 42 dX6_countZeros_40 rfl rfl ?_
      refine bw_cVm 45 dX6_countZeros_42 rfl vX6_35 (c6_addRow g hG hsep hr hc hrow hgt.2.1 hgt.2.2 hm (gczV_lt hG.2.2.1 hm hV k) hC hR) (hC.at 0 rfl) rfl rfl (Nat.le_of_ble_eq_true rfl) ⟨(Nat.le_of_ble_eq_true rfl), (Nat.le_of_ble_eq_true rfl)⟩ (Nat.le_of_ble_eq_true rfl) (Nat.le_of_ble_eq_true rfl) (fun x A hP => ?_)
      obtain ⟨hx, hs, hC, hR⟩ := hP
      subst hx
      have hM := hM.trans hs (fun _ h => h)
      refine bw_iadd 46 dX6_countZeros_45 rfl ?_
      refine bw_eqi (nI_add _ _) ?_
      refine bw_istore_n 47 dX6_countZeros_46 rfl (by decide) ?_
      refine bw_iincN (1) 50 dX6_countZeros_47 rfl rfl (by decide) (by decide) ?_
      refine bw_goto 13 dX6_countZeros_50 rfl ?_
      refine bw_loc _ ?_ (ih (by omega) _ hC (by rw [hv]; exact hR) hM)
      exact ⟨rfl, rfl, congrArg (fun x => some (Value.int (nI x))) hz.symm, congrArg (fun x => some (Value.int x)) (nI_1 k), trivial⟩
set_option maxHeartbeats 4000000 in
set_option maxRecDepth 100000 in
theorem c6_countZeros (g : bw_G) {A0 : bw_H} {N F vc n p gg M r c : Nat} {m : Nat → Nat} {V : Nat → Nat → Nat} (hG : GFg n p gg) (hsep : ∀ a ∈ [N, F, F + 1, vc, M, M + 1], a < vc + 1 ∨ vc + 1 + 9 ≤ a) (hr : r ≤ 8) (hc : c ≤ 8) (hm : ∀ i, m i < 2 ^ n) (hV : ∀ i j, V i j < 2 ^ n) (hC : bw_has A0 (nvl g n p gg N F vc M r c m)) (hR : bw_rw g A0 (vc + 1) 9 256 V) :
    bw_C g (bw_rm 3 0 0) mX6_countZeros [.ref N, .ref M] A0 (bw_pm (fun x A' => x = nI (gczZ n (2 ^ n ||| p) m c (gv1 V) (2 ^ r)) ∧ bw_sm (mnL vc) A0 A' ∧ bw_has A' (nvl g n p gg N F vc M r c m) ∧ bw_rw g A' (vc + 1) 9 256 (gczV n (2 ^ n ||| p) m c (gv1 V) (2 ^ r)))) := by
  have hV1 : ∀ i j, gv1 V i j < 2 ^ n := by
    intro i j
    unfold gv1
    split
    · exact hG.2.2.1.one
    · exact hV i j
  have hM : bw_sm (mnL vc) A0 A0 := bw_sm.rf
  refine bw_C.of (by decide) (Nat.le_of_ble_eq_true rfl) rfl ?_
  refine bw_aload_n 1 dX6_countZeros_0 rfl rfl ?_
  refine bw_get 4 dX6_countZeros_1 rfl lX6_11 (hC.at 0 rfl) rfl ?_
  refine bw_iconst (0) 5 dX6_countZeros_4 (by decide) rfl ?_
  refine bw_eqi (y := nI 0) rfl ?_
  refine bw_aaldN 6 dX6_countZeros_5 rfl rfl rfl (hC.at 3 rfl) (by omega) (by omega) (if_pos (by omega)) ?_
  refine bw_iconst (0) 7 dX6_countZeros_6 (by decide) rfl ?_
  refine bw_eqi (y := nI 0) rfl ?_
  refine bw_iconst (1) 8 dX6_countZeros_7 (by decide) rfl ?_
  refine bw_eqi (y := nI 1) rfl ?_
  refine bw_iastN 9 dX6_countZeros_8 rfl (hR 0 (by omega)) (by omega) (by omega) (G := _) (rfl) (fun A hU => ?_)
  have hR := hR.set (w' := gv1 V) hU gv1_s
  have hC := hC.row hU (show 0 < 9 by omega) hsep
  have hM := hM.upd hU (by simp)
  refine bw_iconst (0) 10 dX6_countZeros_9 (by decide) rfl ?_
  refine bw_eqi (y := nI 0) rfl ?_
  refine bw_istore_n 11 dX6_countZeros_10 rfl (by decide) ?_
  refine bw_iconst (1) 12 dX6_countZeros_11 (by decide) rfl ?_
  refine bw_eqi (y := nI 1) rfl ?_
  refine bw_istore_n 13 dX6_countZeros_12 rfl (by decide) ?_
  refine bw_loc _ ?_ (c6_cz_loop g hG hsep hr hc hm hV1 1 (Nat.one_le_two_pow) (by omega) _ hC hR hM)
  exact ⟨rfl, rfl, rfl, rfl, trivial⟩
