/-! the class's helpers: what calls share -/
/-- two of the row's first rn, step apart, are alike -/
def hal (row : Nat → Nat) (rn step : Nat) : Prop := ∃ i j, step * i < rn ∧ j < i ∧ row (step * i) = row (step * j)
set_option maxHeartbeats 4000000 in
set_option maxRecDepth 100000 in
theorem c9_hal_in (g : bw_G) {A : bw_H} {x n rn mn pn sn step a z : Nat} {row : Nat → Nat} (hC : bw_has A [(x, xob x n rn mn pn sn), (x + 5, bw_an g 130 row)]) (hn : 2 ^ n ≤ 65536) (hrow : ∀ i, row i < 2 ^ n) (hrn : rn ≤ 130) (hs : 1 ≤ step) (hs2 : step ≤ 2) (ha : step * a < rn) (hz : z = 1 ∧ hal row rn step ∨ z = 0 ∧ ¬ hal row rn step)
    (kk : (∀ j, j < a → row (step * a) ≠ row (step * j)) → bw_W g (bw_rm 0 0 0) mX9_hasAlike (bw_pi (nI z) A) 0 0 41 [(0, .ref x), (1, .int (nI step)), (2, .int (nI (step * a)))] [] A) :
    ∀ r b, b + r = a → (∀ j, j < b → row (step * a) ≠ row (step * j)) → bw_W g (bw_rm 0 0 0) mX9_hasAlike (bw_pi (nI z) A) 0 0 12 [(0, .ref x), (1, .int (nI step)), (2, .int (nI (step * a))), (3, .int (nI (step * b)))] [] A := by
  intro r
  induction r with
  | zero =>
    intro b hb hall
    have hb : b = a := by omega
    subst hb
    refine bw_iload_n 13 dX9_hasAlike_12 rfl rfl ?_
    refine bw_iload_n 14 dX9_hasAlike_13 rfl rfl ?_
    refine bw_icmp_ge 41 17 dX9_hasAlike_14 rfl rfl (fun c14 => ?_) (fun c14 => ?_)
    · exact bw_loc [(0, .ref x), (1, .int (nI step)), (2, .int (nI (step * b)))] ⟨rfl, rfl, rfl, trivial⟩ (kk hall)
    · exact absurd (Int32.le_refl _) c14
  | succ r ih =>
    intro b hb hall
    have hlt : step * b < step * a := Nat.mul_lt_mul_of_pos_left (by omega) hs
    have h1 := hrow (step * a)
    have h2 := hrow (step * b)
    refine bw_iload_n 13 dX9_hasAlike_12 rfl rfl ?_
    refine bw_iload_n 14 dX9_hasAlike_13 rfl rfl ?_
    refine bw_icmp_ge 41 17 dX9_hasAlike_14 rfl rfl (fun c14 => ?_) (fun c14 => ?_)
    · exact absurd c14 (nI_ge hlt (by omega))
    · skip
      refine bw_aload_n 18 dX9_hasAlike_17 rfl rfl ?_
      refine bw_get 21 dX9_hasAlike_18 rfl lX9_21 (hC.at 0 rfl) rfl ?_
      refine bw_iload_n 22 dX9_hasAlike_21 rfl rfl ?_
      refine bw_ialdN 23 dX9_hasAlike_22 rfl (hC.at 1 rfl) (by omega) (by omega) ?_
      refine bw_aload_n 24 dX9_hasAlike_23 rfl rfl ?_
      refine bw_get 27 dX9_hasAlike_24 rfl lX9_21 (hC.at 0 rfl) rfl ?_
      refine bw_iload_n 28 dX9_hasAlike_27 rfl rfl ?_
      refine bw_ialdN 29 dX9_hasAlike_28 rfl (hC.at 1 rfl) (by omega) (by omega) ?_
      refine bw_icmp_ne 34 32 dX9_hasAlike_29 rfl rfl (fun c29 => ?_) (fun c29 => ?_)
      · have he : row (step * a) ≠ row (step * b) := fun h => c29 (by rw [h])
        refine bw_iload_n 35 dX9_hasAlike_34 rfl rfl ?_
        refine bw_iload_n 36 dX9_hasAlike_35 rfl rfl ?_
        refine bw_iadd 37 dX9_hasAlike_36 rfl ?_
        refine bw_eqi ((nI_add _ _).trans (congrArg nI (show step * b + step = step * (b + 1) from rfl))) ?_
        refine bw_istore_n 38 dX9_hasAlike_37 rfl (by decide) ?_
        refine bw_goto 12 dX9_hasAlike_38 rfl ?_
        refine bw_loc _ ?_ (ih (b + 1) (by omega) (lt_s hall he))
        exact ⟨rfl, rfl, rfl, rfl, trivial⟩
      · have he : row (step * a) = row (step * b) := (nI_eq (by omega) (by omega)).mp c29
        have hz1 : z = 1 := by
          rcases hz with h | h
          · exact h.1
          · exact absurd ⟨a, b, ha, by omega, he⟩ h.2
        subst hz1
        refine bw_iconst (1) 33 dX9_hasAlike_32 (by decide) rfl ?_
        refine bw_zret dX9_hasAlike_33 rfl (by first | decide | assumption) (Nat.le_of_ble_eq_true rfl) (Nat.le_of_ble_eq_true rfl) ?_
        exact ⟨rfl, rfl⟩
set_option maxHeartbeats 4000000 in
set_option maxRecDepth 100000 in
theorem c9_hal_out (g : bw_G) {A : bw_H} {x n rn mn pn sn step z : Nat} {row : Nat → Nat} (hC : bw_has A [(x, xob x n rn mn pn sn), (x + 5, bw_an g 130 row)]) (hn : 2 ^ n ≤ 65536) (hrow : ∀ i, row i < 2 ^ n) (hrn : rn ≤ 130) (hs : 1 ≤ step) (hs2 : step ≤ 2) (hz : z = 1 ∧ hal row rn step ∨ z = 0 ∧ ¬ hal row rn step) :
    ∀ r a, a + r = rn → (∀ i j, i < a → j < i → row (step * i) ≠ row (step * j)) → bw_W g (bw_rm 0 0 0) mX9_hasAlike (bw_pi (nI z) A) 0 0 2 [(0, .ref x), (1, .int (nI step)), (2, .int (nI (step * a)))] [] A := by
  have hend : ∀ a, rn ≤ step * a → (∀ i j, i < a → j < i → row (step * i) ≠ row (step * j)) → z = 0 := by
    intro a hle hall
    rcases hz with h | h
    · obtain ⟨i, j, h1, h2, h3⟩ := h.2
      exact absurd h3 (hall i j (Nat.lt_of_mul_lt_mul_left (Nat.lt_of_lt_of_le h1 hle)) h2)
    · exact h.1
  intro r
  induction r with
  | zero =>
    intro a ha hall
    have hle : rn ≤ step * a := by
      have := Nat.mul_le_mul_right a hs
      omega
    have h2a : step * a ≤ 2 * a := Nat.mul_le_mul_right a hs2
    have hz0 := hend a hle hall
    subst hz0
    refine bw_iload_n 3 dX9_hasAlike_2 rfl rfl ?_
    refine bw_aload_n 4 dX9_hasAlike_3 rfl rfl ?_
    refine bw_get 7 dX9_hasAlike_4 rfl lX9_135 (hC.at 0 rfl) rfl ?_
    refine bw_icmp_ge 48 10 dX9_hasAlike_7 rfl rfl (fun c7 => ?_) (fun c7 => ?_)
    · refine bw_iconst (0) 49 dX9_hasAlike_48 (by decide) rfl ?_
      refine bw_zret dX9_hasAlike_49 rfl (by first | decide | assumption) (Nat.le_of_ble_eq_true rfl) (Nat.le_of_ble_eq_true rfl) ?_
      exact ⟨rfl, rfl⟩
    · exact absurd (nI_le hle (by omega)) c7
  | succ r ih =>
    intro a ha hall
    have h2a : step * a ≤ 2 * a := Nat.mul_le_mul_right a hs2
    refine bw_iload_n 3 dX9_hasAlike_2 rfl rfl ?_
    refine bw_aload_n 4 dX9_hasAlike_3 rfl rfl ?_
    refine bw_get 7 dX9_hasAlike_4 rfl lX9_135 (hC.at 0 rfl) rfl ?_
    refine bw_icmp_ge 48 10 dX9_hasAlike_7 rfl rfl (fun c7 => ?_) (fun c7 => ?_)
    · have hle : rn ≤ step * a := (nI_leI (by omega) (by omega)).mp c7
      have hz0 := hend a hle hall
      subst hz0
      refine bw_iconst (0) 49 dX9_hasAlike_48 (by decide) rfl ?_
      refine bw_zret dX9_hasAlike_49 rfl (by first | decide | assumption) (Nat.le_of_ble_eq_true rfl) (Nat.le_of_ble_eq_true rfl) ?_
      exact ⟨rfl, rfl⟩
    · have hlt : step * a < rn := Nat.not_le.mp (fun h => c7 (nI_le h (by omega)))
      refine bw_iconst (0) 11 dX9_hasAlike_10 (by decide) rfl ?_
      refine bw_eqi (y := nI 0) rfl ?_
      refine bw_istore_n 12 dX9_hasAlike_11 rfl (by decide) ?_
      refine bw_loc [(0, .ref x), (1, .int (nI step)), (2, .int (nI (step * a))), (3, .int (nI (step * 0)))] ⟨rfl, rfl, rfl, congrArg (fun x => some (Value.int (nI x))) (Nat.mul_zero step).symm, trivial⟩ ?_
      refine c9_hal_in g hC hn hrow hrn hs hs2 hlt hz (fun hall2 => ?_) a 0 (by omega) (fun j hj => absurd hj (Nat.not_lt_zero j))
      refine bw_iload_n 42 dX9_hasAlike_41 rfl rfl ?_
      refine bw_iload_n 43 dX9_hasAlike_42 rfl rfl ?_
      refine bw_iadd 44 dX9_hasAlike_43 rfl ?_
      refine bw_eqi ((nI_add _ _).trans (congrArg nI (show step * a + step = step * (a + 1) from rfl))) ?_
      refine bw_istore_n 45 dX9_hasAlike_44 rfl (by decide) ?_
      refine bw_goto 2 dX9_hasAlike_45 rfl ?_
      refine bw_loc _ ?_ (ih (a + 1) (by omega) (fun i j hi hj => ?_))
      · exact ⟨rfl, rfl, rfl, trivial⟩
      · by_cases he : i = a
        · subst he
          exact hall2 j hj
        · exact hall i j (by omega) hj
set_option maxHeartbeats 4000000 in
set_option maxRecDepth 100000 in
theorem c9_hasAlike (g : bw_G) {A : bw_H} {x n rn mn pn sn step z : Nat} {row : Nat → Nat} (hC : bw_has A [(x, xob x n rn mn pn sn), (x + 5, bw_an g 130 row)]) (hn : 2 ^ n ≤ 65536) (hrow : ∀ i, row i < 2 ^ n) (hrn : rn ≤ 130) (hs : 1 ≤ step) (hs2 : step ≤ 2) (hz : z = 1 ∧ hal row rn step ∨ z = 0 ∧ ¬ hal row rn step) :
    bw_C g (bw_rm 0 0 0) mX9_hasAlike [.ref x, .int (nI step)] A (bw_pi (nI z) A) := by
  refine bw_C.of (by decide) (Nat.le_of_ble_eq_true rfl) rfl ?_
  refine bw_iconst (0) 1 dX9_hasAlike_0 (by decide) rfl ?_
  refine bw_eqi (y := nI 0) rfl ?_
  refine bw_istore_n 2 dX9_hasAlike_1 rfl (by decide) ?_
  refine bw_loc [(0, .ref x), (1, .int (nI step)), (2, .int (nI (step * 0)))] ⟨rfl, rfl, congrArg (fun x => some (Value.int (nI x))) (Nat.mul_zero step).symm, trivial⟩ ?_
  exact c9_hal_out g hC hn hrow hrn hs hs2 hz rn 0 (by omega) (fun i j hi => absurd hi (Nat.not_lt_zero i))
/-- the xor of the chosen of the first k -/
def gxo (row : Nat → Nat) (ch : Nat) : Nat → Nat
  | 0 => 0
  | k + 1 => if ch / 2 ^ k % 2 = 0 then gxo row ch k else gxo row ch k ^^^ row k
theorem gxo_lt {n : Nat} {row : Nat → Nat} (hrow : ∀ i, row i < 2 ^ n) (ch : Nat) : ∀ k, gxo row ch k < 2 ^ n
  | 0 => Nat.two_pow_pos n
  | k + 1 => by
    unfold gxo
    split
    · exact gxo_lt hrow ch k
    · exact xor_lt (gxo_lt hrow ch k) (hrow k)
set_option maxHeartbeats 4000000 in
set_option maxRecDepth 100000 in
theorem c9_xo_loop (g : bw_G) {A : bw_H} {x n rn mn pn sn ch ct : Nat} {row : Nat → Nat} (hC : bw_has A [(x, xob x n rn mn pn sn), (x + 5, bw_an g 130 row)]) (hch : ch < 2 ^ 31) (hct : ct ≤ 6) :
    ∀ k, k ≤ ct → bw_W g (bw_rm 0 0 0) mX9_xorOfChosen (bw_pi (nI (gxo row ch ct)) A) 0 0 5 [(0, .ref x), (1, .int (nI ch)), (2, .int (nI ct)), (3, .int (nI (gxo row ch k))), (4, .int (nI k))] [] A := by
  refine nat_up ct ?_ ?_
  · skip
    refine bw_iload 7 dX9_xorOfChosen_5 rfl rfl ?_
    refine bw_iload_n 8 dX9_xorOfChosen_7 rfl rfl ?_
    refine bw_icmp_ge 36 11 dX9_xorOfChosen_8 rfl rfl (fun c8 => ?_) (fun c8 => ?_)
    · refine bw_iload_n 37 dX9_xorOfChosen_36 rfl rfl ?_
      refine bw_iret dX9_xorOfChosen_37 rfl (Nat.le_of_ble_eq_true rfl) (Nat.le_of_ble_eq_true rfl) ?_
      exact ⟨rfl, rfl⟩
    · exact absurd (Int32.le_refl _) c8
  · intro k hk ih
    refine bw_iload 7 dX9_xorOfChosen_5 rfl rfl ?_
    refine bw_iload_n 8 dX9_xorOfChosen_7 rfl rfl ?_
    refine bw_icmp_ge 36 11 dX9_xorOfChosen_8 rfl rfl (fun c8 => ?_) (fun c8 => ?_)
    · exact absurd c8 (nI_ge (by omega) (by omega))
    · skip
      refine bw_iload_n 12 dX9_xorOfChosen_11 rfl rfl ?_
      refine bw_iload 14 dX9_xorOfChosen_12 rfl rfl ?_
      refine bw_ishr 15 dX9_xorOfChosen_14 rfl ?_
      refine bw_eqi (xn_shr k (by omega) (by omega)) ?_
      refine bw_iconst (1) 16 dX9_xorOfChosen_15 (by decide) rfl ?_
      refine bw_iand 17 dX9_xorOfChosen_16 rfl ?_
      refine bw_eqi (xn_and1 _) ?_
      refine bw_if_eq 30 20 dX9_xorOfChosen_17 rfl rfl (fun c17 => ?_) (fun c17 => ?_)
      · have he : gxo row ch (k + 1) = gxo row ch k := if_pos ((xn_eq0 (by omega)).mp c17)
        refine bw_iincN (1) 33 dX9_xorOfChosen_30 rfl rfl (by decide) (by decide) ?_
        refine bw_goto 5 dX9_xorOfChosen_33 rfl ?_
        refine bw_loc _ ?_ ih
        exact ⟨rfl, rfl, rfl, congrArg (fun x => some (Value.int (nI x))) he.symm, congrArg (fun x => some (Value.int x)) (nI_1 k), trivial⟩
      · have he : gxo row ch (k + 1) = gxo row ch k ^^^ row k := if_neg (fun h => c17 ((xn_eq0 (by omega)).mpr h))
        refine bw_iload_n 21 dX9_xorOfChosen_20 rfl rfl ?_
        refine bw_aload_n 22 dX9_xorOfChosen_21 rfl rfl ?_
        refine bw_get 25 dX9_xorOfChosen_22 rfl lX9_21 (hC.at 0 rfl) rfl ?_
        refine bw_iload 27 dX9_xorOfChosen_25 rfl rfl ?_
        refine bw_ialdN 28 dX9_xorOfChosen_27 rfl (hC.at 1 rfl) (by omega) (by omega) ?_
        refine bw_ixor 29 dX9_xorOfChosen_28 rfl ?_
        refine bw_eqi (xn_xor _ _) ?_
        refine bw_istore_n 30 dX9_xorOfChosen_29 rfl (by decide) ?_
        refine bw_iincN (1) 33 dX9_xorOfChosen_30 rfl rfl (by decide) (by decide) ?_
        refine bw_goto 5 dX9_xorOfChosen_33 rfl ?_
        refine bw_loc _ ?_ ih
        exact ⟨rfl, rfl, rfl, congrArg (fun x => some (Value.int (nI x))) he.symm, congrArg (fun x => some (Value.int x)) (nI_1 k), trivial⟩
set_option maxHeartbeats 4000000 in
set_option maxRecDepth 100000 in
theorem c9_xorOfChosen (g : bw_G) {A : bw_H} {x n rn mn pn sn ch ct : Nat} {row : Nat → Nat} (hC : bw_has A [(x, xob x n rn mn pn sn), (x + 5, bw_an g 130 row)]) (hch : ch < 2 ^ 31) (hct : ct ≤ 6) :
    bw_C g (bw_rm 0 0 0) mX9_xorOfChosen [.ref x, .int (nI ch), .int (nI ct)] A (bw_pi (nI (gxo row ch ct)) A) := by
  refine bw_C.of (by decide) (Nat.le_of_ble_eq_true rfl) rfl ?_
  refine bw_iconst (0) 1 dX9_xorOfChosen_0 (by decide) rfl ?_
  refine bw_eqi (y := nI 0) rfl ?_
  refine bw_istore_n 2 dX9_xorOfChosen_1 rfl (by decide) ?_
  refine bw_iconst (0) 3 dX9_xorOfChosen_2 (by decide) rfl ?_
  refine bw_eqi (y := nI 0) rfl ?_
  refine bw_istore 5 dX9_xorOfChosen_3 rfl (by decide) ?_
  refine bw_loc _ ?_ (c9_xo_loop g hC hch hct 0 (Nat.zero_le ct))
  exact ⟨rfl, rfl, rfl, rfl, rfl, trivial⟩
/-- one of the row is an xor of those ahead -/
def hxa (row : Nat → Nat) (rn : Nat) : Prop := ∃ k c, k < rn ∧ c < 2 ^ k ∧ gxo row c k = row k
set_option maxHeartbeats 4000000 in
set_option maxRecDepth 100000 in
theorem c9_hxa_in (g : bw_G) {A : bw_H} {x n rn mn pn sn k z : Nat} {row : Nat → Nat} (hC : bw_has A [(x, xob x n rn mn pn sn), (x + 5, bw_an g 130 row)]) (hn : 2 ^ n ≤ 65536) (hrow : ∀ i, row i < 2 ^ n) (hrn : rn ≤ 6) (hk : k < rn) (hz : z = 1 ∧ hxa row rn ∨ z = 0 ∧ ¬ hxa row rn)
    (kk : (∀ c, c < 2 ^ k → gxo row c k ≠ row k) → bw_W g (bw_rm 1 0 0) mX9_hasXorOfAhead (bw_pi (nI z) A) 0 0 42 [(0, .ref x), (1, .int (nI k))] [] A) :
    ∀ c, c ≤ 2 ^ k → (∀ d, d < c → gxo row d k ≠ row k) → bw_W g (bw_rm 1 0 0) mX9_hasXorOfAhead (bw_pi (nI z) A) 0 0 12 [(0, .ref x), (1, .int (nI k)), (2, .int (nI c))] [] A := by
  have h2k : 2 ^ k ≤ 2 ^ 6 := Nat.pow_le_pow_right (by omega) (by omega)
  refine nat_up (2 ^ k) ?_ ?_
  · intro hall
    refine bw_iload_n 13 dX9_hasXorOfAhead_12 rfl rfl ?_
    refine bw_iconst (1) 14 dX9_hasXorOfAhead_13 (by decide) rfl ?_
    refine bw_eqi (y := nI 1) rfl ?_
    refine bw_iload_n 15 dX9_hasXorOfAhead_14 rfl rfl ?_
    refine bw_ishl 16 dX9_hasXorOfAhead_15 rfl ?_
    refine bw_eqi ((xn_shl (a := 1) k (by omega) (by omega)).trans (congrArg nI (Nat.one_mul (2 ^ k)))) ?_
    refine bw_icmp_ge 42 19 dX9_hasXorOfAhead_16 rfl rfl (fun c16 => ?_) (fun c16 => ?_)
    · exact bw_loc [(0, .ref x), (1, .int (nI k))] ⟨rfl, rfl, trivial⟩ (kk hall)
    · exact absurd (Int32.le_refl _) c16
  · intro c hc ih hall
    have h1 := gxo_lt hrow c k
    have h2 := hrow k
    refine bw_iload_n 13 dX9_hasXorOfAhead_12 rfl rfl ?_
    refine bw_iconst (1) 14 dX9_hasXorOfAhead_13 (by decide) rfl ?_
    refine bw_eqi (y := nI 1) rfl ?_
    refine bw_iload_n 15 dX9_hasXorOfAhead_14 rfl rfl ?_
    refine bw_ishl 16 dX9_hasXorOfAhead_15 rfl ?_
    refine bw_eqi ((xn_shl (a := 1) k (by omega) (by omega)).trans (congrArg nI (Nat.one_mul (2 ^ k)))) ?_
    refine bw_icmp_ge 42 19 dX9_hasXorOfAhead_16 rfl rfl (fun c16 => ?_) (fun c16 => ?_)
    · exact absurd c16 (nI_ge (by omega) (by omega))
    · skip
      refine bw_aload_n 20 dX9_hasXorOfAhead_19 rfl rfl ?_
      refine bw_iload_n 21 dX9_hasXorOfAhead_20 rfl rfl ?_
      refine bw_iload_n 22 dX9_hasXorOfAhead_21 rfl rfl ?_
      refine bw_cVi 25 dX9_hasXorOfAhead_22 rfl vX9_329 (c9_xorOfChosen g hC (by omega) (by omega)) (hC.at 0 rfl) rfl rfl (Nat.le_of_ble_eq_true rfl) ⟨(Nat.le_of_ble_eq_true rfl), (Nat.le_of_ble_eq_true rfl)⟩ (Nat.le_of_ble_eq_true rfl) (Nat.le_of_ble_eq_true rfl) ?_
      refine bw_aload_n 26 dX9_hasXorOfAhead_25 rfl rfl ?_
      refine bw_get 29 dX9_hasXorOfAhead_26 rfl lX9_21 (hC.at 0 rfl) rfl ?_
      refine bw_iload_n 30 dX9_hasXorOfAhead_29 rfl rfl ?_
      refine bw_ialdN 31 dX9_hasXorOfAhead_30 rfl (hC.at 1 rfl) (by omega) (by omega) ?_
      refine bw_icmp_ne 36 34 dX9_hasXorOfAhead_31 rfl rfl (fun c31 => ?_) (fun c31 => ?_)
      · have he : gxo row c k ≠ row k := fun h => c31 (by rw [h])
        refine bw_iincN (1) 39 dX9_hasXorOfAhead_36 rfl rfl (by decide) (by decide) ?_
        refine bw_goto 12 dX9_hasXorOfAhead_39 rfl ?_
        refine bw_loc _ ?_ (ih (lt_s hall he))
        exact ⟨rfl, rfl, congrArg (fun x => some (Value.int x)) (nI_1 c), trivial⟩
      · have he : gxo row c k = row k := (nI_eq (by omega) (by omega)).mp c31
        have hz1 : z = 1 := by
          rcases hz with h | h
          · exact h.1
          · exact absurd ⟨k, c, hk, hc, he⟩ h.2
        subst hz1
        refine bw_iconst (1) 35 dX9_hasXorOfAhead_34 (by decide) rfl ?_
        refine bw_zret dX9_hasXorOfAhead_35 rfl (by first | decide | assumption) (Nat.le_of_ble_eq_true rfl) (Nat.le_of_ble_eq_true rfl) ?_
        exact ⟨rfl, rfl⟩
set_option maxHeartbeats 4000000 in
set_option maxRecDepth 100000 in
theorem c9_hxa_out (g : bw_G) {A : bw_H} {x n rn mn pn sn z : Nat} {row : Nat → Nat} (hC : bw_has A [(x, xob x n rn mn pn sn), (x + 5, bw_an g 130 row)]) (hn : 2 ^ n ≤ 65536) (hrow : ∀ i, row i < 2 ^ n) (hrn : rn ≤ 6) (hz : z = 1 ∧ hxa row rn ∨ z = 0 ∧ ¬ hxa row rn) :
    ∀ k, k ≤ rn → (∀ j c, j < k → c < 2 ^ j → gxo row c j ≠ row j) → bw_W g (bw_rm 1 0 0) mX9_hasXorOfAhead (bw_pi (nI z) A) 0 0 2 [(0, .ref x), (1, .int (nI k))] [] A := by
  refine nat_up rn ?_ ?_
  · intro hall
    have hz0 : z = 0 := by
      rcases hz with h | h
      · obtain ⟨k, c, h1, h2, h3⟩ := h.2
        exact absurd h3 (hall k c h1 h2)
      · exact h.1
    subst hz0
    refine bw_iload_n 3 dX9_hasXorOfAhead_2 rfl rfl ?_
    refine bw_aload_n 4 dX9_hasXorOfAhead_3 rfl rfl ?_
    refine bw_get 7 dX9_hasXorOfAhead_4 rfl lX9_135 (hC.at 0 rfl) rfl ?_
    refine bw_icmp_ge 48 10 dX9_hasXorOfAhead_7 rfl rfl (fun c7 => ?_) (fun c7 => ?_)
    · refine bw_iconst (0) 49 dX9_hasXorOfAhead_48 (by decide) rfl ?_
      refine bw_zret dX9_hasXorOfAhead_49 rfl (by first | decide | assumption) (Nat.le_of_ble_eq_true rfl) (Nat.le_of_ble_eq_true rfl) ?_
      exact ⟨rfl, rfl⟩
    · exact absurd (Int32.le_refl _) c7
  · intro k hk ih hall
    refine bw_iload_n 3 dX9_hasXorOfAhead_2 rfl rfl ?_
    refine bw_aload_n 4 dX9_hasXorOfAhead_3 rfl rfl ?_
    refine bw_get 7 dX9_hasXorOfAhead_4 rfl lX9_135 (hC.at 0 rfl) rfl ?_
    refine bw_icmp_ge 48 10 dX9_hasXorOfAhead_7 rfl rfl (fun c7 => ?_) (fun c7 => ?_)
    · exact absurd c7 (nI_ge (by omega) (by omega))
    · skip
      refine bw_iconst (0) 11 dX9_hasXorOfAhead_10 (by decide) rfl ?_
      refine bw_eqi (y := nI 0) rfl ?_
      refine bw_istore_n 12 dX9_hasXorOfAhead_11 rfl (by decide) ?_
      refine bw_loc [(0, .ref x), (1, .int (nI k)), (2, .int (nI 0))] ⟨rfl, rfl, rfl, trivial⟩ ?_
      refine c9_hxa_in g hC hn hrow hrn hk hz (fun h2 => ?_) 0 (Nat.zero_le _) (fun d hd => absurd hd (Nat.not_lt_zero d))
      refine bw_iincN (1) 45 dX9_hasXorOfAhead_42 rfl rfl (by decide) (by decide) ?_
      refine bw_goto 2 dX9_hasXorOfAhead_45 rfl ?_
      refine bw_loc _ ?_ (ih (fun j c hj hc => ?_))
      · exact ⟨rfl, congrArg (fun x => some (Value.int x)) (nI_1 k), trivial⟩
      · by_cases he : j = k
        · subst he
          exact h2 c hc
        · exact hall j c (by omega) hc
set_option maxHeartbeats 4000000 in
set_option maxRecDepth 100000 in
theorem c9_hasXorOfAhead (g : bw_G) {A : bw_H} {x n rn mn pn sn z : Nat} {row : Nat → Nat} (hC : bw_has A [(x, xob x n rn mn pn sn), (x + 5, bw_an g 130 row)]) (hn : 2 ^ n ≤ 65536) (hrow : ∀ i, row i < 2 ^ n) (hrn : rn ≤ 6) (hz : z = 1 ∧ hxa row rn ∨ z = 0 ∧ ¬ hxa row rn) :
    bw_C g (bw_rm 1 0 0) mX9_hasXorOfAhead [.ref x] A (bw_pi (nI z) A) := by
  refine bw_C.of (by decide) (Nat.le_of_ble_eq_true rfl) rfl ?_
  refine bw_iconst (0) 1 dX9_hasXorOfAhead_0 (by decide) rfl ?_
  refine bw_eqi (y := nI 0) rfl ?_
  refine bw_istore_n 2 dX9_hasXorOfAhead_1 rfl (by decide) ?_
  refine bw_loc [(0, .ref x), (1, .int (nI 0))] ⟨rfl, rfl, trivial⟩ ?_
  exact c9_hxa_out g hC hn hrow hrn hz 0 (Nat.zero_le rn) (fun j c hj => absurd hj (Nat.not_lt_zero j))
/-- Horner's value -/
def gho (n q : Nat) (f : Nat → Nat) (v : Nat) : Nat → Nat → Nat
  | 0, y => y
  | j + 1, y => gho n q f v j (gm n q y v ^^^ f j)
def gvl (n q : Nat) (f : Nat → Nat) (v : Nat) : Nat := gho n q f v (pd f) 0
theorem gho_lt {n q : Nat} (hG : GFp n q) {f : Nat → Nat} {v : Nat} (hf : ∀ i, f i < 2 ^ n) : ∀ (j : Nat) {y : Nat}, y < 2 ^ n → gho n q f v j y < 2 ^ n
  | 0, _, h => h
  | j + 1, _, h => gho_lt hG hf j (xor_lt (hG.lt h) (hf j))
set_option maxHeartbeats 4000000 in
set_option maxRecDepth 100000 in
theorem c9_val_loop (g : bw_G) {A : bw_H} {x n p gg rn mn pn sn a v m : Nat} {f : Nat → Nat} {w : Value} (hG : GFg n p gg) (hC : bw_has A ((x, xob x n rn mn pn sn) :: (fcl g n p gg (x + 9) ++ pcl g a 65 f m w))) (hf : ∀ i, f i < 2 ^ n) (hv : v < 2 ^ n) :
    ∀ (j y : Nat), y < 2 ^ n → j ≤ 65 → bw_W g (bw_rm 1 0 0) mX9_valueOf (bw_pi (nI (gho n (2 ^ n ||| p) f v j y)) A) 0 0 8 [(0, .ref x), (1, .ref a), (2, .int (nI v)), (3, .int (nI y)), (4, .int (tI j))] [] A := by
  intro j
  induction j with
  | zero =>
    intro y hy hj
    refine bw_iload 10 dX9_valueOf_8 rfl rfl ?_
    refine bw_if_lt 37 13 dX9_valueOf_10 rfl rfl (fun c10 => ?_) (fun c10 => ?_)
    · refine bw_iload_n 38 dX9_valueOf_37 rfl rfl ?_
      refine bw_iret dX9_valueOf_38 rfl (Nat.le_of_ble_eq_true rfl) (Nat.le_of_ble_eq_true rfl) ?_
      exact ⟨rfl, rfl⟩
    · exact absurd ((tI_lt0 (m := 0) (by omega)).mpr rfl) c10
  | succ j ih =>
    intro y hy hj
    rw [tI_s]
    refine bw_iload 10 dX9_valueOf_8 rfl rfl ?_
    refine bw_if_lt 37 13 dX9_valueOf_10 rfl rfl (fun c10 => ?_) (fun c10 => ?_)
    · exact absurd c10 (nI_pos (by omega))
    · skip
      refine bw_aload_n 14 dX9_valueOf_13 rfl rfl ?_
      refine bw_get 17 dX9_valueOf_14 rfl lX9_43 (hC.at 0 rfl) rfl ?_
      refine bw_iload_n 18 dX9_valueOf_17 rfl rfl ?_
      refine bw_iload_n 19 dX9_valueOf_18 rfl rfl ?_
      refine bw_cVi 22 dX9_valueOf_19 rfl vX9_103 (c3_mul g hG (hC.sub [1, 2] (by decide) rfl) hy hv) (hC.at 1 rfl) rfl rfl (Nat.le_of_ble_eq_true rfl) ⟨(Nat.le_of_ble_eq_true rfl), (Nat.le_of_ble_eq_true rfl)⟩ (Nat.le_of_ble_eq_true rfl) (Nat.le_of_ble_eq_true rfl) ?_
      refine bw_aload_n 23 dX9_valueOf_22 rfl rfl ?_
      refine bw_get 26 dX9_valueOf_23 rfl lX9_266 (hC.at 3 rfl) rfl ?_
      refine bw_iload 28 dX9_valueOf_26 rfl rfl ?_
      refine bw_ialdN 29 dX9_valueOf_28 rfl (hC.at 4 rfl) (by omega) (by omega) ?_
      refine bw_ixor 30 dX9_valueOf_29 rfl ?_
      refine bw_eqi (xn_xor _ _) ?_
      refine bw_istore_n 31 dX9_valueOf_30 rfl (by decide) ?_
      refine bw_iincN (-1) 34 dX9_valueOf_31 rfl rfl (by decide) (by decide) ?_
      refine bw_goto 8 dX9_valueOf_34 rfl ?_
      refine bw_loc _ ?_ (ih _ (xor_lt (hG.2.2.1.lt hy) (hf j)) (by omega))
      exact ⟨rfl, rfl, rfl, rfl, rfl, trivial⟩
set_option maxHeartbeats 4000000 in
set_option maxRecDepth 100000 in
theorem c9_valueOf (g : bw_G) {A : bw_H} {x n p gg rn mn pn sn a v : Nat} {f : Nat → Nat} {w : Value} (hG : GFg n p gg) (hC : bw_has A ((x, xob x n rn mn pn sn) :: (fcl g n p gg (x + 9) ++ ppl g a 65 f w))) (hf : pok n 65 f) (hv : v < 2 ^ n) :
    bw_C g (bw_rm 1 0 0) mX9_valueOf [.ref x, .ref a, .int (nI v)] A (bw_pi (nI (gvl n (2 ^ n ||| p) f v)) A) := by
  refine bw_C.of (by decide) (Nat.le_of_ble_eq_true rfl) rfl ?_
  refine bw_iconst (0) 1 dX9_valueOf_0 (by decide) rfl ?_
  refine bw_eqi (y := nI 0) rfl ?_
  refine bw_istore_n 2 dX9_valueOf_1 rfl (by decide) ?_
  refine bw_aload_n 3 dX9_valueOf_2 rfl rfl ?_
  refine bw_get 6 dX9_valueOf_3 rfl lX9_261 (hC.at 3 rfl) rfl ?_
  refine bw_istore 8 dX9_valueOf_6 rfl (by decide) ?_
  refine bw_loc _ ?_ (c9_val_loop g hG hC hf.2 hv (pd f) 0 (Nat.two_pow_pos n) (hf.le (by omega)))
  exact ⟨rfl, rfl, rfl, rfl, rfl, trivial⟩
set_option maxHeartbeats 4000000 in
theorem c9_keepMatrix (g : bw_G) {A0 : bw_H} {x n rn mn pn sn M r c : Nat} {MA : Nat → Option Nat} (hC : bw_has A0 [(x, xob x n rn mn pn sn), (x + 6, bw_aq g 3 40 MA), (M, mob M r c)]) (hm : mn < 40) :
    bw_C g (bw_rm 0 0 0) mX9_keepMatrix [.ref x, .ref M] A0 (bw_pm (fun y A' => y = nI mn ∧ A' = bw_up (bw_up A0 (x + 6) (bw_aq g 3 40 (fun i => if i = mn then some M else MA i))) x (xob x n rn (mn + 1) pn sn))) := by
  refine bw_C.of (by decide) (Nat.le_of_ble_eq_true rfl) rfl ?_
  refine bw_aload_n 1 dX9_keepMatrix_0 rfl rfl ?_
  refine bw_get 4 dX9_keepMatrix_1 rfl lX9_337 (hC.at 0 rfl) rfl ?_
  refine bw_istore_n 5 dX9_keepMatrix_4 rfl (by decide) ?_
  refine bw_aload_n 6 dX9_keepMatrix_5 rfl rfl ?_
  refine bw_get 9 dX9_keepMatrix_6 rfl lX9_27 (hC.at 0 rfl) rfl ?_
  refine bw_iload_n 10 dX9_keepMatrix_9 rfl rfl ?_
  refine bw_aload_n 11 dX9_keepMatrix_10 rfl rfl ?_
  refine bw_aastN (ci := 7) 12 dX9_keepMatrix_11 rfl rfl rfl (hC.at 1 rfl) (hC.at 2 rfl) (by omega) (by omega) (G := _) (rfl) (fun A hU => ?_)
  have hX := hU
  have hC := hC.upd 1 rfl hU
  refine bw_aload_n 13 dX9_keepMatrix_12 rfl rfl ?_
  refine bw_dup 14 dX9_keepMatrix_13 rfl rfl ?_
  refine bw_get 17 dX9_keepMatrix_14 rfl lX9_337 (hC.at 0 rfl) rfl ?_
  refine bw_iconst (1) 18 dX9_keepMatrix_17 (by decide) rfl ?_
  refine bw_eqi (y := nI 1) rfl ?_
  refine bw_iadd 19 dX9_keepMatrix_18 rfl ?_
  refine bw_eqi (nI_add mn 1) ?_
  refine bw_putU 22 dX9_keepMatrix_19 rfl pX9_337 (hC.at 0 rfl) rfl rfl (Nat.le_of_ble_eq_true rfl) (fun A hU => ?_)
  have hC := hC.upd 0 rfl hU
  refine bw_iload_n 23 dX9_keepMatrix_22 rfl rfl ?_
  refine bw_iret dX9_keepMatrix_23 rfl (Nat.le_of_ble_eq_true rfl) (Nat.le_of_ble_eq_true rfl) ?_
  exact ⟨_, rfl, rfl, by rw [hU, hX]; rfl⟩
/-- below a nothing but u and v has changed -/
def bw_fz (a u v : Nat) (A0 A : bw_H) : Prop := ∀ b : Nat, b < a → b ≠ u → b ≠ v → A.2 b = A0.2 b
theorem bw_fz.rf {a u v : Nat} {A : bw_H} : bw_fz a u v A A := fun _ _ _ _ => rfl
theorem bw_fz.upd {a u v : Nat} {A0 A A' : bw_H} {c : Nat} {e : va_E} (h : bw_fz a u v A0 A) (hA : A' = bw_up A c e) (hc : a ≤ c ∨ c = u ∨ c = v) : bw_fz a u v A0 A' := by
  subst hA
  intro b h1 h2 h3
  rw [bw_up_ne (a := c) (b := b) (by omega)]
  exact h b h1 h2 h3
theorem bw_fz.nwd {a u v : Nat} {A0 A A' : bw_H} {c : Nat} {e : va_E} (h : bw_fz a u v A0 A) (hA : A' = bw_nw A e) (hz : A.1 = c) (hc : a ≤ c) : bw_fz a u v A0 A' := by
  subst hA
  intro b h1 h2 h3
  rw [bw_nw_ne (b := b) (by omega)]
  exact h b h1 h2 h3
theorem bw_fz.gwt {a u v y : Nat} {A0 A A' : bw_H} (h : bw_fz a u v A0 A) (h' : bw_gw y A A') (hy : a ≤ y) : bw_fz a u v A0 A' := fun b h1 h2 h3 => (h' b (by omega)).trans (h b h1 h2 h3)
theorem bw_fz.po {g : bw_G} {a u v : Nat} {A0 A A' : bw_H} {c N m : Nat} {f : Nat → Nat} {w : Value} (h : bw_fz a u v A0 A) (hA : A' = bw_po g A c N f m w) (hc : a ≤ c) : bw_fz a u v A0 A' := by
  subst hA
  exact (h.upd rfl (Or.inl (by omega))).upd rfl (Or.inl hc)
/-- what keepPolynomial leaves -/
def kpP (g : bw_G) (x n rn mn pn sn a : Nat) (PA : Nat → Option Nat) (f : Nat → Nat) (A0 : bw_H) (y : Int32) (A' : bw_H) : Prop := y = nI pn ∧ A'.1 = a + 2 ∧ bw_has A' ((x, xob x n rn mn (pn + 1) sn) :: (x + 7, bw_aq g 4 40 (fun i => if i = pn then some a else PA i)) :: ppl g a 65 f .null) ∧ bw_fz a x (x + 7) A0 A'
set_option maxHeartbeats 4000000 in
set_option maxRecDepth 100000 in
theorem c9_keepPolynomial (g : bw_G) {A0 : bw_H} {x n rn mn pn sn wa N a : Nat} {PA : Nat → Option Nat} {f : Nat → Nat} {w : Value} (hn : 2 ^ n ≤ 65536) (hC : bw_has A0 ((x, xob x n rn mn pn sn) :: (x + 7, bw_aq g 4 40 PA) :: ppl g wa N f w)) (hN : N ≤ 200) (hf : pok n N f) (hfd : pd f ≤ 65) (hp : pn < 40) (hz : A0.1 = a) :
    bw_C g (bw_rm 3 2 68) mX9_keepPolynomial [.ref x, .ref wa] A0 (bw_pm (kpP g x n rn mn pn sn a PA f A0)) := by
  have hW : bw_fz a x (x + 7) A0 A0 := bw_fz.rf
  refine bw_C.of (by decide) (Nat.le_of_ble_eq_true rfl) rfl ?_
  refine bw_ok (fun hok => ?_)
  refine bw_newU 3 dX9_keepPolynomial_0 rfl nX9_9 (Nat.le_of_ble_eq_true rfl) (Nat.le_of_ble_eq_true rfl) hz (fun A hU => ?_)
  have hC := hC.nwda hok hz hU
  have hW := hW.nwd hU hz (by omega)
  have hz := (congrArg Prod.fst hU).trans (congrArg (· + 1) hz)
  clear hU hok
  refine bw_dup 4 dX9_keepPolynomial_3 rfl rfl ?_
  refine bw_bipush (65) 6 dX9_keepPolynomial_4 (by decide) rfl ?_
  refine bw_eqi (y := nI 65) rfl ?_
  refine bw_ok (fun hok => ?_)
  refine bw_cIv 9 dX9_keepPolynomial_6 rfl iX9_11 (c7_init g (hC.sub [4] (by decide) rfl) hz (by omega)) rfl rfl (Nat.le_of_ble_eq_true rfl) ⟨(Nat.le_of_ble_eq_true rfl), (Nat.le_of_ble_eq_true rfl)⟩ (Nat.le_of_ble_eq_true rfl) (Nat.le_of_ble_eq_true rfl) (fun A hP => ?_)
  obtain ⟨h1, h2, h3⟩ := hP
  have hC := hC.gr hok hz rfl h2 h3 (by simp)
  have hW := hW.gwt h2 (by omega)
  have hz := h1
  refine bw_astore_n 10 dX9_keepPolynomial_9 rfl (by decide) ?_
  refine bw_aload_n 11 dX9_keepPolynomial_10 rfl rfl ?_
  refine bw_aload_n 12 dX9_keepPolynomial_11 rfl rfl ?_
  refine bw_cVv 15 dX9_keepPolynomial_12 rfl vX9_273 (c7_copyP g hn (hC.sub [4, 5, 2, 3] (by decide) rfl) (by omega) hN ⟨by omega, fun _ _ => rfl⟩ hf (hfd)) (hC.at 4 rfl) rfl rfl (Nat.le_of_ble_eq_true rfl) ⟨(Nat.le_of_ble_eq_true rfl), (Nat.le_of_ble_eq_true rfl)⟩ (Nat.le_of_ble_eq_true rfl) (Nat.le_of_ble_eq_true rfl) (fun A hP => ?_)
  have hW := hW.po hP (by omega)
  have hz := (congrArg Prod.fst hP).trans hz
  have hC := hC.po 4 5 rfl rfl hP
  refine bw_aload_n 16 dX9_keepPolynomial_15 rfl rfl ?_
  refine bw_get 19 dX9_keepPolynomial_16 rfl lX9_340 (hC.at 0 rfl) rfl ?_
  refine bw_istore_n 20 dX9_keepPolynomial_19 rfl (by decide) ?_
  refine bw_aload_n 21 dX9_keepPolynomial_20 rfl rfl ?_
  refine bw_get 24 dX9_keepPolynomial_21 rfl lX9_31 (hC.at 0 rfl) rfl ?_
  refine bw_iload_n 25 dX9_keepPolynomial_24 rfl rfl ?_
  refine bw_aload_n 26 dX9_keepPolynomial_25 rfl rfl ?_
  refine bw_aastN (ci := 9) 27 dX9_keepPolynomial_26 rfl rfl rfl (hC.at 1 rfl) (hC.at 4 rfl) (by omega) (by omega) (G := _) (rfl) (fun A hU => ?_)
  have hC := hC.upd 1 rfl hU
  have hz := (congrArg Prod.fst hU).trans hz
  have hW := hW.upd hU (by omega)
  clear hU
  refine bw_aload_n 28 dX9_keepPolynomial_27 rfl rfl ?_
  refine bw_dup 29 dX9_keepPolynomial_28 rfl rfl ?_
  refine bw_get 32 dX9_keepPolynomial_29 rfl lX9_340 (hC.at 0 rfl) rfl ?_
  refine bw_iconst (1) 33 dX9_keepPolynomial_32 (by decide) rfl ?_
  refine bw_eqi (y := nI 1) rfl ?_
  refine bw_iadd 34 dX9_keepPolynomial_33 rfl ?_
  refine bw_eqi (nI_add pn 1) ?_
  refine bw_putU 37 dX9_keepPolynomial_34 rfl pX9_340 (hC.at 0 rfl) rfl rfl (Nat.le_of_ble_eq_true rfl) (fun A hU => ?_)
  have hC := hC.upd 0 rfl hU
  have hz := (congrArg Prod.fst hU).trans hz
  have hW := hW.upd hU (by omega)
  clear hU
  refine bw_iload_n 38 dX9_keepPolynomial_37 rfl rfl ?_
  refine bw_iret dX9_keepPolynomial_38 rfl (Nat.le_of_ble_eq_true rfl) (Nat.le_of_ble_eq_true rfl) ?_
  exact ⟨_, rfl, rfl, hz, hC.sub [0, 1, 4, 5] (by decide) rfl, hW⟩
