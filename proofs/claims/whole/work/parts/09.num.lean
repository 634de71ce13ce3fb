/-! ints that are small numbers -/
theorem xn_and (a b : Nat) : nI a &&& nI b = nI (a &&& b) := by
  apply Int32.toBitVec_inj.1
  show BitVec.ofNat 32 a &&& BitVec.ofNat 32 b = BitVec.ofNat 32 (a &&& b)
  apply BitVec.eq_of_getLsbD_eq
  intro i hi
  simp [hi]
theorem xn_xor (a b : Nat) : nI a ^^^ nI b = nI (a ^^^ b) := by
  apply Int32.toBitVec_inj.1
  show BitVec.ofNat 32 a ^^^ BitVec.ofNat 32 b = BitVec.ofNat 32 (a ^^^ b)
  apply BitVec.eq_of_getLsbD_eq
  intro i hi
  simp [hi]
theorem xn_or (a b : Nat) : nI a ||| nI b = nI (a ||| b) := by
  apply Int32.toBitVec_inj.1
  show BitVec.ofNat 32 a ||| BitVec.ofNat 32 b = BitVec.ofNat 32 (a ||| b)
  apply BitVec.eq_of_getLsbD_eq
  intro i hi
  simp [hi]
theorem xn_and1 (a : Nat) : nI a &&& 1 = nI (a % 2) := by
  show nI a &&& nI 1 = _
  rw [xn_and, Nat.and_one_is_mod]
theorem xn_s31 : ∀ k, k < 32 → (nI k &&& 31) = nI k := by decide +kernel
theorem xn_sm : ∀ k, k < 32 → ((nI k &&& 31).toBitVec.smod 32).toNat = k := by decide +kernel
theorem xn_su : ∀ k, k < 32 → (((nI k).toUInt32 &&& Int32.toUInt32 31).toBitVec % 32).toNat = k := by decide +kernel
theorem xn_shl {a : Nat} (k : Nat) (hk : k < 32) (h : a * 2 ^ k < 2 ^ 32) : nI a <<< (nI k &&& 31) = nI (a * 2 ^ k) := pk_shlN _ k (xn_sm k hk) h
theorem xn_shr {a : Nat} (k : Nat) (hk : k < 32) (h : a < 2 ^ 31) : nI a >>> (nI k &&& 31) = nI (a / 2 ^ k) := pk_shrN h _ k (xn_sm k hk)
theorem xn_ushr {a : Nat} (k : Nat) (hk : k < 32) (h : a < 2 ^ 32) : ((nI a).toUInt32 >>> ((nI k).toUInt32 &&& Int32.toUInt32 31)).toInt32 = nI (a / 2 ^ k) := pk_ushrN h _ k (xn_su k hk)
theorem xn_shl1 {a : Nat} (h : a < 2 ^ 30) : nI a <<< ((1 : Int32) &&& 31) = nI (2 * a) := by
  have := xn_shl (a := a) 1 (by omega) (by omega)
  rw [show a * 2 ^ 1 = 2 * a by omega] at this
  exact this
theorem xn_shr1 {a : Nat} (h : a < 2 ^ 31) : nI a >>> ((1 : Int32) &&& 31) = nI (a / 2) := by
  have := xn_shr (a := a) 1 (by omega) h
  rw [show a / 2 ^ 1 = a / 2 by omega] at this
  exact this
theorem xn_eq0 {a : Nat} (h : a < 2 ^ 31) : nI a = 0 ↔ a = 0 := by rw [← nI_0]; exact nI_eq h (by omega)
theorem xn_eq1 {a : Nat} (h : a < 2 ^ 31) : nI a = 1 ↔ a = 1 := nI_eq (b := 1) h (by omega)
theorem xn_le0 {a : Nat} (h : a < 2 ^ 31) : nI a ≤ 0 ↔ a = 0 := by
  rw [← nI_0, nI_leI h (by omega)]; omega
theorem xn_lt0 {a : Nat} (h : a < 2 ^ 31) : ¬ nI a < 0 := nI_pos h
section BWE
variable {g : bw_G} {R : Room} {k : bw_M} {Q : bw_O → bw_H → Prop} {cu su pc : Nat} {lv : List (Nat × Value)} {st : List Value} {A : bw_H}
theorem bw_eqi {x y : Int32} (h : x = y) (kk : bw_W g R k Q cu su pc lv (.int y :: st) A) : bw_W g R k Q cu su pc lv (.int x :: st) A := by rw [h]; exact kk
theorem bw_eql {x y : Int64} (h : x = y) (kk : bw_W g R k Q cu su pc lv (.long y :: st) A) : bw_W g R k Q cu su pc lv (.long x :: st) A := by rw [h]; exact kk
end BWE
/-! products of members: N is 2 to the bits, q is N and the polynomial -/
def gx (N q x : Nat) : Nat := if 2 * x < N then 2 * x else (2 * x) ^^^ q
/-- the bits of b, from the lowest on: x is a times X to as many, r the sum so far -/
def gml (N q : Nat) : Nat → Nat → Nat → Nat → Nat
  | 0, _, _, r => r
  | j + 1, b, x, r => gml N q j (b / 2) (gx N q x) (if b % 2 = 1 then r ^^^ x else r)
def gm (n q a b : Nat) : Nat := gml (2 ^ n) q n b a 0
theorem gml_0 (N q : Nat) : ∀ (j x r : Nat), gml N q j 0 x r = r
  | 0, _, _ => rfl
  | j + 1, x, r => by
    show gml N q j (0 / 2) (gx N q x) (if 0 % 2 = 1 then r ^^^ x else r) = r
    rw [Nat.zero_div]
    exact gml_0 N q j (gx N q x) r
theorem xor_lt {n a b : Nat} (ha : a < 2 ^ n) (hb : b < 2 ^ n) : a ^^^ b < 2 ^ n := Nat.xor_lt_two_pow ha hb
/-- of two numbers with the same highest bit n the xor is below it -/
theorem xor_top {n a b : Nat} (ha : 2 ^ n ≤ a) (ha2 : a < 2 ^ (n + 1)) (hb : 2 ^ n ≤ b) (hb2 : b < 2 ^ (n + 1)) : a ^^^ b < 2 ^ n := by
  apply Nat.lt_pow_two_of_testBit
  intro i hi
  rw [Nat.testBit_xor]
  rcases Nat.lt_or_ge n i with h | h
  · have h1 : a.testBit i = false := Nat.testBit_lt_two_pow (Nat.lt_of_lt_of_le ha2 (Nat.pow_le_pow_right (by omega) h))
    have h2 : b.testBit i = false := Nat.testBit_lt_two_pow (Nat.lt_of_lt_of_le hb2 (Nat.pow_le_pow_right (by omega) h))
    rw [h1, h2]; rfl
  · have : i = n := by omega
    subst this
    have top : ∀ c : Nat, 2 ^ i ≤ c → c < 2 ^ (i + 1) → c.testBit i = true := by
      intro c h1 h2
      rw [Nat.testBit_eq_decide_div_mod_eq]
      have : c / 2 ^ i = 1 := by
        rw [Nat.pow_succ] at h2
        exact Nat.div_eq_of_lt_le (by omega) (by omega)
      rw [this]; rfl
    rw [top a ha ha2, top b hb hb2]; rfl
theorem gx_lt {n q x : Nat} (hq : 2 ^ n ≤ q) (hq2 : q < 2 ^ (n + 1)) (hx : x < 2 ^ n) : gx (2 ^ n) q x < 2 ^ n := by
  unfold gx
  split
  · assumption
  · exact xor_top (by omega) (by rw [Nat.pow_succ]; omega) hq hq2
theorem gml_lt {n q : Nat} (hq : 2 ^ n ≤ q) (hq2 : q < 2 ^ (n + 1)) : ∀ (j b x r : Nat), x < 2 ^ n → r < 2 ^ n → gml (2 ^ n) q j b x r < 2 ^ n
  | 0, _, _, _, _, hr => hr
  | j + 1, b, x, r, hx, hr => by
    show gml (2 ^ n) q j (b / 2) (gx (2 ^ n) q x) (if b % 2 = 1 then r ^^^ x else r) < 2 ^ n
    refine gml_lt hq hq2 j _ _ _ (gx_lt hq hq2 hx) ?_
    split
    · exact xor_lt hr hx
    · exact hr
theorem gm_lt {n q a b : Nat} (hq : 2 ^ n ≤ q) (hq2 : q < 2 ^ (n + 1)) (ha : a < 2 ^ n) : gm n q a b < 2 ^ n := gml_lt hq hq2 n b a 0 ha (Nat.two_pow_pos n)
/-- bit n of 2x -/
theorem and_top {n x : Nat} (hx : x < 2 ^ n) : (2 * x &&& 2 ^ n = 0) ↔ 2 * x < 2 ^ n := by
  constructor
  · intro h
    refine Nat.lt_pow_two_of_testBit _ (fun i hi => ?_)
    rcases Nat.lt_or_ge n i with h1 | h1
    · exact Nat.testBit_lt_two_pow (Nat.lt_of_lt_of_le (show 2 * x < 2 ^ (n + 1) by rw [Nat.pow_succ]; omega) (Nat.pow_le_pow_right (by omega) h1))
    · have : i = n := by omega
      subst this
      have h2 : (2 * x &&& 2 ^ i).testBit i = false := by rw [h]; exact Nat.zero_testBit i
      rw [Nat.testBit_and, Nat.testBit_two_pow_self, Bool.and_true] at h2
      exact h2
  · intro h
    apply Nat.eq_of_testBit_eq
    intro i
    rw [Nat.testBit_and, Nat.zero_testBit, Nat.testBit_two_pow]
    by_cases h1 : n = i
    · subst h1
      rw [Nat.testBit_lt_two_pow h]; rfl
    · simp [h1]
