/-! members: gm is the product of a commutative ring, and where q is prime by trial, of a field -/
theorem two_xor (x y : Nat) : 2 * (x ^^^ y) = (2 * x) ^^^ (2 * y) := by
  apply Nat.eq_of_testBit_eq
  intro i
  rw [Nat.testBit_xor]
  cases i with
  | zero => simp
  | succ i => rw [Nat.testBit_succ, Nat.testBit_succ, Nat.testBit_succ, Nat.mul_div_cancel_left _ (by omega), Nat.mul_div_cancel_left _ (by omega), Nat.mul_div_cancel_left _ (by omega), Nat.testBit_xor]
theorem xor_half (x y : Nat) : (x ^^^ y) / 2 = (x / 2) ^^^ (y / 2) := by
  apply Nat.eq_of_testBit_eq
  intro i
  rw [Nat.testBit_xor, ← Nat.testBit_succ, ← Nat.testBit_succ, ← Nat.testBit_succ, Nat.testBit_xor]
theorem xor_par (x y : Nat) : (x ^^^ y) % 2 = (x % 2 + y % 2) % 2 := by
  have h := Nat.testBit_xor x y 0
  rw [Nat.testBit_zero, Nat.testBit_zero, Nat.testBit_zero] at h
  rcases Nat.mod_two_eq_zero_or_one x with h1 | h1 <;> rcases Nat.mod_two_eq_zero_or_one y with h2 | h2 <;> rcases Nat.mod_two_eq_zero_or_one (x ^^^ y) with h3 | h3 <;> simp [h1, h2, h3] at h ⊢
theorem xor_ge {n x y : Nat} (hx : 2 ^ n ≤ x) (hy : y < 2 ^ n) : 2 ^ n ≤ x ^^^ y := by
  refine Nat.le_of_not_lt (fun h => ?_)
  have h1 := xor_lt h hy
  rw [Nat.xor_assoc, Nat.xor_self, Nat.xor_zero] at h1
  omega
theorem gx_xor {n q x y : Nat} (hx : x < 2 ^ n) (hy : y < 2 ^ n) : gx (2 ^ n) q (x ^^^ y) = gx (2 ^ n) q x ^^^ gx (2 ^ n) q y := by
  unfold gx
  rw [two_xor]
  by_cases h1 : 2 * x < 2 ^ n <;> by_cases h2 : 2 * y < 2 ^ n
  · rw [if_pos h1, if_pos h2, if_pos (xor_lt h1 h2)]
  · rw [if_pos h1, if_neg h2, if_neg (Nat.not_lt.mpr (by rw [Nat.xor_comm]; exact xor_ge (Nat.not_lt.mp h2) h1)), Nat.xor_assoc]
  · rw [if_neg h1, if_pos h2, if_neg (Nat.not_lt.mpr (xor_ge (Nat.not_lt.mp h1) h2)), Nat.xor_assoc, Nat.xor_assoc, Nat.xor_comm q]
  · have h3 : 2 * x ^^^ 2 * y < 2 ^ n := xor_top (Nat.not_lt.mp h1) (by rw [Nat.pow_succ]; omega) (Nat.not_lt.mp h2) (by rw [Nat.pow_succ]; omega)
    rw [if_neg h1, if_neg h2, if_pos h3, Nat.xor_assoc (2 * x) q, ← Nat.xor_assoc q, Nat.xor_comm q (2 * y), Nat.xor_assoc (2 * y), Nat.xor_self, Nat.xor_zero]
theorem gx_0 {n q : Nat} : gx (2 ^ n) q 0 = 0 := by
  unfold gx
  rw [if_pos (Nat.two_pow_pos n)]
theorem gml_r (N q : Nat) : ∀ (j b x r : Nat), gml N q j b x r = r ^^^ gml N q j b x 0
  | 0, _, _, r => (Nat.xor_zero r).symm
  | j + 1, b, x, r => by
    show gml N q j (b / 2) (gx N q x) (if b % 2 = 1 then r ^^^ x else r) = r ^^^ gml N q j (b / 2) (gx N q x) (if b % 2 = 1 then 0 ^^^ x else 0)
    rw [gml_r N q j _ _ (if b % 2 = 1 then r ^^^ x else r), gml_r N q j _ _ (if b % 2 = 1 then 0 ^^^ x else 0)]
    split
    · rw [Nat.zero_xor, Nat.xor_assoc]
    · rw [Nat.zero_xor]
/-- the sum of the x to X to the i, i over the bits of b -/
def ph (n q j b x : Nat) : Nat := gml (2 ^ n) q j b x 0
def od (b x : Nat) : Nat := if b % 2 = 1 then x else 0
theorem ph_s (n q j b x : Nat) : ph n q (j + 1) b x = od b x ^^^ ph n q j (b / 2) (gx (2 ^ n) q x) := by
  show gml (2 ^ n) q j (b / 2) (gx (2 ^ n) q x) (if b % 2 = 1 then 0 ^^^ x else 0) = _
  rw [gml_r, Nat.zero_xor]
  rfl
theorem ph_z (n q b x : Nat) : ph n q 0 b x = 0 := rfl
theorem ph_0 (n q j x : Nat) : ph n q j 0 x = 0 := gml_0 _ _ _ _ _
theorem ph_lt {n q j b x : Nat} (hq : 2 ^ n ≤ q) (hq2 : q < 2 ^ (n + 1)) (hx : x < 2 ^ n) : ph n q j b x < 2 ^ n := gml_lt hq hq2 j b x 0 hx (Nat.two_pow_pos n)
theorem od_lt {n b x : Nat} (hx : x < 2 ^ n) : od b x < 2 ^ n := by
  unfold od
  split
  · exact hx
  · exact Nat.two_pow_pos n
theorem od_xor (b c x : Nat) : od (b ^^^ c) x = od b x ^^^ od c x := by
  unfold od
  rw [xor_par]
  rcases Nat.mod_two_eq_zero_or_one b with h | h <;> rcases Nat.mod_two_eq_zero_or_one c with h' | h' <;> simp [h, h']
theorem od_xor2 (b x y : Nat) : od b (x ^^^ y) = od b x ^^^ od b y := by
  unfold od
  split
  · rfl
  · rw [Nat.xor_self]
theorem od_0 (b : Nat) : od b 0 = 0 := by
  unfold od
  split <;> rfl
theorem od_gx {n q : Nat} (b x : Nat) : od b (gx (2 ^ n) q x) = gx (2 ^ n) q (od b x) := by
  unfold od
  split
  · rfl
  · rw [gx_0]
theorem x4 (a b c d : Nat) : (a ^^^ b) ^^^ (c ^^^ d) = (a ^^^ c) ^^^ (b ^^^ d) := by
  rw [Nat.xor_assoc, Nat.xor_assoc, ← Nat.xor_assoc b, Nat.xor_comm b c, Nat.xor_assoc c]
theorem ph_xor (n q : Nat) : ∀ (j b c x : Nat), ph n q j (b ^^^ c) x = ph n q j b x ^^^ ph n q j c x
  | 0, _, _, _ => (Nat.xor_self 0).symm
  | j + 1, b, c, x => by rw [ph_s, ph_s, ph_s, od_xor, xor_half, ph_xor n q j, x4]
section GF
variable {n q : Nat}
theorem ph_xor2 (hq : 2 ^ n ≤ q) (hq2 : q < 2 ^ (n + 1)) : ∀ (j b x y : Nat), x < 2 ^ n → y < 2 ^ n → ph n q j b (x ^^^ y) = ph n q j b x ^^^ ph n q j b y
  | 0, _, _, _, _, _ => (Nat.xor_self 0).symm
  | j + 1, b, x, y, hx, hy => by rw [ph_s, ph_s, ph_s, od_xor2, gx_xor hx hy, ph_xor2 hq hq2 j _ _ _ (gx_lt hq hq2 hx) (gx_lt hq hq2 hy), x4]
theorem ph_x0 : ∀ (j b : Nat), ph n q j b 0 = 0
  | 0, _ => rfl
  | j + 1, b => by rw [ph_s, od_0, gx_0, ph_x0 j, Nat.xor_zero]
theorem ph_gx (hq : 2 ^ n ≤ q) (hq2 : q < 2 ^ (n + 1)) : ∀ (j b x : Nat), x < 2 ^ n → ph n q j b (gx (2 ^ n) q x) = gx (2 ^ n) q (ph n q j b x)
  | 0, _, _, _ => gx_0.symm
  | j + 1, b, x, hx => by rw [ph_s, ph_s, od_gx, ph_gx hq hq2 j _ _ (gx_lt hq hq2 hx), gx_xor (od_lt hx) (ph_lt hq hq2 (gx_lt hq hq2 hx))]
theorem ph_fuel : ∀ (i j b x : Nat), b < 2 ^ j → ph n q (j + i) b x = ph n q j b x := by
  intro i j
  induction j with
  | zero =>
    intro b x hb
    have hb : b = 0 := by simpa using hb
    subst hb
    rw [ph_0, ph_0]
  | succ j ih =>
    intro b x hb
    rw [show j + 1 + i = (j + i) + 1 by omega, ph_s, ph_s, ih _ _ (by rw [Nat.pow_succ] at hb; omega)]
theorem xor_add {k a b : Nat} (ha : a < 2 ^ k) : a ^^^ (b * 2 ^ k) = b * 2 ^ k + a := by
  apply Nat.eq_of_testBit_eq
  intro i
  rw [Nat.testBit_xor, Nat.mul_comm b, Nat.testBit_two_pow_mul_add b ha, Nat.testBit_two_pow_mul]
  by_cases h : i < k
  · have : ¬ i ≥ k := by omega
    simp [h, this]
  · have h1 : a.testBit i = false := Nat.testBit_lt_two_pow (Nat.lt_of_lt_of_le ha (Nat.pow_le_pow_right (by omega) (by omega)))
    have h2 : i ≥ k := by omega
    simp [h, h1, h2]
theorem ph_pow : ∀ (j i b : Nat), b < 2 ^ j → i + j ≤ n → ph n q j b (2 ^ i) = b * 2 ^ i
  | 0, i, b, hb, _ => by
    have hb : b = 0 := by simpa using hb
    subst hb
    rw [Nat.zero_mul]; rfl
  | j + 1, i, b, hb, hi => by
    have hb2 : b / 2 < 2 ^ j := by rw [Nat.pow_succ] at hb; omega
    rw [ph_s]
    have hrest : ph n q j (b / 2) (gx (2 ^ n) q (2 ^ i)) = b / 2 * 2 ^ (i + 1) := by
      cases j with
      | zero =>
        have h0 : b / 2 = 0 := by simpa using hb2
        rw [h0, Nat.zero_mul]; rfl
      | succ j =>
        have hg : gx (2 ^ n) q (2 ^ i) = 2 ^ (i + 1) := by
          unfold gx
          rw [show 2 * 2 ^ i = 2 ^ (i + 1) by rw [Nat.pow_succ]; omega, if_pos (Nat.pow_lt_pow_right (by omega) (by omega))]
        rw [hg]
        exact ph_pow (j + 1) (i + 1) (b / 2) hb2 (by omega)
    rw [hrest]
    unfold od
    split
    · rename_i h
      rw [xor_add (Nat.pow_lt_pow_right (by omega) (by omega)), Nat.pow_succ]
      have : b = 2 * (b / 2) + 1 := by omega
      generalize b / 2 = c at this
      subst this
      rw [Nat.add_mul, Nat.one_mul, Nat.mul_comm 2 c, Nat.mul_assoc, Nat.mul_comm 2 (2 ^ i)]
    · rename_i h
      rw [Nat.zero_xor, Nat.pow_succ]
      have : b = 2 * (b / 2) := by omega
      generalize b / 2 = c at this
      subst this
      rw [Nat.mul_comm 2 c, Nat.mul_assoc, Nat.mul_comm 2 (2 ^ i)]
theorem gm_ph (a b : Nat) : gm n q a b = ph n q n b a := rfl
theorem gm_1 {a : Nat} (ha : a < 2 ^ n) : gm n q 1 a = a := by
  have := ph_pow (n := n) (q := q) n 0 a ha (by omega)
  rw [Nat.pow_zero, Nat.mul_one] at this
  exact this
theorem gm_0 (b : Nat) : gm n q 0 b = 0 := ph_x0 n b
theorem gm_b0 (a : Nat) : gm n q a 0 = 0 := ph_0 n q n a
theorem gm_x (a b c : Nat) : gm n q a (b ^^^ c) = gm n q a b ^^^ gm n q a c := ph_xor n q n b c a
theorem gm_x2 (hq : 2 ^ n ≤ q) (hq2 : q < 2 ^ (n + 1)) {a b : Nat} (c : Nat) (ha : a < 2 ^ n) (hb : b < 2 ^ n) : gm n q (a ^^^ b) c = gm n q a c ^^^ gm n q b c := ph_xor2 hq hq2 n c a b ha hb
theorem gm_comm (hq : 2 ^ n ≤ q) (hq2 : q < 2 ^ (n + 1)) {a b : Nat} (ha : a < 2 ^ n) (hb : b < 2 ^ n) : gm n q a b = gm n q b a := by
  have key : ∀ (j : Nat), j ≤ n → ∀ (b : Nat), b < 2 ^ j → ∀ (a : Nat), a < 2 ^ n → ph n q n b a = ph n q n a b := by
    intro j
    induction j with
    | zero =>
      intro _ b hb a _
      have hb : b = 0 := by simpa using hb
      subst hb
      rw [ph_0, ph_x0]
    | succ j ih =>
      intro hj b hb a ha
      have hc : b / 2 < 2 ^ j := by rw [Nat.pow_succ] at hb; omega
      have hjn : 2 ^ (j + 1) ≤ 2 ^ n := Nat.pow_le_pow_right (by omega) hj
      have hcn : b / 2 < 2 ^ n := by omega
      obtain ⟨m, hm⟩ : ∃ m, n = m + 1 := ⟨n - 1, by omega⟩
      have h1 : ph n q n b a = od b a ^^^ gx (2 ^ n) q (ph n q n a (b / 2)) := by
        have hs : ph n q n b a = ph n q (m + 1) b a := by rw [← hm]
        rw [hs, ph_s, ← ih (by omega) _ hc a ha, ← ph_gx hq hq2 n _ _ ha]
        have hf := ph_fuel (n := n) (q := q) 1 m (b / 2) (gx (2 ^ n) q a) (Nat.lt_of_lt_of_le hc (Nat.pow_le_pow_right (by omega) (by omega)))
        rw [← hm] at hf
        rw [hf]
      have h2 : b = (2 * (b / 2)) ^^^ (b % 2) := by
        have := xor_add (k := 1) (a := b % 2) (b := b / 2) (by omega)
        rw [Nat.pow_one] at this
        rw [Nat.xor_comm, Nat.mul_comm 2, this]
        omega
      have h3 : gx (2 ^ n) q (b / 2) = 2 * (b / 2) := if_pos (by omega)
      have hb1 : b % 2 < 2 ^ n := by
        have : 2 ^ 1 ≤ 2 ^ n := Nat.pow_le_pow_right (by omega) (by omega)
        omega
      rw [h1]
      have h4 : ph n q n a b = ph n q n a (2 * (b / 2)) ^^^ ph n q n a (b % 2) := by
        have := ph_xor2 hq hq2 n a (2 * (b / 2)) (b % 2) (by omega) hb1
        rw [← h2] at this
        exact this
      rw [h4, ← h3, ph_gx hq hq2 n _ _ hcn, Nat.xor_comm]
      congr 1
      unfold od
      rcases Nat.mod_two_eq_zero_or_one b with h | h
      · rw [h, if_neg (by decide), ph_x0]
      · rw [h, if_pos rfl]
        exact (gm_1 ha).symm
  rw [gm_ph, gm_ph]
  exact key n (Nat.le_refl n) b hb a ha
theorem gm_gx (hq : 2 ^ n ≤ q) (hq2 : q < 2 ^ (n + 1)) {a b : Nat} (ha : a < 2 ^ n) (hb : b < 2 ^ n) : gx (2 ^ n) q (gm n q a b) = gm n q a (gx (2 ^ n) q b) := by
  rw [gm_comm hq hq2 ha hb, gm_comm hq hq2 ha (gx_lt hq hq2 hb)]
  exact (ph_gx hq hq2 n a b hb).symm
theorem gm_assoc (hq : 2 ^ n ≤ q) (hq2 : q < 2 ^ (n + 1)) {a b c : Nat} (ha : a < 2 ^ n) (hb : b < 2 ^ n) : gm n q (gm n q a b) c = gm n q a (gm n q b c) := by
  have key : ∀ (j c b : Nat), b < 2 ^ n → ph n q j c (gm n q a b) = gm n q a (ph n q j c b) := by
    intro j
    induction j with
    | zero =>
      intro c b hb
      rw [ph_z, ph_z, gm_b0]
    | succ j ih =>
      intro c b hb
      rw [ph_s, ph_s, gm_gx hq hq2 ha hb, ih _ _ (gx_lt hq hq2 hb), gm_x]
      congr 1
      unfold od
      split
      · rfl
      · rw [gm_b0]
  exact key n c b hb
/-! zero has no divisors where q is prime by trial -/
theorem ph_two (hq : 2 ^ n ≤ q) (hq2 : q < 2 ^ (n + 1)) (j b a : Nat) (ha : a < 2 ^ n) : ph n q (j + 1) (2 * b) a = gx (2 ^ n) q (ph n q j b a) := by
  rw [ph_s, Nat.mul_div_cancel_left b (by omega), ph_gx hq hq2 j b a ha]
  unfold od
  rw [if_neg (by omega), Nat.zero_xor]
def gxi (n q : Nat) : Nat → Nat → Nat
  | 0, x => x
  | m + 1, x => gx (2 ^ n) q (gxi n q m x)
theorem gxi_0 : ∀ m : Nat, gxi n q m 0 = 0
  | 0 => rfl
  | m + 1 => by
    show gx (2 ^ n) q (gxi n q m 0) = 0
    rw [gxi_0 m, gx_0]
theorem ph_shift (hq : 2 ^ n ≤ q) (hq2 : q < 2 ^ (n + 1)) (a : Nat) (ha : a < 2 ^ n) : ∀ (m j b : Nat), ph n q (j + m) (b * 2 ^ m) a = gxi n q m (ph n q j b a)
  | 0, j, b => by rw [Nat.pow_zero, Nat.mul_one]; rfl
  | m + 1, j, b => by
    rw [show b * 2 ^ (m + 1) = 2 * (b * 2 ^ m) by rw [Nat.pow_succ, ← Nat.mul_assoc, Nat.mul_comm]]
    show ph n q (j + m + 1) _ a = gx (2 ^ n) q (gxi n q m (ph n q j b a))
    rw [ph_two hq hq2 _ _ _ ha, ph_shift hq hq2 a ha m j b]
/-- the value of q itself is 0 -/
theorem ph_q (hn : 1 ≤ n) (hq : 2 ^ n ≤ q) (hq2 : q < 2 ^ (n + 1)) {a : Nat} (ha : a < 2 ^ n) : ph n q (n + 1) q a = 0 := by
  have h1 : ph n q (n + 1) q 1 = 0 := by
    have hp : q = (q - 2 ^ n) ^^^ (1 * 2 ^ n) := by
      have := xor_add (k := n) (a := q - 2 ^ n) (b := 1) (by rw [Nat.pow_succ] at hq2; omega)
      rw [this]; omega
    have hpl : q - 2 ^ n < 2 ^ n := by rw [Nat.pow_succ] at hq2; omega
    have h1n : 1 < 2 ^ n := by
      have : 2 ^ 1 ≤ 2 ^ n := Nat.pow_le_pow_right (by omega) hn
      omega
    have h2 : ph n q (n + 1) (q - 2 ^ n) 1 = q - 2 ^ n := by
      rw [ph_fuel 1 n _ _ hpl]
      exact gm_1 hpl
    have h3 : ph n q (1 + n) (1 * 2 ^ n) 1 = gxi n q n (ph n q 1 1 1) := ph_shift hq hq2 1 h1n n 1 1
    have h4 : ph n q 1 1 1 = 1 := rfl
    have h5 : ∀ m, m < n → gxi n q m 1 = 2 ^ m := by
      intro m
      induction m with
      | zero => intro _; rfl
      | succ m ih =>
        intro hm
        show gx (2 ^ n) q (gxi n q m 1) = _
        rw [ih (by omega)]
        unfold gx
        rw [show 2 * 2 ^ m = 2 ^ (m + 1) by rw [Nat.pow_succ]; omega, if_pos (Nat.pow_lt_pow_right (by omega) hm)]
    have h6 : gxi n q n 1 = q - 2 ^ n := by
      obtain ⟨m, hm⟩ : ∃ m, n = m + 1 := ⟨n - 1, by omega⟩
      have : gxi n q (m + 1) 1 = gx (2 ^ n) q (gxi n q m 1) := rfl
      rw [← hm, h5 m (by omega)] at this
      rw [this]
      unfold gx
      have h7 : 2 * 2 ^ m = 2 ^ n := by rw [hm, Nat.pow_succ]; omega
      rw [h7, if_neg (by omega)]
      have h8 : (2 ^ n) ^^^ q = (2 ^ n) ^^^ ((q - 2 ^ n) ^^^ (1 * 2 ^ n)) := congrArg (fun z => 2 ^ n ^^^ z) hp
      rw [h8, Nat.one_mul, Nat.xor_comm (q - 2 ^ n), ← Nat.xor_assoc, Nat.xor_self, Nat.zero_xor]
    have h9 : ph n q (n + 1) q 1 = ph n q (n + 1) (q - 2 ^ n) 1 ^^^ ph n q (n + 1) (1 * 2 ^ n) 1 := by
      have := ph_xor n q (n + 1) (q - 2 ^ n) (1 * 2 ^ n) 1
      rw [← hp] at this
      exact this
    rw [h9, h2, show n + 1 = 1 + n by omega, h3, h4, h6, Nat.xor_self]
  -- a is a sum of gx to the i of 1
  have key : ∀ (j b x : Nat), x < 2 ^ n → ph n q (n + 1) q x = 0 → ph n q (n + 1) q (ph n q j b x) = 0 := by
    intro j
    induction j with
    | zero => intro b x _ _; exact ph_x0 _ _
    | succ j ih =>
      intro b x hx h0
      rw [ph_s n q j b x, ph_xor2 hq hq2 _ _ _ _ (od_lt hx) (ph_lt hq hq2 (gx_lt hq hq2 hx)), ih _ _ (gx_lt hq hq2 hx) (by rw [ph_gx hq hq2 _ _ _ hx, h0, gx_0]), Nat.xor_zero]
      unfold od
      split
      · exact h0
      · exact ph_x0 _ _
  have h1n : 1 < 2 ^ n := by
    have : 2 ^ 1 ≤ 2 ^ n := Nat.pow_le_pow_right (by omega) hn
    omega
  have := key n a 1 h1n h1
  have h2 : ph n q n a 1 = a := gm_1 ha
  rw [h2] at this
  exact this
theorem top_div {k x : Nat} (h : x < 2 ^ (k + 1)) : (x / 2 ^ k % 2 = 1) ↔ 2 ^ k ≤ x := by
  have hp := Nat.two_pow_pos k
  constructor
  · intro h1
    refine Nat.le_of_not_lt (fun h2 => ?_)
    rw [Nat.div_eq_of_lt h2] at h1
    omega
  · intro h1
    rw [Nat.pow_succ] at h
    have : x / 2 ^ k = 1 := Nat.div_eq_of_lt_le (by omega) (by omega)
    rw [this]
theorem brs_low {d deep : Nat} (hd : 2 ^ deep ≤ d) (hd2 : d < 2 ^ (deep + 1)) : ∀ (m r : Nat), r < 2 ^ (deep + m) → brs d deep m r < 2 ^ deep
  | 0, r, h => h
  | m + 1, r, h => by
    show brs d deep m (if r / 2 ^ (deep + m) % 2 = 1 then r ^^^ (d * 2 ^ m) else r) < 2 ^ deep
    refine brs_low hd hd2 m _ ?_
    have h' : r < 2 ^ (deep + m + 1) := h
    split
    · rename_i h1
      refine xor_top ((top_div h').mp h1) h' ?_ ?_
      · rw [Nat.pow_add]; exact Nat.mul_le_mul_right _ hd
      · rw [show deep + m + 1 = deep + 1 + m by omega, Nat.pow_add]
        exact Nat.mul_lt_mul_of_pos_right hd2 (Nat.two_pow_pos m)
    · rename_i h1
      exact Nat.not_le.mp (fun h2 => h1 ((top_div h').mpr h2))
theorem brs_ph (hq : 2 ^ n ≤ q) (hq2 : q < 2 ^ (n + 1)) {a d deep J : Nat} (ha : a < 2 ^ n) (h0 : ph n q J d a = 0) (hdJ : d < 2 ^ J) : ∀ (m r K : Nat), J + m ≤ K → ph n q K (brs d deep m r) a = ph n q K r a
  | 0, _, _, _ => rfl
  | m + 1, r, K, hK => by
    show ph n q K (brs d deep m (if r / 2 ^ (deep + m) % 2 = 1 then r ^^^ (d * 2 ^ m) else r)) a = _
    rw [brs_ph hq hq2 ha h0 hdJ m _ K (by omega)]
    split
    · rw [ph_xor]
      have h1 : ph n q (J + m) (d * 2 ^ m) a = 0 := by rw [ph_shift hq hq2 a ha m J d, h0, gxi_0]
      have h2 := ph_fuel (n := n) (q := q) (K - (J + m)) (J + m) (d * 2 ^ m) a (by rw [Nat.pow_add]; exact Nat.mul_lt_mul_of_pos_right hdJ (Nat.two_pow_pos m))
      rw [show J + m + (K - (J + m)) = K by omega, h1] at h2
      rw [h2, Nat.xor_zero]
    · rfl
/-- q by d: a quotient -/
theorem brs_quo (hq : 2 ^ n ≤ q) (hq2 : q < 2 ^ (n + 1)) (hn : 1 ≤ n) {d deep : Nat} (hd : d < 2 ^ n) (hd1 : d < 2 ^ (deep + 1)) : ∀ (m r : Nat), ∃ s, s < 2 ^ m ∧ (∀ m', m = m' + 1 → r / 2 ^ (deep + m') % 2 = 1 → s ≠ 0) ∧ ∀ K, deep + 1 + m ≤ K → n ≤ K → ph n q K r 1 = ph n q m s d ^^^ ph n q K (brs d deep m r) 1
  | 0, r => ⟨0, by simp, fun m' h => by omega, fun K _ _ => by rw [ph_z, Nat.zero_xor]; rfl⟩
  | m + 1, r => by
    have h1n : 1 < 2 ^ n := by
      have : 2 ^ 1 ≤ 2 ^ n := Nat.pow_le_pow_right (by omega) hn
      omega
    by_cases h : r / 2 ^ (deep + m) % 2 = 1
    · obtain ⟨s, hs, -, hk⟩ := brs_quo hq hq2 hn hd hd1 m (r ^^^ (d * 2 ^ m))
      refine ⟨s ^^^ (1 * 2 ^ m), ?_, fun m' _ _ => ?_, fun K h1 h2 => ?_⟩
      · rw [xor_add hs, Nat.pow_succ]; omega
      · rw [xor_add hs]
        have := Nat.two_pow_pos m
        omega
      · have hb : brs d deep (m + 1) r = brs d deep m (r ^^^ (d * 2 ^ m)) := by
          show brs d deep m (if r / 2 ^ (deep + m) % 2 = 1 then r ^^^ (d * 2 ^ m) else r) = _
          rw [if_pos h]
        have h3 := hk K (by omega) h2
        rw [ph_xor] at h3
        have h4 : ph n q K (d * 2 ^ m) 1 = gxi n q m d := by
          have h5 := ph_shift hq hq2 1 h1n m (deep + 1) d
          have h6 := ph_fuel (n := n) (q := q) (K - (deep + 1 + m)) (deep + 1 + m) (d * 2 ^ m) 1 (by rw [Nat.pow_add]; exact Nat.mul_lt_mul_of_pos_right hd1 (Nat.two_pow_pos m))
          rw [show deep + 1 + m + (K - (deep + 1 + m)) = K by omega, h5] at h6
          rw [h6]
          congr 1
          have h7 : ph n q n d 1 = d := gm_1 hd
          rcases Nat.le_total n (deep + 1) with h8 | h8
          · have := ph_fuel (n := n) (q := q) (deep + 1 - n) n d 1 hd
            rw [show n + (deep + 1 - n) = deep + 1 by omega, h7] at this
            exact this
          · have := ph_fuel (n := n) (q := q) (n - (deep + 1)) (deep + 1) d 1 hd1
            rw [show deep + 1 + (n - (deep + 1)) = n by omega, h7] at this
            exact this.symm
        have h8 : ph n q (m + 1) (s ^^^ (1 * 2 ^ m)) d = ph n q m s d ^^^ gxi n q m d := by
          rw [ph_xor, ph_fuel 1 m s d hs, show m + 1 = 1 + m by omega, ph_shift hq hq2 d hd m 1 1]
          have : ph n q 1 1 d = d := by
            rw [show ph n q 1 1 d = od 1 d ^^^ ph n q 0 (1 / 2) (gx (2 ^ n) q d) from ph_s n q 0 1 d, ph_z, Nat.xor_zero]
            rfl
          rw [this]
        rw [hb, h8, Nat.xor_assoc, Nat.xor_comm (gxi n q m d), ← Nat.xor_assoc, ← h3, h4, Nat.xor_assoc, Nat.xor_self, Nat.xor_zero]
    · obtain ⟨s, hs, -, hk⟩ := brs_quo hq hq2 hn hd hd1 m r
      refine ⟨s, by rw [Nat.pow_succ]; omega, fun m' hm' h3 => absurd (by rw [show m = m' by omega]; exact h3) h, fun K h1 h2 => ?_⟩
      have hb : brs d deep (m + 1) r = brs d deep m r := by
        show brs d deep m (if r / 2 ^ (deep + m) % 2 = 1 then r ^^^ (d * 2 ^ m) else r) = _
        rw [if_neg h]
      rw [hb, ph_fuel 1 m s d hs]
      exact hk K (by omega) h2
/-- WHERE q IS PRIME BY TRIAL A PRODUCT OF MEMBERS THAT ARE NOT 0 IS NOT 0 -/
theorem gm_ne0 (hn : 2 ≤ n) (hn16 : n ≤ 16) (hq : 2 ^ n ≤ q) (hq2 : q < 2 ^ (n + 1)) (hpr : bpr q (n / 2 + 1)) {a b : Nat} (ha : a < 2 ^ n) (hb : b < 2 ^ n) (ha0 : a ≠ 0) (hb0 : b ≠ 0) : gm n q a b ≠ 0 := by
  have h17 : 2 ^ (n + 1) ≤ 2 ^ 17 := Nat.pow_le_pow_right (by omega) (by omega)
  have hpn := Nat.two_pow_pos n
  have h1n : 1 < 2 ^ n := by
    have : 2 ^ 1 ≤ 2 ^ n := Nat.pow_le_pow_right (by omega) (by omega)
    omega
  -- the least annihilator of x divides q
  have least : ∀ x, x < 2 ^ n → x ≠ 0 → (∃ y, y < 2 ^ n ∧ y ≠ 0 ∧ gm n q x y = 0) → ∃ d, 2 ≤ d ∧ d < 2 ^ n ∧ gm n q x d = 0 ∧ brest q d = 0 ∧ ∀ y, y < 2 ^ n → y ≠ 0 → gm n q x y = 0 → d ≤ y := by
    intro x hx hx0 hex
    obtain ⟨d, ⟨hd1, hd0, hdz⟩, hmin⟩ := pk_least (fun y => y < 2 ^ n ∧ y ≠ 0 ∧ gm n q x y = 0) hex
    have hd2 : 2 ≤ d := by
      rcases (show d = 1 ∨ 2 ≤ d by omega) with h | h
      · exfalso
        rw [h, gm_comm hq hq2 hx h1n, gm_1 hx] at hdz
        exact hx0 hdz
      · exact h
    refine ⟨d, hd2, hd1, hdz, ?_, fun y h1 h2 h3 => Nat.le_of_not_lt (fun h => hmin y h ⟨h1, h2, h3⟩)⟩
    have hl1 : 2 ^ Nat.log2 d ≤ d := Nat.log2_self_le (by omega)
    have hl2 : d < 2 ^ (Nat.log2 d + 1) := Nat.lt_log2_self
    have hln : Nat.log2 d < n := (Nat.log2_lt (by omega)).mpr hd1
    have hlow : brest q d < 2 ^ Nat.log2 d := brs_low hl1 hl2 (17 - Nat.log2 d) q (by rw [show Nat.log2 d + (17 - Nat.log2 d) = 17 by omega]; omega)
    have hz : gm n q x (brest q d) = 0 := by
      have h1 := brs_ph hq hq2 (deep := Nat.log2 d) hx (J := n) hdz hd1 (17 - Nat.log2 d) q (n + 1 + 17) (by omega)
      have h2 : ph n q (n + 1 + 17) q x = 0 := by rw [ph_fuel 17 (n + 1) q x hq2]; exact ph_q (by omega) hq hq2 hx
      rw [h2] at h1
      have h3 := ph_fuel (n := n) (q := q) 18 n (brest q d) x (by omega)
      rw [show n + 18 = n + 1 + 17 by omega] at h3
      rw [gm_ph, ← h3]
      exact h1
    refine Classical.byContradiction (fun h0 => ?_)
    exact hmin (brest q d) (by omega) ⟨by omega, h0, hz⟩
  intro hz
  obtain ⟨d, hd2, hdn, hdz, hdr, -⟩ := least a ha ha0 ⟨b, hb, hb0, hz⟩
  have hl1 : 2 ^ Nat.log2 d ≤ d := Nat.log2_self_le (by omega)
  have hl2 : d < 2 ^ (Nat.log2 d + 1) := Nat.lt_log2_self
  have hln : Nat.log2 d < n := (Nat.log2_lt (by omega)).mpr hdn
  rcases Nat.lt_or_ge d (2 ^ (n / 2 + 1)) with h | h
  · exact hpr d hd2 h hdr
  · -- its cofactor is small
    have hlh : n / 2 + 1 ≤ Nat.log2 d := (Nat.le_log2 (by omega)).mpr h
    obtain ⟨s, hs, hs9, hk⟩ := brs_quo hq hq2 (by omega) hdn hl2 (n + 1 - Nat.log2 d) q
    have hbr : brs d (Nat.log2 d) (n + 1 - Nat.log2 d) q = 0 := by
      have := brs_skip (d := d) (deep := Nat.log2 d) (16 - n) (n + 1 - Nat.log2 d) q (by rw [show Nat.log2 d + (n + 1 - Nat.log2 d) = n + 1 by omega]; exact hq2)
      rw [show n + 1 - Nat.log2 d + (16 - n) = 17 - Nat.log2 d by omega] at this
      rw [← this]
      exact hdr
    have h1 := hk (n + 2) (by omega) (by omega)
    rw [hbr, ph_0, Nat.xor_zero] at h1
    have h2 : ph n q (n + 2) q 1 = 0 := by
      rw [show n + 2 = n + 1 + 1 by omega, ph_fuel 1 (n + 1) q 1 hq2]
      exact ph_q (by omega) hq hq2 h1n
    rw [h2] at h1
    have hsn : s < 2 ^ n := Nat.lt_of_lt_of_le hs (Nat.pow_le_pow_right (by omega) (by omega))
    have hgs : gm n q d s = 0 := by
      have := ph_fuel (n := n) (q := q) (Nat.log2 d - 1) (n + 1 - Nat.log2 d) s d hs
      rw [show n + 1 - Nat.log2 d + (Nat.log2 d - 1) = n by omega] at this
      rw [gm_ph, this]
      exact h1.symm
    have hs0 : s ≠ 0 := hs9 (n - Nat.log2 d) (by omega) (by rw [show Nat.log2 d + (n - Nat.log2 d) = n by omega]; exact (top_div hq2).mpr hq)
    obtain ⟨d', hd2', hdn', hdz', hdr', hmin'⟩ := least d hdn (by omega) ⟨s, hsn, hs0, hgs⟩
    have hds : d' ≤ s := hmin' s hsn hs0 hgs
    refine hpr d' hd2' ?_ hdr'
    have : 2 ^ (n + 1 - Nat.log2 d) ≤ 2 ^ (n / 2 + 1) := Nat.pow_le_pow_right (by omega) (by omega)
    omega
end GF
