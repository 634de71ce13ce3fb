/-! all minors that are 0 -/
def zcb (f : Nat → Nat) (cnt : Nat) : Nat → Nat
  | 0 => 0
  | b + 1 => zcb f cnt b + (if 1 ≤ b ∧ gbc 8 b = cnt ∧ f b = 0 then 1 else 0)
def zcr {n q : Nat} (hG : GFp n q) (A : Nat → Nat → Nat) (c : Nat) : Nat → Nat
  | 0 => 0
  | k + 1 => if k = 0 then 0 else zcr hG A c k + zcb (mnv hG A c k) (gbc 8 k) (2 ^ c)
theorem gtz_lo : ∀ k, k < 256 → k ≠ 0 → (gtz 8 k < 8 ∧ k.testBit (gtz 8 k) = true ∧ (k ^^^ 2 ^ gtz 8 k) + 2 ^ gtz 8 k = k ∧ ∀ s, s < 2 ^ gtz 8 k → 0 < s → gbc 8 k ≤ gbc 8 ((k ^^^ 2 ^ gtz 8 k) + s)) := by decide +kernel
theorem gbc_z : ∀ k, k < 256 → gbc 8 k = 0 → k = 0 := by decide +kernel
theorem gxp_mns {n q : Nat} {m : Nat → Nat} {c row : Nat} {V V' : Nat → Nat} {ch : Nat} : ∀ j, (∀ i, i < j → ch.testBit i = true → V (ch ^^^ 2 ^ i) = V' (ch ^^^ 2 ^ i)) → gxp n q m c row V ch j = mns n q (fun i => m (row * c + i)) V' ch j
  | 0, _ => rfl
  | j + 1, h => by
    show (if ch / 2 ^ j % 2 = 0 then gxp n q m c row V ch j else gxp n q m c row V ch j ^^^ gm n q (m (row * c + j)) (V (ch ^^^ 2 ^ j))) = if ch.testBit j = true then _ else _
    rw [gxp_mns j (fun i hi => h i (by omega))]
    have e := Nat.testBit_eq_decide_div_mod_eq (x := ch) (i := j)
    by_cases hb : ch.testBit j = true
    · rw [if_pos hb, if_neg (by
        rw [hb] at e
        have := of_decide_eq_true e.symm
        omega), h j (by omega) hb]
    · rw [if_neg hb, if_pos (by
        rw [Bool.eq_false_iff.2 hb] at e
        have := of_decide_eq_false e.symm
        omega)]
/-- what stands in the arrays once the choices below k are done -/
def czI {n q : Nat} (hG : GFp n q) (A : Nat → Nat → Nat) (c k : Nat) (V : Nat → Nat → Nat) : Prop := V 0 0 = 1 ∧ ∀ k0, 1 ≤ k0 → k0 < k → (∀ k1, k0 < k1 → k1 < k → gbc 8 k1 ≠ gbc 8 k0) → ∀ b, b < 2 ^ c → gbc 8 b = gbc 8 k0 → V (gbc 8 k0) b = mnv hG A c k0 b
theorem czI_x {n q : Nat} (hG : GFp n q) {m : Nat → Nat} (hm : ∀ i, m i < 2 ^ n) {c k : Nat} (hc : c ≤ 8) (hk : k < 256) (hk0 : k ≠ 0) {V : Nat → Nat → Nat} (H : czI hG (fun i j => m (i * c + j)) c k V) {b : Nat} (hb : b < 2 ^ c) (he : gbc 8 b = gbc 8 k) : gxp n q m c (gtz 8 k) (V (gbc 8 k - 1)) b c = mnv hG (fun i j => m (i * c + j)) c k b := by
  obtain ⟨t1, t2, t3, t4⟩ := gtz_lo k hk hk0
  have hc8 : 2 ^ c ≤ 2 ^ 8 := Nat.pow_le_pow_right (by omega) hc
  have hg := gbc_x k hk _ t1 t2
  have hp := Nat.two_pow_pos (gtz 8 k)
  rw [mnv_st hG (fun a b => hm _) hk t1 t2 b]
  refine gxp_mns c (fun j hj hbj => ?_)
  have hgb := gbc_x b (by omega) j (by omega) hbj
  have hlt : b ^^^ 2 ^ j < 2 ^ c := Nat.xor_lt_two_pow hb (Nat.pow_lt_pow_right (by omega) hj)
  by_cases h1 : gbc 8 k = 1
  · have e1 : k ^^^ 2 ^ gtz 8 k = 0 := gbc_z _ (by omega) (by omega)
    have e2 : b ^^^ 2 ^ j = 0 := gbc_z _ (by omega) (by omega)
    rw [e1, e2, h1, mnv_0, if_pos rfl]
    exact H.1
  · have e1 : gbc 8 k - 1 = gbc 8 (k ^^^ 2 ^ gtz 8 k) := by omega
    rw [e1]
    refine H.2 _ ?_ (by omega) (fun k1 h2 h3 e => ?_) _ hlt (by omega)
    · apply Nat.pos_of_ne_zero
      intro e0
      rw [e0] at hg
      have : gbc 8 0 = 0 := by decide
      omega
    · have := t4 (k1 - (k ^^^ 2 ^ gtz 8 k)) (by omega) (by omega)
      rw [show (k ^^^ 2 ^ gtz 8 k) + (k1 - (k ^^^ 2 ^ gtz 8 k)) = k1 by omega] at this
      omega
theorem garZ_zcb {n q : Nat} {m : Nat → Nat} {c row cnt : Nat} {V : Nat → Nat → Nat} {f : Nat → Nat} : ∀ k, (∀ b, b < k → gbc 8 b = cnt → gxp n q m c row (V (cnt - 1)) b c = f b) → garZ n q m c row cnt V k = zcb f cnt k
  | 0, _ => rfl
  | k + 1, h => by
    show garZ n q m c row cnt V k + _ = zcb f cnt k + _
    rw [garZ_zcb k (fun b hb => h b (by omega))]
    congr 1
    by_cases e : gbc 8 k = cnt
    · rw [h k (by omega) e]
    · rw [if_neg (fun x => e x.2.1), if_neg (fun x => e x.2.1)]
theorem czI_s {n q : Nat} (hG : GFp n q) {m : Nat → Nat} (hm : ∀ i, m i < 2 ^ n) {c : Nat} (hc : c ≤ 8) {V : Nat → Nat → Nat} (h0 : V 0 0 = 1) : ∀ k, k ≤ 256 → czI hG (fun i j => m (i * c + j)) c k (gczV n q m c V k) ∧ gczZ n q m c V k = zcr hG (fun i j => m (i * c + j)) c k
  | 0, _ => ⟨⟨h0, fun k0 _ h => absurd h (by omega)⟩, rfl⟩
  | k + 1, hk => by
    obtain ⟨H, hz⟩ := czI_s hG hm hc h0 k (by omega)
    by_cases e0 : k = 0
    · have e1 : gczV n q m c V (k + 1) = V := if_pos e0
      have e2 : gczZ n q m c V (k + 1) = 0 := if_pos e0
      have e3 : zcr hG (fun i j => m (i * c + j)) c (k + 1) = 0 := if_pos e0
      rw [e1, e2, e3]
      exact ⟨⟨h0, fun k0 h1 h => absurd h (by omega)⟩, rfl⟩
    · have e1 : gczV n q m c V (k + 1) = garV n q m c (gtz 8 k) (gbc 8 k) (gczV n q m c V k) (2 ^ c) := if_neg e0
      have e2 : gczZ n q m c V (k + 1) = gczZ n q m c V k + garZ n q m c (gtz 8 k) (gbc 8 k) (gczV n q m c V k) (2 ^ c) := if_neg e0
      have e3 : zcr hG (fun i j => m (i * c + j)) c (k + 1) = zcr hG (fun i j => m (i * c + j)) c k + zcb (mnv hG (fun i j => m (i * c + j)) c k) (gbc 8 k) (2 ^ c) := if_neg e0
      have hx : ∀ b, b < 2 ^ c → gbc 8 b = gbc 8 k → gxp n q m c (gtz 8 k) (gczV n q m c V k (gbc 8 k - 1)) b c = mnv hG (fun i j => m (i * c + j)) c k b := fun b hb he => czI_x hG hm hc (by omega) e0 H hb he
      have hpos : gbc 8 k ≠ 0 := fun x => e0 (gbc_z k (by omega) x)
      have hc8 : 2 ^ c ≤ 2 ^ 8 := Nat.pow_le_pow_right (by omega) hc
      rw [e1, e2, e3, hz, garZ_zcb (2 ^ c) hx]
      refine ⟨⟨?_, fun k0 h1 h2 h3 b hb he => ?_⟩, rfl⟩
      · unfold garV
        rw [if_neg (fun x => hpos x.1.symm)]
        exact H.1
      · unfold garV
        by_cases ek : k0 = k
        · have hb1 : 1 ≤ b := by
            apply Nat.pos_of_ne_zero
            intro eb
            rw [eb, ek] at he
            exact hpos he.symm
          rw [ek] at he ⊢
          rw [if_pos ⟨rfl, hb1, hb, he⟩]
          exact hx b hb he
        · have hne := h3 k (by omega) (by omega)
          rw [if_neg (fun x => hne x.1.symm)]
          exact H.2 k0 h1 (by omega) (fun k1 a1 a2 => h3 k1 a1 (by omega)) b hb he
/-- order, power, log -/
theorem gp_pow {n q : Nat} (h : GFp n q) {a k : Nat} (ha : a < 2 ^ n) (hk : k < 2 ^ 31) : gp n q a k = gpow n q a k := gp_eq h ha hk
