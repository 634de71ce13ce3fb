/-! powers; every member but 0 to the units is 1; the generator's powers -/
def GFp (n q : Nat) : Prop := 2 ≤ n ∧ n ≤ 16 ∧ 2 ^ n ≤ q ∧ q < 2 ^ (n + 1) ∧ bpr q (n / 2 + 1)
theorem GFp.one {n q : Nat} (h : GFp n q) : 1 < 2 ^ n := by
  have : 2 ^ 1 ≤ 2 ^ n := Nat.pow_le_pow_right (by omega) (by have := h.1; omega)
  omega
theorem GFp.lt {n q a b : Nat} (h : GFp n q) (ha : a < 2 ^ n) : gm n q a b < 2 ^ n := gm_lt h.2.2.1 h.2.2.2.1 ha
theorem GFp.comm {n q a b : Nat} (h : GFp n q) (ha : a < 2 ^ n) (hb : b < 2 ^ n) : gm n q a b = gm n q b a := gm_comm h.2.2.1 h.2.2.2.1 ha hb
theorem GFp.assoc {n q a b c : Nat} (h : GFp n q) (ha : a < 2 ^ n) (hb : b < 2 ^ n) : gm n q (gm n q a b) c = gm n q a (gm n q b c) := gm_assoc h.2.2.1 h.2.2.2.1 ha hb
theorem GFp.ne0 {n q a b : Nat} (h : GFp n q) (ha : a < 2 ^ n) (hb : b < 2 ^ n) (ha0 : a ≠ 0) (hb0 : b ≠ 0) : gm n q a b ≠ 0 := gm_ne0 h.1 h.2.1 h.2.2.1 h.2.2.2.1 h.2.2.2.2 ha hb ha0 hb0
theorem GFp.mul1 {n q a : Nat} (h : GFp n q) (ha : a < 2 ^ n) : gm n q a 1 = a := by rw [h.comm ha h.one, gm_1 ha]
theorem xor_inj {a b : Nat} (h : a ^^^ b = 0) : a = b := by
  have h1 : a ^^^ b ^^^ b = 0 ^^^ b := by rw [h]
  rw [Nat.xor_assoc, Nat.xor_self, Nat.xor_zero, Nat.zero_xor] at h1
  exact h1
theorem GFp.cancel {n q a b c : Nat} (h : GFp n q) (ha : a < 2 ^ n) (hb : b < 2 ^ n) (hc : c < 2 ^ n) (hc0 : c ≠ 0) (he : gm n q a c = gm n q b c) : a = b := by
  refine xor_inj (Classical.byContradiction (fun h0 => ?_))
  have h1 := gm_x2 h.2.2.1 h.2.2.2.1 c ha hb
  rw [he, Nat.xor_self] at h1
  exact h.ne0 (xor_lt ha hb) hc h0 hc0 h1
theorem GFp.cancelL {n q a b c : Nat} (h : GFp n q) (ha : a < 2 ^ n) (hb : b < 2 ^ n) (hc : c < 2 ^ n) (hc0 : c ≠ 0) (he : gm n q c a = gm n q c b) : a = b := by
  rw [h.comm hc ha, h.comm hc hb] at he
  exact h.cancel ha hb hc hc0 he
def gpow (n q a : Nat) : Nat → Nat
  | 0 => 1
  | k + 1 => gm n q (gpow n q a k) a
section GP
variable {n q : Nat}
theorem gpow_lt (h : GFp n q) (a : Nat) : ∀ k, gpow n q a k < 2 ^ n
  | 0 => h.one
  | k + 1 => h.lt (gpow_lt h a k)
theorem gpow_1 (h : GFp n q) {a : Nat} (ha : a < 2 ^ n) : gpow n q a 1 = a := gm_1 ha
theorem gpow_add (h : GFp n q) {a : Nat} (ha : a < 2 ^ n) (i : Nat) : ∀ j, gpow n q a (i + j) = gm n q (gpow n q a i) (gpow n q a j)
  | 0 => (h.mul1 (gpow_lt h a i)).symm
  | j + 1 => by
    show gm n q (gpow n q a (i + j)) a = gm n q (gpow n q a i) (gm n q (gpow n q a j) a)
    rw [gpow_add h ha i j, h.assoc (gpow_lt h a i) (gpow_lt h a j)]
theorem gpow_one (h : GFp n q) : ∀ k, gpow n q 1 k = 1
  | 0 => rfl
  | k + 1 => by
    show gm n q (gpow n q 1 k) 1 = 1
    rw [gpow_one h k, gm_1 h.one]
theorem gpow_gm (h : GFp n q) {a b : Nat} (ha : a < 2 ^ n) (hb : b < 2 ^ n) : ∀ k, gpow n q (gm n q a b) k = gm n q (gpow n q a k) (gpow n q b k)
  | 0 => (gm_1 h.one).symm
  | k + 1 => by
    show gm n q (gpow n q (gm n q a b) k) (gm n q a b) = gm n q (gm n q (gpow n q a k) a) (gm n q (gpow n q b k) b)
    have h1 := gpow_lt h a k
    have h2 := gpow_lt h b k
    rw [gpow_gm h ha hb k, h.assoc h1 h2, h.assoc h1 ha, ← h.assoc h2 ha, h.comm h2 ha, h.assoc ha h2]
theorem gpow_mul (h : GFp n q) {a : Nat} (ha : a < 2 ^ n) (i : Nat) : ∀ j, gpow n q a (i * j) = gpow n q (gpow n q a i) j
  | 0 => rfl
  | j + 1 => by
    rw [Nat.mul_succ, gpow_add h ha, gpow_mul h ha i j]
    rfl
theorem gpow_ne0 (h : GFp n q) {a : Nat} (ha : a < 2 ^ n) (ha0 : a ≠ 0) : ∀ k, gpow n q a k ≠ 0
  | 0 => by show (1 : Nat) ≠ 0; omega
  | k + 1 => h.ne0 (gpow_lt h a k) ha (gpow_ne0 h ha ha0 k) ha0
theorem gpl_eq (h : GFp n q) : ∀ (j k x r : Nat), k < 2 ^ j → x < 2 ^ n → r < 2 ^ n → gpl n q j k x r = gm n q r (gpow n q x k)
  | 0, k, x, r, hk, _, hr => by
    have hk : k = 0 := by simpa using hk
    subst hk
    exact (h.mul1 hr).symm
  | j + 1, k, x, r, hk, hx, hr => by
    show gpl n q j (k / 2) (gm n q x x) (if k % 2 = 1 then gm n q r x else r) = _
    have hk2 : k / 2 < 2 ^ j := by rw [Nat.pow_succ] at hk; omega
    have hxx : gm n q x x = gpow n q x 2 := by
      show gm n q x x = gm n q (gm n q 1 x) x
      rw [gm_1 hx]
    have hr2 : (if k % 2 = 1 then gm n q r x else r) < 2 ^ n := by
      split
      · exact h.lt hr
      · exact hr
    rw [gpl_eq h j _ _ _ hk2 (h.lt hx) hr2, hxx, ← gpow_mul h hx]
    rcases Nat.mod_two_eq_zero_or_one k with h0 | h0
    · rw [if_neg (by omega), show 2 * (k / 2) = k by omega]
    · rw [if_pos h0, h.assoc hr hx]
      congr 1
      have : gpow n q x k = gm n q (gpow n q x 1) (gpow n q x (2 * (k / 2))) := by
        rw [← gpow_add h hx]
        congr 1
        omega
      rw [this, gpow_1 h hx]
theorem gp_eq (h : GFp n q) {a k : Nat} (ha : a < 2 ^ n) (hk : k < 2 ^ 31) : gp n q a k = gpow n q a k := by
  have := gpl_eq h 31 k a 1 hk ha h.one
  rw [gm_1 (gpow_lt h a k)] at this
  exact this
/-! products of lists -/
def gpr (n q : Nat) (l : List Nat) : Nat := l.foldr (gm n q) 1
theorem gpr_lt (h : GFp n q) : ∀ l : List Nat, (∀ x ∈ l, x < 2 ^ n) → gpr n q l < 2 ^ n
  | [], _ => h.one
  | x :: l, hl => h.lt (hl x List.mem_cons_self)
theorem gpr_perm (h : GFp n q) {l l' : List Nat} (hp : l.Perm l') : (∀ x ∈ l, x < 2 ^ n) → gpr n q l = gpr n q l' := by
  induction hp with
  | nil => intro _; rfl
  | cons x hp ih =>
    intro hl
    show gm n q x _ = gm n q x _
    rw [show List.foldr (gm n q) 1 _ = _ from ih (fun y hy => hl y (List.mem_cons_of_mem _ hy))]
    rfl
  | swap x y l =>
    intro hl
    have hx : x < 2 ^ n := hl x (by simp)
    have hy : y < 2 ^ n := hl y (by simp)
    show gm n q y (gm n q x (gpr n q l)) = gm n q x (gm n q y (gpr n q l))
    rw [← h.assoc hy hx, h.comm hy hx, h.assoc hx hy]
  | trans h1 h2 ih1 ih2 =>
    intro hl
    rw [ih1 hl, ih2 (fun x hx => hl x (h1.mem_iff.mpr hx))]
theorem gpr_map (h : GFp n q) {a : Nat} (ha : a < 2 ^ n) : ∀ l : List Nat, (∀ x ∈ l, x < 2 ^ n) → gpr n q (l.map (gm n q a)) = gm n q (gpow n q a l.length) (gpr n q l)
  | [], _ => (gm_1 h.one).symm
  | x :: l, hl => by
    have hx : x < 2 ^ n := hl x List.mem_cons_self
    have hl' : ∀ y ∈ l, y < 2 ^ n := fun y hy => hl y (List.mem_cons_of_mem _ hy)
    show gm n q (gm n q a x) (gpr n q (l.map (gm n q a))) = gm n q (gm n q (gpow n q a l.length) a) (gm n q x (gpr n q l))
    have hp := gpow_lt h a l.length
    rw [gpr_map h ha l hl', h.assoc hp ha, ← h.assoc ha hx, ← h.assoc (h.lt ha) hp, h.comm (h.lt ha) hp, h.assoc hp (h.lt ha)]
theorem gpr_ne0 (h : GFp n q) : ∀ l : List Nat, (∀ x ∈ l, x < 2 ^ n ∧ x ≠ 0) → gpr n q l ≠ 0
  | [], _ => by show (1 : Nat) ≠ 0; omega
  | x :: l, hl => h.ne0 (hl x List.mem_cons_self).1 (gpr_lt h l (fun y hy => (hl y (List.mem_cons_of_mem _ hy)).1)) (hl x List.mem_cons_self).2 (gpr_ne0 h l (fun y hy => hl y (List.mem_cons_of_mem _ hy)))
theorem perm_sub : ∀ (l l' : List Nat), l.Nodup → (∀ x ∈ l, x ∈ l') → l'.length ≤ l.length → l.Perm l'
  | [], l', _, _, hlen => by
    have : l' = [] := List.eq_nil_of_length_eq_zero (by simpa using hlen)
    rw [this]
  | x :: l, l', hn, hs, hlen => by
    rw [List.nodup_cons] at hn
    have hx : x ∈ l' := hs x List.mem_cons_self
    have hp := List.perm_cons_erase hx
    refine List.Perm.trans ?_ hp.symm
    refine List.Perm.cons x (perm_sub l (l'.erase x) hn.2 (fun y hy => ?_) ?_)
    · have hne : y ≠ x := fun e => hn.1 (e ▸ hy)
      exact (List.mem_erase_of_ne hne).mpr (hs y (List.mem_cons_of_mem _ hy))
    · have := hp.length_eq
      simp only [List.length_cons] at this hlen
      omega
theorem nodup_map {f : Nat → Nat} : ∀ (l : List Nat), l.Nodup → (∀ x ∈ l, ∀ y ∈ l, f x = f y → x = y) → (l.map f).Nodup
  | [], _, _ => List.nodup_nil
  | x :: l, hn, hf => by
    rw [List.nodup_cons] at hn
    rw [List.map_cons, List.nodup_cons]
    refine ⟨fun hm => ?_, nodup_map l hn.2 (fun a ha b hb => hf a (List.mem_cons_of_mem _ ha) b (List.mem_cons_of_mem _ hb))⟩
    obtain ⟨y, hy, he⟩ := List.mem_map.mp hm
    have := hf y (List.mem_cons_of_mem _ hy) x List.mem_cons_self he
    exact hn.1 (this ▸ hy)
/-- the members but 0 -/
def gun (n : Nat) : List Nat := (List.range (2 ^ n - 1)).map (· + 1)
theorem gun_mem {n x : Nat} : x ∈ gun n ↔ x ≠ 0 ∧ x < 2 ^ n := by
  have hp := Nat.two_pow_pos n
  unfold gun
  rw [List.mem_map]
  constructor
  · rintro ⟨y, hy, rfl⟩
    have := List.mem_range.mp hy
    omega
  · rintro ⟨h0, h1⟩
    exact ⟨x - 1, List.mem_range.mpr (by omega), by omega⟩
theorem gun_nodup (n : Nat) : (gun n).Nodup := nodup_map _ List.nodup_range (fun x _ y _ e => by omega)
theorem gun_len (n : Nat) : (gun n).length = 2 ^ n - 1 := by
  unfold gun
  rw [List.length_map, List.length_range]
/-- FERMAT -/
theorem gpow_units (h : GFp n q) {a : Nat} (ha : a < 2 ^ n) (ha0 : a ≠ 0) : gpow n q a (2 ^ n - 1) = 1 := by
  have hl : ∀ x ∈ gun n, x < 2 ^ n := fun x hx => (gun_mem.mp hx).2
  have hperm : ((gun n).map (gm n q a)).Perm (gun n) := by
    refine perm_sub _ _ (nodup_map _ (gun_nodup n) (fun x hx y hy e => h.cancelL (hl x hx) (hl y hy) ha ha0 e)) (fun x hx => ?_) (by rw [List.length_map]; exact Nat.le_refl _)
    obtain ⟨y, hy, rfl⟩ := List.mem_map.mp hx
    have := gun_mem.mp hy
    exact gun_mem.mpr ⟨h.ne0 ha this.2 ha0 this.1, h.lt ha⟩
  have h1 := gpr_perm h hperm (fun x hx => by
    obtain ⟨y, hy, rfl⟩ := List.mem_map.mp hx
    exact h.lt ha)
  rw [gpr_map h ha (gun n) hl, gun_len] at h1
  have hp0 := gpr_ne0 h (gun n) (fun x hx => ⟨(gun_mem.mp hx).2, (gun_mem.mp hx).1⟩)
  have hpl := gpr_lt h (gun n) hl
  refine h.cancel (gpow_lt h a _) h.one hpl hp0 ?_
  rw [h1, gm_1 hpl]
theorem gpow_mod (h : GFp n q) {a u : Nat} (ha : a < 2 ^ n) (hu : gpow n q a u = 1) (k : Nat) : gpow n q a (k % u) = gpow n q a k := by
  have h1 : gpow n q a k = gpow n q a (u * (k / u) + k % u) := by rw [Nat.div_add_mod]
  rw [h1, gpow_add h ha, gpow_mul h ha, hu, gpow_one h, gm_1 (gpow_lt h a _)]
/-- two powers that are 1 give one at their greatest common divisor -/
theorem gpow_gcd (h : GFp n q) {a : Nat} (ha : a < 2 ^ n) : ∀ (i j : Nat), gpow n q a i = 1 → gpow n q a j = 1 → gpow n q a (Nat.gcd i j) = 1 := by
  intro i
  induction i using Nat.strongRecOn with
  | ind i ih =>
    intro j hi hj
    rcases Nat.eq_zero_or_pos i with h0 | h0
    · rw [h0, Nat.gcd_zero_left]; exact hj
    · rw [Nat.gcd_rec]
      exact ih (j % i) (Nat.mod_lt j h0) i (by rw [gpow_mod h ha hi]; exact hj) hi
end GP
theorem gfac_div : ∀ n, n = 8 ∨ n = 16 → ∀ i, i < 4 → (2 ^ n - 1) % gfac i = 0 → (2 ^ n - 1) / gfac i * gfac i = 2 ^ n - 1 := by
  intro n _ i _ h0
  have := Nat.div_add_mod (2 ^ n - 1) (gfac i)
  rw [h0, Nat.add_zero, Nat.mul_comm] at this
  exact this
theorem prime_or {p : Nat} (hp : ∀ d, d < p → 2 ≤ d → p % d ≠ 0) (hp2 : 2 ≤ p) (e : Nat) : p ∣ e ∨ Nat.gcd e p = 1 := by
  have hd : Nat.gcd e p ∣ p := Nat.gcd_dvd_right e p
  have hle : Nat.gcd e p ≤ p := Nat.le_of_dvd (by omega) hd
  have hpos : 0 < Nat.gcd e p := Nat.gcd_pos_of_pos_right e (by omega)
  rcases (show Nat.gcd e p = 1 ∨ Nat.gcd e p = p ∨ (2 ≤ Nat.gcd e p ∧ Nat.gcd e p < p) by omega) with h | h | h
  · exact Or.inr h
  · left
    rw [← h]
    exact Nat.gcd_dvd_left e p
  · exact absurd (Nat.mod_eq_zero_of_dvd hd) (hp _ h.2 h.1)
theorem p3 : ∀ d, d < 3 → 2 ≤ d → 3 % d ≠ 0 := by decide
theorem p5 : ∀ d, d < 5 → 2 ≤ d → 5 % d ≠ 0 := by decide
theorem p17 : ∀ d, d < 17 → 2 ≤ d → 17 % d ≠ 0 := by decide
theorem p257 : ∀ d, d < 257 → 2 ≤ d → 257 % d ≠ 0 := by decide +kernel
/-- a divisor of units that is not units divides units by one of the primes -/
theorem units_div {n d : Nat} (hn : n = 8 ∨ n = 16) (hd : d ∣ 2 ^ n - 1) (hne : d ≠ 2 ^ n - 1) : ∃ i, i < 4 ∧ (2 ^ n - 1) % gfac i = 0 ∧ d ∣ (2 ^ n - 1) / gfac i := by
  obtain ⟨e, he⟩ := hd
  have he1 : e ≠ 1 := fun h => hne (by rw [he, h, Nat.mul_one])
  have use : ∀ i, i < 4 → (2 ^ n - 1) % gfac i = 0 → gfac i ∣ e → ∃ i, i < 4 ∧ (2 ^ n - 1) % gfac i = 0 ∧ d ∣ (2 ^ n - 1) / gfac i := by
    intro i hi h0 ⟨c, hc⟩
    refine ⟨i, hi, h0, c, ?_⟩
    rw [he, hc, ← Nat.mul_assoc, Nat.mul_comm d, Nat.mul_assoc, Nat.mul_div_cancel_left _ (gfac_pos i)]
  rcases prime_or p3 (by omega) e with h3 | h3
  · exact use 0 (by omega) (by rcases hn with rfl | rfl <;> decide) h3
  rcases prime_or p5 (by omega) e with h5 | h5
  · exact use 1 (by omega) (by rcases hn with rfl | rfl <;> decide) h5
  rcases prime_or p17 (by omega) e with h17 | h17
  · exact use 2 (by omega) (by rcases hn with rfl | rfl <;> decide) h17
  rcases hn with rfl | rfl
  · exfalso
    have hc : Nat.Coprime e (3 * 5 * 17) := Nat.Coprime.mul_right (Nat.Coprime.mul_right h3 h5) h17
    have hdv : e ∣ 3 * 5 * 17 := ⟨d, by rw [Nat.mul_comm e d]; exact he⟩
    exact he1 (Nat.Coprime.eq_one_of_dvd hc hdv)
  · rcases prime_or p257 (by omega) e with h257 | h257
    · exact use 3 (by omega) (by decide) h257
    · exfalso
      have hc : Nat.Coprime e (3 * 5 * 17 * 257) := Nat.Coprime.mul_right (Nat.Coprime.mul_right (Nat.Coprime.mul_right h3 h5) h17) h257
      have hdv : e ∣ 3 * 5 * 17 * 257 := ⟨d, by rw [Nat.mul_comm e d]; exact he⟩
      exact he1 (Nat.Coprime.eq_one_of_dvd hc hdv)
