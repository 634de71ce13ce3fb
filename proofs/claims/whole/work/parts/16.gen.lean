/-! a polynomial has no more roots than its degree; a generator; logs -/
/-- the value at x of the coefficients from the lowest on -/
def gev (n q x : Nat) : List Nat → Nat
  | [] => 0
  | c :: l => c ^^^ gm n q (gev n q x l) x
/-- what is left when x less r is taken out -/
def gqo (n q r : Nat) : List Nat → List Nat
  | [] => []
  | [_] => []
  | _ :: c :: t => gev n q r (c :: t) :: gqo n q r (c :: t)
section GR
variable {n q : Nat}
theorem gev_lt (h : GFp n q) {x : Nat} : ∀ l : List Nat, (∀ c ∈ l, c < 2 ^ n) → gev n q x l < 2 ^ n
  | [], _ => Nat.two_pow_pos n
  | c :: l, hl => xor_lt (hl c List.mem_cons_self) (h.lt (gev_lt h l (fun d hd => hl d (List.mem_cons_of_mem _ hd))))
theorem gqo_lt (h : GFp n q) {r : Nat} : ∀ l : List Nat, (∀ c ∈ l, c < 2 ^ n) → ∀ c ∈ gqo n q r l, c < 2 ^ n
  | [], _, c, hc => by cases hc
  | [_], _, c, hc => by cases hc
  | _ :: d :: t, hl, c, hc => by
    have hl' : ∀ e ∈ d :: t, e < 2 ^ n := fun e he => hl e (List.mem_cons_of_mem _ he)
    rcases List.mem_cons.mp hc with e | hc
    · rw [e]; exact gev_lt h _ hl'
    · exact gqo_lt h (d :: t) hl' c hc
theorem gqo_len (r : Nat) : ∀ l : List Nat, (gqo n q r l).length = l.length - 1
  | [] => rfl
  | [_] => rfl
  | _ :: d :: t => by
    show (gqo n q r (d :: t)).length + 1 = _
    rw [gqo_len r (d :: t)]
    simp
theorem gqo_ev (h : GFp n q) {r x : Nat} (hr : r < 2 ^ n) (hx : x < 2 ^ n) : ∀ l : List Nat, (∀ c ∈ l, c < 2 ^ n) → gev n q x l = gev n q r l ^^^ gm n q (x ^^^ r) (gev n q x (gqo n q r l))
  | [], _ => by
    show 0 = 0 ^^^ gm n q (x ^^^ r) 0
    rw [gm_b0]; rfl
  | [c], _ => by
    show c ^^^ gm n q 0 x = (c ^^^ gm n q 0 r) ^^^ gm n q (x ^^^ r) 0
    rw [gm_0, gm_0, gm_b0, Nat.xor_zero, Nat.xor_zero]
  | c :: d :: t, hl => by
    have hl' : ∀ e ∈ d :: t, e < 2 ^ n := fun e he => hl e (List.mem_cons_of_mem _ he)
    have ih := gqo_ev h hr hx (d :: t) hl'
    have hv := gev_lt h (x := r) _ hl'
    have hQ := gev_lt h (x := x) _ (gqo_lt h (r := r) _ hl')
    have hxr := xor_lt hx hr
    show c ^^^ gm n q (gev n q x (d :: t)) x = (c ^^^ gm n q (gev n q r (d :: t)) r) ^^^ gm n q (x ^^^ r) (gev n q r (d :: t) ^^^ gm n q (gev n q x (gqo n q r (d :: t))) x)
    rw [ih]
    generalize gev n q r (d :: t) = v at hv ⊢
    generalize gev n q x (gqo n q r (d :: t)) = Q at hQ ⊢
    have hq := h.2.2.1
    have hq2 := h.2.2.2.1
    rw [gm_x2 hq hq2 x hv (h.lt hxr), gm_x, gm_x2 hq hq2 v hx hr, h.assoc hxr hQ, h.comm hx hv, h.comm hr hv]
    generalize gm n q (x ^^^ r) (gm n q Q x) = w
    generalize gm n q v x = y
    generalize gm n q v r = z
    rw [Nat.xor_assoc c z, ← Nat.xor_assoc z, Nat.xor_comm y z, ← Nat.xor_assoc z z, Nat.xor_self, Nat.zero_xor]
theorem gqo_0 (r : Nat) : ∀ l : List Nat, gev n q r l = 0 → (∀ c ∈ gqo n q r l, c = 0) → ∀ c ∈ l, c = 0
  | [], _, _, c, hc => by cases hc
  | [d], h0, _, c, hc => by
    have h0 : d ^^^ gm n q 0 r = 0 := h0
    rw [gm_0, Nat.xor_zero] at h0
    rw [List.mem_singleton.mp hc]; exact h0
  | b :: d :: t, h0, hz, c, hc => by
    have hv : gev n q r (d :: t) = 0 := hz _ List.mem_cons_self
    have h0 : b ^^^ gm n q (gev n q r (d :: t)) r = 0 := h0
    rw [hv, gm_0, Nat.xor_zero] at h0
    rcases List.mem_cons.mp hc with e | hc
    · rw [e]; exact h0
    · exact gqo_0 r (d :: t) hv (fun e he => hz e (List.mem_cons_of_mem _ he)) c hc
/-- NO MORE ROOTS THAN THE DEGREE -/
theorem roots_few (h : GFp n q) : ∀ (rs l : List Nat), rs.Nodup → (∀ r ∈ rs, r < 2 ^ n ∧ gev n q r l = 0) → (∀ c ∈ l, c < 2 ^ n) → (∃ c ∈ l, c ≠ 0) → rs.length < l.length
  | [], l, _, _, _, ⟨c, hc, _⟩ => List.length_pos_of_mem hc
  | r :: rs, l, hn, hr, hl, ⟨c, hc, hc0⟩ => by
    rw [List.nodup_cons] at hn
    obtain ⟨hrl, hr0⟩ := hr r List.mem_cons_self
    have hpos := List.length_pos_of_mem hc
    have hne : ∃ c ∈ gqo n q r l, c ≠ 0 := by
      refine Classical.byContradiction (fun hno => ?_)
      exact hc0 (gqo_0 r l hr0 (fun d hd => Classical.byContradiction (fun h0 => hno ⟨d, hd, h0⟩)) c hc)
    have := roots_few h rs (gqo n q r l) hn.2 (fun s hs => ?_) (gqo_lt h l hl) hne
    · rw [gqo_len] at this
      show rs.length + 1 < _
      omega
    · obtain ⟨hsl, hs0⟩ := hr s (List.mem_cons_of_mem _ hs)
      refine ⟨hsl, Classical.byContradiction (fun h0 => ?_)⟩
      have he := gqo_ev h hrl hsl l hl
      rw [hs0, hr0, Nat.zero_xor] at he
      have hsr : s ^^^ r ≠ 0 := fun e => hn.1 (xor_inj e ▸ hs)
      exact h.ne0 (xor_lt hsl hrl) (gev_lt h _ (gqo_lt h l hl)) hsr h0 he.symm
theorem gev_pow (x : Nat) : ∀ k, gev n q x (List.replicate k 0 ++ [1]) = gpow n q x k
  | 0 => by
    show 1 ^^^ gm n q 0 x = 1
    rw [gm_0, Nat.xor_zero]
  | k + 1 => by
    show 0 ^^^ gm n q (gev n q x (List.replicate k 0 ++ [1])) x = gm n q (gpow n q x k) x
    rw [gev_pow x k, Nat.zero_xor]
/-- below units there is a member whose power is not 1 -/
theorem pow_ne1 (h : GFp n q) {m : Nat} (hm0 : 0 < m) (hm : m < 2 ^ n - 1) : ∃ b, b < 2 ^ n ∧ b ≠ 0 ∧ gpow n q b m ≠ 1 := by
  refine Classical.byContradiction (fun hno => ?_)
  obtain ⟨k, rfl⟩ : ∃ k, m = k + 1 := ⟨m - 1, by omega⟩
  have := roots_few h (gun n) (1 :: (List.replicate k 0 ++ [1])) (gun_nodup n) (fun r hr => ?_) (fun c hc => ?_) ⟨1, List.mem_cons_self, by omega⟩
  · rw [gun_len] at this
    simp at this
    omega
  · have hr := gun_mem.mp hr
    refine ⟨hr.2, ?_⟩
    have h1 : gpow n q r (k + 1) = 1 := Classical.byContradiction (fun h0 => hno ⟨r, hr.2, hr.1, h0⟩)
    show 1 ^^^ gm n q (gev n q r (List.replicate k 0 ++ [1])) r = 0
    rw [gev_pow]
    have h1 : gm n q (gpow n q r k) r = 1 := h1
    rw [h1, Nat.xor_self]
  · have h1 := h.one
    rcases List.mem_cons.mp hc with e | hc
    · omega
    · rcases List.mem_append.mp hc with hc | hc
      · have := List.eq_of_mem_replicate hc
        omega
      · have := List.mem_singleton.mp hc
        omega
end GR
theorem uf_mul : ∀ n, n = 8 ∨ n = 16 → ∀ i, i < 4 → ∀ j, j < 4 → i ≠ j → (2 ^ n - 1) % gfac i = 0 → (2 ^ n - 1) % gfac j = 0 → ((2 ^ n - 1) / gfac j) * ((2 ^ n - 1) / gfac i) % (2 ^ n - 1) = 0 := by
  rintro n (rfl | rfl) <;> decide +kernel
theorem uf_gcd : ∀ n, n = 8 ∨ n = 16 → ∀ i, i < 4 → (2 ^ n - 1) % gfac i = 0 → Nat.gcd (gfac i) ((2 ^ n - 1) / gfac i) = 1 := by
  rintro n (rfl | rfl) <;> decide +kernel
theorem uf_lt : ∀ n, n = 8 ∨ n = 16 → ∀ i, i < 4 → (2 ^ n - 1) % gfac i = 0 → 0 < (2 ^ n - 1) / gfac i ∧ (2 ^ n - 1) / gfac i < 2 ^ n - 1 := by
  rintro n (rfl | rfl) <;> decide +kernel
theorem uf_31 : ∀ n, n = 8 ∨ n = 16 → ∀ i, i < 4 → (2 ^ n - 1) / gfac i < 2 ^ 31 := by
  rintro n (rfl | rfl) <;> decide +kernel
theorem uf_0 : ∀ n, n = 8 ∨ n = 16 → (2 ^ n - 1) % gfac 0 = 0 := by
  rintro n (rfl | rfl) <;> decide +kernel
section GG
variable {n q : Nat}
theorem ggen_iff (h : GFp n q) (hn : n = 8 ∨ n = 16) {a : Nat} (ha : a < 2 ^ n) : ggen n q a ↔ ∀ i, i < 4 → (2 ^ n - 1) % gfac i = 0 → gpow n q a ((2 ^ n - 1) / gfac i) ≠ 1 := by
  unfold ggen
  constructor
  · intro hg i hi h0
    rw [← gp_eq h ha (uf_31 n hn i hi)]
    exact hg i hi h0
  · intro hg i hi h0
    rw [gp_eq h ha (uf_31 n hn i hi)]
    exact hg i hi h0
/-- THERE IS A GENERATOR -/
theorem gen_ex (h : GFp n q) (hn : n = 8 ∨ n = 16) : ∃ a, 2 ≤ a ∧ a < 2 ^ n ∧ ggen n q a := by
  have hc : ∀ i, ∃ c, i < 4 → (c < 2 ^ n ∧ c ≠ 0 ∧ ((2 ^ n - 1) % gfac i = 0 → (gpow n q c ((2 ^ n - 1) / gfac i) ≠ 1 ∧ ∀ j, j < 4 → i ≠ j → (2 ^ n - 1) % gfac j = 0 → gpow n q c ((2 ^ n - 1) / gfac j) = 1)) ∧ ((2 ^ n - 1) % gfac i ≠ 0 → c = 1)) := by
    intro i
    by_cases hi : i < 4
    · by_cases h0 : (2 ^ n - 1) % gfac i = 0
      · obtain ⟨b, hb, hb0, hb1⟩ := pow_ne1 h (uf_lt n hn i hi h0).1 (uf_lt n hn i hi h0).2
        refine ⟨gpow n q b ((2 ^ n - 1) / gfac i), fun _ => ⟨gpow_lt h b _, gpow_ne0 h hb hb0 _, fun _ => ⟨fun h1 => ?_, fun j hj hij hj0 => ?_⟩, fun h1 => absurd h0 h1⟩⟩
        · have h2 : gpow n q (gpow n q b ((2 ^ n - 1) / gfac i)) (gfac i) = 1 := by
            rw [← gpow_mul h hb, gfac_div n hn i hi h0]
            exact gpow_units h hb hb0
          have h3 := gpow_gcd h (gpow_lt h b _) _ _ h2 h1
          rw [uf_gcd n hn i hi h0, gpow_1 h (gpow_lt h b _)] at h3
          exact hb1 h3
        · rw [← gpow_mul h hb]
          have h4 := gpow_mod h hb (gpow_units h hb hb0) ((2 ^ n - 1) / gfac i * ((2 ^ n - 1) / gfac j))
          rw [uf_mul n hn j hj i hi (fun e => hij e.symm) hj0 h0] at h4
          exact h4.symm
      · exact ⟨1, fun _ => ⟨h.one, by omega, fun h1 => absurd h1 h0, fun _ => rfl⟩⟩
    · exact ⟨0, fun h1 => absurd h1 hi⟩
  obtain ⟨c0, k0⟩ := hc 0
  obtain ⟨c1, k1⟩ := hc 1
  obtain ⟨c2, k2⟩ := hc 2
  obtain ⟨c3, k3⟩ := hc 3
  have k0 := k0 (by omega)
  have k1 := k1 (by omega)
  have k2 := k2 (by omega)
  have k3 := k3 (by omega)
  have one : ∀ {c : Nat} {i : Nat}, i < 4 → (c < 2 ^ n ∧ c ≠ 0 ∧ ((2 ^ n - 1) % gfac i = 0 → (gpow n q c ((2 ^ n - 1) / gfac i) ≠ 1 ∧ ∀ j, j < 4 → i ≠ j → (2 ^ n - 1) % gfac j = 0 → gpow n q c ((2 ^ n - 1) / gfac j) = 1)) ∧ ((2 ^ n - 1) % gfac i ≠ 0 → c = 1)) → ∀ j, j < 4 → i ≠ j → (2 ^ n - 1) % gfac j = 0 → gpow n q c ((2 ^ n - 1) / gfac j) = 1 := by
    intro c i hi k j hj hij hj0
    by_cases h0 : (2 ^ n - 1) % gfac i = 0
    · exact (k.2.2.1 h0).2 j hj hij hj0
    · rw [k.2.2.2 h0]; exact gpow_one h _
  have l01 : gm n q c0 c1 < 2 ^ n := h.lt k0.1
  have l23 : gm n q c2 c3 < 2 ^ n := h.lt k2.1
  have hgl : gm n q (gm n q c0 c1) (gm n q c2 c3) < 2 ^ n := h.lt l01
  have hg : ggen n q (gm n q (gm n q c0 c1) (gm n q c2 c3)) := by
    rw [ggen_iff h hn hgl]
    intro i hi h0
    rw [gpow_gm h l01 l23, gpow_gm h k0.1 k1.1, gpow_gm h k2.1 k3.1]
    have hp := fun c => gpow_lt h c ((2 ^ n - 1) / gfac i)
    rcases (show i = 0 ∨ i = 1 ∨ i = 2 ∨ i = 3 by omega) with rfl | rfl | rfl | rfl
    · rw [one (by omega) k1 0 (by omega) (by omega) h0, one (by omega) k2 0 (by omega) (by omega) h0, one (by omega) k3 0 (by omega) (by omega) h0, gm_1 h.one, h.mul1 (hp c0), h.mul1 (hp c0)]
      exact (k0.2.2.1 h0).1
    · rw [one (by omega) k0 1 (by omega) (by omega) h0, one (by omega) k2 1 (by omega) (by omega) h0, one (by omega) k3 1 (by omega) (by omega) h0, gm_1 h.one, gm_1 (hp c1), h.mul1 (hp c1)]
      exact (k1.2.2.1 h0).1
    · rw [one (by omega) k0 2 (by omega) (by omega) h0, one (by omega) k1 2 (by omega) (by omega) h0, one (by omega) k3 2 (by omega) (by omega) h0, gm_1 h.one, h.mul1 (hp c2), gm_1 (hp c2)]
      exact (k2.2.2.1 h0).1
    · rw [one (by omega) k0 3 (by omega) (by omega) h0, one (by omega) k1 3 (by omega) (by omega) h0, one (by omega) k2 3 (by omega) (by omega) h0, gm_1 h.one, gm_1 (hp c3), gm_1 (hp c3)]
      exact (k3.2.2.1 h0).1
  refine ⟨_, ?_, hgl, hg⟩
  have hne0 := h.ne0 l01 l23 (h.ne0 k0.1 k1.1 k0.2.1 k1.2.1) (h.ne0 k2.1 k3.1 k2.2.1 k3.2.1)
  have hne1 : gm n q (gm n q c0 c1) (gm n q c2 c3) ≠ 1 := by
    intro e
    rw [e, ggen_iff h hn h.one] at hg
    exact hg 0 (by omega) (uf_0 n hn) (gpow_one h _)
  omega
/-- a generator's powers below units are apart -/
theorem gen_inj (h : GFp n q) (hn : n = 8 ∨ n = 16) {g : Nat} (hg : g < 2 ^ n) (hg0 : g ≠ 0) (hgen : ggen n q g) {i j : Nat} (hi : i < 2 ^ n - 1) (hj : j < 2 ^ n - 1) (he : gpow n q g i = gpow n q g j) : i = j := by
  have key : ∀ i j, i < j → j < 2 ^ n - 1 → gpow n q g i = gpow n q g j → False := by
    intro i j hij hj he
    have h1 : gpow n q g (j - i) = 1 := by
      refine h.cancelL (gpow_lt h g _) h.one (gpow_lt h g i) (gpow_ne0 h hg hg0 i) ?_
      rw [← gpow_add h hg, show i + (j - i) = j by omega, h.mul1 (gpow_lt h g i), he]
    have h2 := gpow_gcd h hg _ _ h1 (gpow_units h hg hg0)
    have hd := Nat.gcd_dvd_right (j - i) (2 ^ n - 1)
    have hle : Nat.gcd (j - i) (2 ^ n - 1) ≤ j - i := Nat.gcd_le_left _ (by omega)
    obtain ⟨k, hk, hk0, c, hkc⟩ := units_div hn hd (by omega)
    rw [ggen_iff h hn hg] at hgen
    refine hgen k hk hk0 ?_
    rw [hkc, gpow_mul h hg, h2, gpow_one h]
  rcases Nat.lt_trichotomy i j with h1 | h1 | h1
  · exact (key i j h1 hj he).elim
  · exact h1
  · exact (key j i h1 hi he.symm).elim
/-- EVERY MEMBER BUT 0 IS A POWER OF THE GENERATOR -/
theorem gen_log (h : GFp n q) (hn : n = 8 ∨ n = 16) {g : Nat} (hg : g < 2 ^ n) (hg0 : g ≠ 0) (hgen : ggen n q g) {a : Nat} (ha : a < 2 ^ n) (ha0 : a ≠ 0) : ∃ k, k < 2 ^ n - 1 ∧ gpow n q g k = a := by
  have hp : ((List.range (2 ^ n - 1)).map (gpow n q g)).Perm (gun n) := by
    refine perm_sub _ _ (nodup_map _ List.nodup_range (fun x hx y hy e => gen_inj h hn hg hg0 hgen (List.mem_range.mp hx) (List.mem_range.mp hy) e)) (fun x hx => ?_) (by rw [gun_len, List.length_map, List.length_range]; exact Nat.le_refl _)
    obtain ⟨y, hy, rfl⟩ := List.mem_map.mp hx
    exact gun_mem.mpr ⟨gpow_ne0 h hg hg0 y, gpow_lt h g y⟩
  obtain ⟨k, hk, he⟩ := List.mem_map.mp (hp.mem_iff.mpr (gun_mem.mpr ⟨ha0, ha⟩))
  exact ⟨k, List.mem_range.mp hk, he⟩
end GG
