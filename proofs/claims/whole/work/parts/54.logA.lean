/-! order and log by the factors -/
theorem gen_one {n p g : Nat} (h : GFg n p g) {e : Nat} : gpow n (2 ^ n ||| p) g e = 1 ↔ (2 ^ n - 1) ∣ e := by
  have hG := h.2.2.1
  have hg : g < 2 ^ n := h.2.2.2.2.1
  have hg0 : g ≠ 0 := by have := h.2.2.2.1; omega
  have hu := gpow_units hG hg hg0
  have hup : 0 < 2 ^ n - 1 := by have := hG.one; omega
  rw [← gpow_mod hG hg hu]
  constructor
  · intro he
    have := gen_inj hG h.1 hg hg0 h.2.2.2.2.2 (Nat.mod_lt e hup) hup he
    exact Nat.dvd_of_mod_eq_zero this
  · intro hd
    rw [Nat.mod_eq_zero_of_dvd hd]
    rfl
theorem ord_step {n p g : Nat} (h : GFg n p g) {L D m f : Nat} (hu : 2 ^ n - 1 = D * m) (hD : D ∣ L) (hf : f ∣ 2 ^ n - 1) (hc : Nat.Coprime D f) (hf0 : 0 < f) : (gpow n (2 ^ n ||| p) (gpow n (2 ^ n ||| p) g L) (m / f) = 1 ↔ L % f = 0) ∧ m % f = 0 := by
  have hG := h.2.2.1
  have hg : g < 2 ^ n := h.2.2.2.2.1
  have hup : 0 < 2 ^ n - 1 := by have := hG.one; omega
  have hfm : f ∣ m := Nat.Coprime.dvd_of_dvd_mul_left hc.symm (hu ▸ hf)
  obtain ⟨m', rfl⟩ := hfm
  obtain ⟨L', rfl⟩ := hD
  have hm0 : 0 < m' := by
    rcases Nat.eq_zero_or_pos m' with e | e
    · rw [e, Nat.mul_zero, Nat.mul_zero] at hu
      omega
    · exact e
  have hD0 : 0 < D := by
    rcases Nat.eq_zero_or_pos D with e | e
    · rw [e, Nat.zero_mul] at hu
      omega
    · exact e
  refine ⟨?_, Nat.mul_mod_right f m'⟩
  rw [Nat.mul_div_cancel_left m' hf0, ← gpow_mul hG hg, gen_one h, hu, Nat.mul_assoc D L' m', Nat.mul_dvd_mul_iff_left hD0]
  have e1 : f * m' ∣ L' * m' ↔ f ∣ L' := Nat.mul_dvd_mul_iff_right hm0
  rw [e1]
  constructor
  · intro hx
    exact Nat.mod_eq_zero_of_dvd (Nat.dvd_mul_left_of_dvd hx D)
  · intro hx
    exact Nat.Coprime.dvd_of_dvd_mul_left hc.symm (Nat.dvd_of_mod_eq_zero hx)
/-- the factors of n's order: those ahead of place k are P k -/
def pfk : Nat → Nat
  | 0 => 1
  | k + 1 => pfk k * gfac k
theorem pfk_ok : ∀ n, n = 8 ∨ n = 16 → ∀ k, k < (if n = 8 then 3 else 4) → (gfac k ∣ 2 ^ n - 1 ∧ Nat.Coprime (pfk k) (gfac k)) := by
  intro n hn
  rcases hn with rfl | rfl <;> decide +kernel
theorem gol_gco {n p g : Nat} (h : GFg n p g) {a : Nat} (ha : a < 2 ^ n) (ha0 : a ≠ 0) : gol n (2 ^ n ||| p) a (if n = 8 then 3 else 4) 0 (2 ^ n - 1) = gco (2 ^ n - 1) (glog n (2 ^ n ||| p) g a) 4 := by
  have hG := h.2.2.1
  have hL := glog_pow h ha ha0
  generalize glog n (2 ^ n ||| p) g a = L at *
  have h31 : 2 ^ n - 1 < 2 ^ 31 := by
    have : 2 ^ n ≤ 2 ^ 16 := Nat.pow_le_pow_right (by omega) hG.2.1
    omega
  have key : ∀ r k, k + r = (if n = 8 then 3 else 4) → ∀ D m, 2 ^ n - 1 = D * m → D ∣ L → D ∣ pfk k → m = gco (2 ^ n - 1) L k → gol n (2 ^ n ||| p) a r k m = gco (2 ^ n - 1) L (k + r) := by
    intro r
    induction r with
    | zero => intro k _ D m _ _ _ hm; exact hm
    | succ r ih =>
      intro k hk D m hu hD hP hm
      obtain ⟨f1, f2⟩ := pfk_ok n h.1 k (by omega)
      have hc : Nat.Coprime D (gfac k) := Nat.Coprime.coprime_dvd_left hP f2
      obtain ⟨s1, s2⟩ := ord_step h hu hD f1 hc (gfac_pos k)
      rw [hL] at s1
      have hml : m ≤ 2 ^ n - 1 := by rw [hm]; exact gco_le _ _ _
      have hm31 : m / gfac k < 2 ^ 31 := Nat.lt_of_le_of_lt (Nat.div_le_self _ _) (by omega)
      show gol n (2 ^ n ||| p) a r (k + 1) (if gp n (2 ^ n ||| p) a (m / gfac k) = 1 then m / gfac k else m) = _
      rw [gp_eq hG ha hm31]
      have e : gco (2 ^ n - 1) L (k + 1) = if m % gfac k = 0 ∧ L % gfac k = 0 then m / gfac k else m := by
        rw [hm]
        rfl
      by_cases hz : L % gfac k = 0
      · rw [if_pos (s1.2 hz)]
        rw [if_pos ⟨s2, hz⟩] at e
        rw [show k + (r + 1) = k + 1 + r by omega]
        refine ih (k + 1) (by omega) (D * gfac k) (m / gfac k) ?_ (Nat.Coprime.mul_dvd_of_dvd_of_dvd hc hD (Nat.dvd_of_mod_eq_zero hz)) (Nat.mul_dvd_mul_right hP _) e.symm
        rw [Nat.mul_assoc, Nat.mul_div_cancel' (Nat.dvd_of_mod_eq_zero s2)]
        exact hu
      · rw [if_neg (fun x => hz (s1.1 x))]
        rw [if_neg (fun x => hz x.2)] at e
        rw [show k + (r + 1) = k + 1 + r by omega]
        exact ih (k + 1) (by omega) D m hu hD (Nat.dvd_trans hP (Nat.dvd_mul_right _ _)) e.symm
  rw [key _ 0 (by omega) 1 _ (Nat.one_mul _).symm (Nat.one_dvd _) (Nat.one_dvd _) rfl, Nat.zero_add]
  rcases h.1 with e | e
  · subst e
    show gco 255 L 3 = gco 255 L 4
    have hle := gco_le 255 L 3
    show _ = if gco 255 L 3 % gfac 3 = 0 ∧ L % gfac 3 = 0 then _ else _
    rw [if_neg]
    rintro ⟨hx, _⟩
    have h257 : gfac 3 = 257 := rfl
    rw [h257, Nat.mod_eq_of_lt (by omega)] at hx
    -- it is never 0
    have hne : ∀ k, k ≤ 3 → gco 255 L k ≠ 0 := by
      intro k
      induction k with
      | zero => intro _ e; exact absurd e (by show (255 : Nat) ≠ 0; omega)
      | succ k ih =>
        intro hk
        have i := ih (by omega)
        show (if gco 255 L k % gfac k = 0 ∧ L % gfac k = 0 then gco 255 L k / gfac k else gco 255 L k) ≠ 0
        split
        · next hh =>
          intro e
          have := Nat.div_add_mod (gco 255 L k) (gfac k)
          rw [e, hh.1] at this
          omega
        · exact i
    exact hne 3 (by omega) hx
  · subst e
    rfl
/-- the place of a member's power among those of the factor's order -/
theorem log_left {n p g : Nat} (h : GFg n p g) {L f x : Nat} (hf : f ∣ 2 ^ n - 1) (hf0 : 0 < f) : gpow n (2 ^ n ||| p) (gpow n (2 ^ n ||| p) g ((2 ^ n - 1) / f)) x = gpow n (2 ^ n ||| p) (gpow n (2 ^ n ||| p) g L) ((2 ^ n - 1) / f) ↔ x % f = L % f := by
  have hG := h.2.2.1
  have hg : g < 2 ^ n := h.2.2.2.2.1
  have hg0 : g ≠ 0 := by have := h.2.2.2.1; omega
  have hup : 0 < 2 ^ n - 1 := by have := hG.one; omega
  obtain ⟨m, hm⟩ := hf
  have hm0 : 0 < m := by
    rcases Nat.eq_zero_or_pos m with e | e
    · rw [e, Nat.mul_zero] at hm
      omega
    · exact e
  have hd : (2 ^ n - 1) / f = m := by rw [hm, Nat.mul_div_cancel_left m hf0]
  rw [hd, ← gpow_mul hG hg, ← gpow_mul hG hg]
  have hu := gpow_units hG hg hg0
  rw [← gpow_mod hG hg hu (m * x), ← gpow_mod hG hg hu (L * m), hm, Nat.mul_comm m x, Nat.mul_mod_mul_right, Nat.mul_mod_mul_right]
  constructor
  · intro he
    have := gen_inj hG h.1 hg hg0 h.2.2.2.2.2 (i := x % f * m) (j := L % f * m) (by
      rw [hm]
      exact Nat.mul_lt_mul_of_pos_right (Nat.mod_lt _ hf0) hm0) (by
      rw [hm]
      exact Nat.mul_lt_mul_of_pos_right (Nat.mod_lt _ hf0) hm0) he
    exact Nat.eq_of_mul_eq_mul_right hm0 this
  · intro he
    rw [he]
theorem mod_dv {x L s : Nat} (hle : x ≤ L) : x % s = L % s ↔ s ∣ L - x := by
  constructor
  · intro h
    exact Nat.dvd_of_mod_eq_zero (Nat.sub_mod_eq_zero_of_mod_eq h.symm)
  · rintro ⟨t, ht⟩
    rw [show L = x + s * t by omega, Nat.add_mul_mod_self_left]
/-- a step: the numbers that are L by step and by f -/
theorem crt {L s f x : Nat} (hc : Nat.Coprime s f) (h1 : x % s = L % s) (h2 : x % f = L % f) : x % (s * f) = L % (s * f) := by
  rcases Nat.le_total x L with hle | hle
  · have a : s ∣ L - x := (mod_dv hle).1 h1
    have b : f ∣ L - x := (mod_dv hle).1 h2
    exact (mod_dv hle).2 (Nat.Coprime.mul_dvd_of_dvd_of_dvd hc a b)
  · have a : s ∣ x - L := (mod_dv hle).1 h1.symm
    have b : f ∣ x - L := (mod_dv hle).1 h2.symm
    exact ((mod_dv hle).2 (Nat.Coprime.mul_dvd_of_dvd_of_dvd hc a b)).symm
