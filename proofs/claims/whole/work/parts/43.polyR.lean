/-! polynomials of numbers as members of the ring -/
/-- what F has as coefficients -/
def rp {n q : Nat} {R : Type} (co : R → Nat → GFt n q) (F : R) (f : Nat → Nat) : Prop := ∀ i, (co F i).1 = f i
theorem gf_0v {n q : Nat} (hG : GFp n q) : letI := gfF hG; (0 : GFt n q).1 = 0 := by
  show 0 % 2 % 2 ^ n = 0
  rw [Nat.zero_mod]
theorem gf_1v {n q : Nat} (hG : GFp n q) : letI := gfF hG; (1 : GFt n q).1 = 1 := by
  show 1 % 2 % 2 ^ n = 1
  exact Nat.mod_eq_of_lt hG.one
theorem gf_z {n q : Nat} (hG : GFp n q) {a : GFt n q} (h : a.1 = 0) : letI := gfF hG; a = 0 := by
  refine GFt.ext ?_
  rw [h, gf_0v hG]
theorem gf_nz {n q : Nat} (hG : GFp n q) {a : GFt n q} (h : a.1 ≠ 0) : letI := gfF hG; a ≠ 0 := by
  intro e
  refine h ?_
  rw [e, gf_0v hG]
theorem gf_one {n q : Nat} (hG : GFp n q) {a : GFt n q} (h : a.1 = 1) : letI := gfF hG; a = 1 := by
  refine GFt.ext ?_
  rw [h, gf_1v hG]
theorem rp.un {n q : Nat} (hG : GFp n q) {R : Type} [Lean.Grind.CommRing R] {co : R → Nat → GFt n q} {C : GFt n q → R} {X : R} (P : @Pol (GFt n q) R (gfF hG) _ co C X) {F F' : R} {f : Nat → Nat} (h : rp co F f) (h' : rp co F' f) : F = F' :=
  letI := gfF hG
  P.ext (fun i => GFt.ext (by rw [h i, h' i]))
theorem rp.lt {n q : Nat} {R : Type} {co : R → Nat → GFt n q} {F : R} {f : Nat → Nat} (h : rp co F f) (i : Nat) : f i < 2 ^ n := by
  rw [← h i]
  exact (co F i).2
theorem rp.add {n q : Nat} (hG : GFp n q) {R : Type} [Lean.Grind.CommRing R] {co : R → Nat → GFt n q} {C : GFt n q → R} {X : R} (P : @Pol (GFt n q) R (gfF hG) _ co C X) {F H : R} {f h : Nat → Nat} (hf : rp co F f) (hh : rp co H h) : rp co (F + H) (fun i => f i ^^^ h i) := by
  letI := gfF hG
  intro i
  rw [P.add]
  show (co F i).1 ^^^ (co H i).1 = _
  rw [hf i, hh i]
theorem rp.C {n q : Nat} (hG : GFp n q) {R : Type} [Lean.Grind.CommRing R] {co : R → Nat → GFt n q} {C : GFt n q → R} {X : R} (P : @Pol (GFt n q) R (gfF hG) _ co C X) {c : GFt n q} {F : R} {f : Nat → Nat} (hf : rp co F f) : rp co (C c * F) (fun i => gm n q c.1 (f i)) := by
  letI := gfF hG
  intro i
  rw [P.Cm]
  show gm n q c.1 (co F i).1 = _
  rw [hf i]
theorem rp.X {n q : Nat} (hG : GFp n q) {R : Type} [Lean.Grind.CommRing R] {co : R → Nat → GFt n q} {C : GFt n q → R} {X : R} (P : @Pol (GFt n q) R (gfF hG) _ co C X) : rp co X gX := by
  letI := gfF hG
  intro i
  rw [P.X]
  unfold gX
  split
  · exact gf_1v hG
  · exact gf_0v hG
theorem rp.Xp {n q : Nat} (hG : GFp n q) {R : Type} [Lean.Grind.CommRing R] {co : R → Nat → GFt n q} {C : GFt n q → R} {X : R} (P : @Pol (GFt n q) R (gfF hG) _ co C X) {F : R} {f : Nat → Nat} (hf : rp co F f) (k : Nat) : rp co (X ^ k * F) (fun i => if i < k then 0 else f (i - k)) := by
  letI := gfF hG
  intro i
  rw [P.Xp]
  dsimp only
  split
  · exact gf_0v hG
  · exact hf _
theorem rp.z {n q : Nat} (hG : GFp n q) {R : Type} [Lean.Grind.CommRing R] {co : R → Nat → GFt n q} {C : GFt n q → R} {X : R} (P : @Pol (GFt n q) R (gfF hG) _ co C X) : rp co 0 (fun _ => 0) := by
  letI := gfF hG
  intro i
  rw [P.zero]
  exact gf_0v hG
theorem rp.c {n q : Nat} (hG : GFp n q) {R : Type} [Lean.Grind.CommRing R] {co : R → Nat → GFt n q} {C : GFt n q → R} {X : R} (P : @Pol (GFt n q) R (gfF hG) _ co C X) (c : GFt n q) : rp co (C c) (fun i => if i = 0 then c.1 else 0) := by
  letI := gfF hG
  intro i
  rw [P.C]
  dsimp only
  split
  · rfl
  · exact gf_0v hG
theorem rp.one {n q : Nat} (hG : GFp n q) {R : Type} [Lean.Grind.CommRing R] {co : R → Nat → GFt n q} {C : GFt n q → R} {X : R} (P : @Pol (GFt n q) R (gfF hG) _ co C X) : rp co 1 (fun i => if i = 0 then 1 else 0) := by
  letI := gfF hG
  intro i
  rw [← P.one, P.C]
  dsimp only
  split
  · exact gf_1v hG
  · exact gf_0v hG
theorem rp.of {n q : Nat} {R : Type} {co : R → Nat → GFt n q} {F : R} {f g : Nat → Nat} (hf : rp co F f) (h : ∀ i, f i = g i) : rp co F g := fun i => (hf i).trans (h i)
/-- there is one for each row that ends -/
theorem rp.mk {n q : Nat} (hG : GFp n q) {R : Type} [Lean.Grind.CommRing R] {co : R → Nat → GFt n q} {C : GFt n q → R} {X : R} (P : @Pol (GFt n q) R (gfF hG) _ co C X) : ∀ (N : Nat) (f : Nat → Nat), (∀ i, N ≤ i → f i = 0) → (∀ i, f i < 2 ^ n) → ∃ F, rp co F f
  | 0, f, h, _ => ⟨0, (rp.z hG P).of (fun i => (h i (by omega)).symm)⟩
  | N + 1, f, h, hl => by
    obtain ⟨F, hF⟩ := rp.mk hG P N (fun i => if i < N then f i else 0) (fun i hi => if_neg (by omega)) (fun i => by
      split
      · exact hl i
      · exact Nat.two_pow_pos n)
    refine ⟨F + X ^ N * C ⟨f N, hl N⟩, (hF.add hG P ((rp.c hG P _).Xp hG P N)).of (fun i => ?_)⟩
    dsimp only
    by_cases h1 : i < N
    · rw [if_pos h1, if_pos h1, Nat.xor_zero]
    · rw [if_neg h1, if_neg h1, Nat.zero_xor]
      by_cases h2 : i = N
      · rw [if_pos (by omega), h2]
      · rw [if_neg (by omega), h i (by omega)]
theorem rp.ex {n q : Nat} (hG : GFp n q) {R : Type} [Lean.Grind.CommRing R] {co : R → Nat → GFt n q} {C : GFt n q → R} {X : R} (P : @Pol (GFt n q) R (gfF hG) _ co C X) {N : Nat} {f : Nat → Nat} (h : pok n N f) : ∃ F, rp co F f := rp.mk hG P N f h.1 h.2
theorem rp_dl {n q : Nat} (hG : GFp n q) {R : Type} [Lean.Grind.CommRing R] {co : R → Nat → GFt n q} {C : GFt n q → R} {X : R} (P : @Pol (GFt n q) R (gfF hG) _ co C X) {F : R} {f : Nat → Nat} (hf : rp co F f) {N : Nat} : @dl _ _ (gfF hG) co F N ↔ ∀ i, N ≤ i → f i = 0 := by
  letI := gfF hG
  constructor
  · intro h i hi
    rw [← hf i, h i hi]
    exact gf_0v hG
  · intro h i hi
    refine gf_z hG ?_
    rw [hf i, h i hi]
theorem rp_dg {n q : Nat} (hG : GFp n q) {R : Type} [Lean.Grind.CommRing R] {co : R → Nat → GFt n q} {C : GFt n q → R} {X : R} (P : @Pol (GFt n q) R (gfF hG) _ co C X) {F : R} {f : Nat → Nat} (hf : rp co F f) {N : Nat} (h : pok n N f) (hN : N ≤ 200) (h0 : pd f ≠ 0) : @dg _ _ (gfF hG) co F (pd f - 1) := by
  letI := gfF hG
  refine ⟨(rp_dl hG P hf).2 (fun i hi => h.z hN i (by omega)), gf_nz hG ?_⟩
  rw [hf]
  exact pd_top h0
theorem rp_pd {n q : Nat} (hG : GFp n q) {R : Type} [Lean.Grind.CommRing R] {co : R → Nat → GFt n q} {C : GFt n q → R} {X : R} (P : @Pol (GFt n q) R (gfF hG) _ co C X) {F : R} {f : Nat → Nat} (hf : rp co F f) {N D : Nat} (h : pok n N f) (hN : N ≤ 200) (hd : @dg _ _ (gfF hG) co F D) : pd f = D + 1 := by
  letI := gfF hG
  have hD : D < 200 := dg.lt hd ((rp_dl hG P hf).2 (fun i hi => h.1 i (Nat.le_trans hN hi)))
  refine pd_eq ((rp_dl hG P hf).1 hd.1) (fun _ e => hd.2 (gf_z hG ?_)) (by omega)
  rw [hf]
  exact e
theorem rp_z' {n q : Nat} (hG : GFp n q) {R : Type} [Lean.Grind.CommRing R] {co : R → Nat → GFt n q} {C : GFt n q → R} {X : R} (P : @Pol (GFt n q) R (gfF hG) _ co C X) {F : R} {f : Nat → Nat} (hf : rp co F f) {N : Nat} (h : pok n N f) (hN : N ≤ 200) (h0 : pd f = 0) : F = 0 := by
  letI := gfF hG
  refine dl.z P ((rp_dl hG P hf).2 (fun i hi => h.z hN i (by omega)))
/-- a division's steps -/
theorem gdl_rp {n q : Nat} (hG : GFp n q) {R : Type} [Lean.Grind.CommRing R] {co : R → Nat → GFt n q} {C : GFt n q → R} {X : R} (P : @Pol (GFt n q) R (gfF hG) _ co C X) {H : R} {h : Nat → Nat} (hH : rp co H h) {low : Nat} (hz : ∀ i, low < i → h i = 0) (h0 : h low ≠ 0) : ∀ (r : Nat) (f : Nat → Nat) (F : R), (∀ i, f i < 2 ^ n) → rp co F (gcut f (low + r)) → ∃ Q S, rp co Q (fun i => if i < r then gdl n q h low (ginv n q (h low)) r f (i + low) else 0) ∧ rp co S (gcut (gdl n q h low (ginv n q (h low)) r f) low) ∧ F = Q * H + S
  | 0, f, F, hl, hF => ⟨0, F, (rp.z hG P).of (fun i => by rw [if_neg (by omega)]), hF, by grind⟩
  | r + 1, f, F, hl, hF => by
    letI := gfF hG
    have hlow := hH.lt low
    have hil : ginv n q (h low) < 2 ^ n := gpow_lt hG _ _
    have hk : gm n q (gm n q (f (low + r)) (ginv n q (h low))) (h low) = f (low + r) := by
      rw [hG.assoc (hl _) hil, hG.comm hil hlow, gfi_m hG hlow h0, hG.mul1 (hl _)]
    let c : GFt n q := ⟨gm n q (f (low + r)) (ginv n q (h low)), hG.lt (hl _)⟩
    have hc : c.1 = gm n q (f (low + r)) (ginv n q (h low)) := rfl
    have hF' : rp co (F + C c * (X ^ r * H)) (gcut (gds n q h low (ginv n q (h low)) f (low + r)) (low + r)) := by
      refine (hF.add hG P ((hH.Xp hG P r).C hG P)).of (fun i => ?_)
      unfold gcut
      by_cases h1 : i < low + r
      · rw [if_pos (by omega), if_pos h1]
        unfold gds gam
        by_cases h2 : i < r
        · rw [if_pos h2, if_neg (show ¬ i = low + r by omega), if_neg (show ¬ (low + r - low ≤ i ∧ i < low + r - low + low) by omega), gm_b0, Nat.xor_zero]
        · rw [if_neg h2, if_neg (show ¬ i = low + r by omega), if_pos (show low + r - low ≤ i ∧ i < low + r - low + low by omega), show low + r - low = r by omega, Nat.zero_add]
      · rw [if_neg h1]
        by_cases h2 : i = low + r
        · rw [if_pos (by omega), if_neg (by omega), h2, show low + r - r = low by omega, hc, hk, Nat.xor_self]
        · rw [if_neg (by omega), if_neg (by omega), hz (i - r) (by omega), gm_b0]
          rfl
    obtain ⟨Q, S, h1, h2, h3⟩ := gdl_rp hG P hH hz h0 r _ _ (gds_lt hG hl) hF'
    refine ⟨Q + X ^ r * C c, S, (h1.add hG P ((rp.c hG P c).Xp hG P r)).of (fun i => ?_), h2, ?_⟩
    · show _ = if i < r + 1 then gdl n q h low (ginv n q (h low)) r (gds n q h low (ginv n q (h low)) f (low + r)) (i + low) else 0
      by_cases h4 : i < r
      · rw [if_pos h4, if_pos h4, if_pos (by omega), Nat.xor_zero]
      · rw [if_neg h4, if_neg h4, Nat.zero_xor]
        by_cases h5 : i = r
        · rw [if_pos (by omega), if_pos (by omega), h5, gdl_up r (by omega)]
          unfold gds
          rw [if_pos (by omega), hc]
        · rw [if_neg (by omega), if_neg (by omega)]
    · have := P.two (C c * (X ^ r * H))
      grind
/-- quotient and rest -/
theorem grs_rp {n q : Nat} (hG : GFp n q) {R : Type} [Lean.Grind.CommRing R] {co : R → Nat → GFt n q} {C : GFt n q → R} {X : R} (P : @Pol (GFt n q) R (gfF hG) _ co C X) {N : Nat} (hN : N ≤ 200) {F H : R} {f h : Nat → Nat} (hF : rp co F f) (hH : rp co H h) (hf : pok n N f) (hh : pok n N h) (h0 : pd h ≠ 0) : ∃ Q S, rp co Q (gqu n q f h) ∧ rp co S (grs n q f h) ∧ F = Q * H + S ∧ @dl _ _ (gfF hG) co S (pd h - 1) := by
  letI := gfF hG
  have hp := hf.le hN
  obtain ⟨Q, S, h1, h2, h3⟩ := gdl_rp hG P hH (low := pd h - 1) (fun i hi => hh.z hN i (by omega)) (pd_top h0) (pd f - (pd h - 1)) f F hf.2 (hF.of (fun i => by
    unfold gcut
    split
    · rfl
    · exact hf.z hN i (by omega)))
  refine ⟨Q, S, h1.of (fun i => ?_), h2, h3, (rp_dl hG P h2).2 (fun i hi => if_neg (by omega))⟩
  unfold gqu
  split
  · rfl
  · rw [gdl_up _ (by omega)]
    exact (hf.z hN _ (by omega)).symm
/-- Euclid -/
theorem geu_rp {n q : Nat} (hG : GFp n q) {R : Type} [Lean.Grind.CommRing R] {co : R → Nat → GFt n q} {C : GFt n q → R} {X : R} (P : @Pol (GFt n q) R (gfF hG) _ co C X) {N : Nat} (hN : N ≤ 200) : ∀ (r : Nat) {F H : R} {f h : Nat → Nat}, rp co F f → rp co H h → pok n N f → pok n N h → pd h < r → ∃ D u v, rp co D (geu n q r f h) ∧ D = u * F + v * H ∧ pdv D F ∧ pdv D H
  | 0, _, _, _, _, _, _, _, _, h => absurd h (by omega)
  | r + 1, F, H, f, h, hF, hH, hf, hh, hr => by
    letI := gfF hG
    unfold geu
    by_cases h0 : pd h = 0
    · rw [if_pos h0]
      refine ⟨F, 1, 0, hF, by grind, pdv.rf F, ?_⟩
      rw [rp_z' hG P hH hh hN h0]
      exact pdv.z F
    · rw [if_neg h0]
      obtain ⟨Q, S, h1, h2, h3, h4⟩ := grs_rp hG P hN hF hH hf hh h0
      have h5 := grs_ok hG (h := h) hf
      have h6 := hh.le hN
      have h7 := grs_pd hG hf (h := h) (by omega) h0
      obtain ⟨D, u, v, h8, h9, h10, h11⟩ := geu_rp hG P hN r hH h2 hh (h5.mono (by omega)) (by omega)
      refine ⟨D, v, u + v * Q, h8, ?_, ?_, h10⟩
      · have h6 := P.two (v * Q * H)
        grind
      · rw [h3]
        exact (h10.mul Q).add h11
/-- by its leading coefficient -/
theorem gmon_rp {n q : Nat} (hG : GFp n q) {R : Type} [Lean.Grind.CommRing R] {co : R → Nat → GFt n q} {C : GFt n q → R} {X : R} (P : @Pol (GFt n q) R (gfF hG) _ co C X) {N : Nat} (hN : N ≤ 200) {F : R} {f : Nat → Nat} (hF : rp co F f) (hf : pok n N f) (h0 : pd f ≠ 0) : ∃ c : GFt n q, c.1 ≠ 0 ∧ rp co (C c * F) (gmon n q f) ∧ @dg _ _ (gfF hG) co (C c * F) (pd f - 1) ∧ (co (C c * F) (pd f - 1)).1 = 1 := by
  letI := gfF hG
  have ht := hf.2 (pd f - 1)
  have h1 : rp co (C (⟨ginv n q (f (pd f - 1)), gpow_lt hG _ _⟩ : GFt n q) * F) (gmon n q f) := (hF.C hG P).of (fun i => by
    unfold gmon gsc
    split
    · exact hG.comm (gpow_lt hG _ _) (hf.2 i)
    · rw [hf.z hN i (by omega), gm_b0])
  have h2 : (co (C (⟨ginv n q (f (pd f - 1)), gpow_lt hG _ _⟩ : GFt n q) * F) (pd f - 1)).1 = 1 := by
    rw [h1]
    unfold gmon gsc
    rw [if_pos (by omega), gfi_m hG ht (pd_top h0)]
  refine ⟨_, gpow_ne0 hG ht (pd_top h0) _, h1, ⟨(rp_dl hG P h1).2 (fun i hi => ?_), gf_nz hG ?_⟩, h2⟩
  · unfold gmon gsc
    rw [if_neg (by omega), hf.z hN i (by omega)]
  · rw [h2]
    omega
/-- a greatest divisor's mark: it divides both, is a sum of multiples, its leading coefficient is 1 -/
def isg {α R : Type} [Lean.Grind.Field α] [Lean.Grind.CommRing R] (co : R → Nat → α) (D F H : R) : Prop := pdv D F ∧ pdv D H ∧ (∃ u v, D = u * F + v * H) ∧ ∃ d, dg co D d ∧ co D d = 1
theorem ggcd_rp {n q : Nat} (hG : GFp n q) {R : Type} [Lean.Grind.CommRing R] {co : R → Nat → GFt n q} {C : GFt n q → R} {X : R} (P : @Pol (GFt n q) R (gfF hG) _ co C X) {N : Nat} (hN : N ≤ 200) {F H : R} {f h : Nat → Nat} (hF : rp co F f) (hH : rp co H h) (hf : pok n N f) (hh : pok n N h) (h0 : pd f ≠ 0 ∨ pd h ≠ 0) : ∃ D, rp co D (ggcd n q f h) ∧ @isg _ _ (gfF hG) _ co D F H := by
  letI := gfF hG
  have hp := hh.le hN
  obtain ⟨D, u, v, h1, h2, h3, h4⟩ := geu_rp hG P hN 258 hF hH hf hh (by omega)
  have h5 := geu_ok hG hN 258 hf hh
  obtain ⟨c, hc, h6, h7, h8⟩ := gmon_rp hG P hN h1 h5 (geu_ne0 hG hN 258 hf hh (by omega) h0)
  have hcv : C c * C (c⁻¹) = 1 := by
    rw [← P.Cmul, ← P.one]
    have : c ≠ 0 := gf_nz hG hc
    have e : c * c⁻¹ = 1 := by grind
    rw [e]
  have hd : pdv (C c * D) D := ⟨C (c⁻¹), by grind⟩
  exact ⟨C c * D, h6, hd.tr h3, hd.tr h4, ⟨C c * u, C c * v, by grind⟩, _, h7, gf_one hG h8⟩
