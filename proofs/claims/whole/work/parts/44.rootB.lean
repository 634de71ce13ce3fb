/-! roots: linearised polynomials -/
theorem gfz_inj {n q a b : Nat} (ha : a < 2 ^ n) (hb : b < 2 ^ n) (h : (gfz a : GFt n q) = gfz b) : a = b := by
  have e : (gfz a : GFt n q).1 = (gfz b : GFt n q).1 := by rw [h]
  rwa [gfz_v ha, gfz_v hb] at e
theorem gfz_x {n q a b : Nat} (hG : GFp n q) (ha : a < 2 ^ n) (hb : b < 2 ^ n) : letI := gfF hG; (gfz (a ^^^ b) : GFt n q) = gfz a + gfz b := by
  refine GFt.ext ?_
  show _ = (gfz a : GFt n q).1 ^^^ (gfz b : GFt n q).1
  rw [gfz_v (xor_lt ha hb), gfz_v ha, gfz_v hb]
theorem gfz_m {n q a b : Nat} (hG : GFp n q) (ha : a < 2 ^ n) (hb : b < 2 ^ n) : letI := gfF hG; (gfz (gm n q a b) : GFt n q) = gfz a * gfz b := by
  refine GFt.ext ?_
  show _ = gm n q (gfz a : GFt n q).1 (gfz b : GFt n q).1
  rw [gfz_v (hG.lt ha), gfz_v ha, gfz_v hb]
theorem gfz_0 {n q : Nat} (hG : GFp n q) : letI := gfF hG; (gfz 0 : GFt n q) = 0 := gf_z hG (gfz_v (Nat.two_pow_pos n))
theorem gfz_1 {n q : Nat} (hG : GFp n q) : letI := gfF hG; (gfz 1 : GFt n q) = 1 := gf_one hG (gfz_v hG.one)
theorem gfz_e {n q : Nat} (a : GFt n q) : gfz a.1 = a := GFt.ext (gfz_v a.2)
theorem gfz_nd {n q : Nat} : ∀ l : List Nat, l.Nodup → (∀ x ∈ l, x < 2 ^ n) → (l.map (gfz (n := n) (q := q))).Nodup
  | [], _, _ => List.nodup_nil
  | a :: l, h, hl => by
    obtain ⟨h1, h2⟩ := List.nodup_cons.1 h
    rw [List.map_cons]
    refine List.nodup_cons.2 ⟨fun hm => ?_, gfz_nd l h2 (fun x hx => hl x (List.mem_cons_of_mem _ hx))⟩
    obtain ⟨b, hb, e⟩ := List.mem_map.1 hm
    rw [← gfz_inj (hl b (List.mem_cons_of_mem _ hb)) (hl a (by simp)) e] at h1
    exact h1 hb
/-- Horner's value -/
theorem gho_rp {n q : Nat} (hG : GFp n q) {R : Type} [Lean.Grind.CommRing R] {co : R → Nat → GFt n q} {C : GFt n q → R} {X : R} (P : @Pol (GFt n q) R (gfF hG) _ co C X) {f : Nat → Nat} (hf : ∀ i, f i < 2 ^ n) {v : Nat} (hv : v < 2 ^ n) : ∀ (j y : Nat) (F : R), y < 2 ^ n → rp co F (fun i => if i < j then f i else if i = j then y else 0) → @vl R _ _ C X F (gfz v) (gfz (gho n q f v j y))
  | 0, y, F, hy, hF => by
    letI := gfF hG
    have e : F = C (gfz y) := hF.un hG P ((rp.c hG P _).of (fun i => by rw [gfz_v hy, if_neg (show ¬ i < 0 by omega)]))
    rw [e]
    exact vl.C P _ _
  | j + 1, y, F, hy, hF => by
    letI := gfF hG
    have hy' : gm n q y v ^^^ f j < 2 ^ n := xor_lt (hG.lt hy) (hf j)
    obtain ⟨F', hF'⟩ := rp.mk hG P (j + 1) (fun i => if i < j then f i else if i = j then gm n q y v ^^^ f j else 0) (fun i hi => by rw [if_neg (by omega), if_neg (by omega)]) (fun i => by
      split
      · exact hf i
      · split
        · exact hy'
        · exact Nat.two_pow_pos n)
    obtain ⟨e, he⟩ := gho_rp hG P hf hv j _ F' hy' hF'
    have h1 : F = F' + C (gfz y) * (X ^ j * (X + C (gfz v))) := by
      refine hF.un hG P ((hF'.add hG P ((((rp.X hG P).add hG P (rp.c hG P (gfz v))).Xp hG P j).C hG P)).of (fun i => ?_))
      rw [gfz_v hy, gfz_v hv]
      unfold gX
      by_cases h1 : i < j
      · rw [if_pos h1, if_pos h1, if_pos (show i < j + 1 by omega), gm_b0, Nat.xor_zero]
      · by_cases h2 : i = j
        · subst h2
          rw [if_neg h1, if_neg h1, if_pos rfl, if_neg (show ¬ i - i = 1 by omega), if_pos (show i - i = 0 by omega), if_pos (show i < i + 1 by omega), Nat.zero_xor, Nat.xor_comm (gm n q y v), Nat.xor_assoc, Nat.xor_self, Nat.xor_zero]
        · by_cases h3 : i = j + 1
          · subst h3
            rw [if_neg h1, if_neg h1, if_neg h2, if_pos (show j + 1 - j = 1 by omega), if_neg (show ¬ j + 1 - j = 0 by omega), if_neg (show ¬ j + 1 < j + 1 by omega), if_pos rfl, Nat.xor_zero, hG.mul1 hy, Nat.zero_xor]
          · rw [if_neg h1, if_neg h1, if_neg h2, if_neg (show ¬ i - j = 1 by omega), if_neg (show ¬ i - j = 0 by omega), if_neg (show ¬ i < j + 1 by omega), if_neg h3, Nat.xor_self, gm_b0]
            rfl
    exact ⟨e + C (gfz y) * X ^ j, by rw [h1, he]; show _ = _ * _ + C (gfz (gho n q f v j (gm n q y v ^^^ f j))); grind⟩
theorem gvl_rp {n q : Nat} (hG : GFp n q) {R : Type} [Lean.Grind.CommRing R] {co : R → Nat → GFt n q} {C : GFt n q → R} {X : R} (P : @Pol (GFt n q) R (gfF hG) _ co C X) {N : Nat} (hN : N ≤ 200) {F : R} {f : Nat → Nat} (hF : rp co F f) (hf : pok n N f) {v : Nat} (hv : v < 2 ^ n) : @vl R _ _ C X F (gfz v) (gfz (gvl n q f v)) :=
  gho_rp hG P hf.2 hv (pd f) 0 F (Nat.two_pow_pos n) (hF.of (fun i => by
    by_cases h : i < pd f
    · rw [if_pos h]
    · rw [if_neg h, hf.z hN i (by omega)]
      split <;> rfl))
theorem gvl_lt {n q N : Nat} (hG : GFp n q) {f : Nat → Nat} (hf : pok n N f) (v : Nat) : gvl n q f v < 2 ^ n := gho_lt hG hf.2 _ (Nat.two_pow_pos n)
theorem gvl_0 {n q : Nat} (hG : GFp n q) {R : Type} [Lean.Grind.CommRing R] {co : R → Nat → GFt n q} {C : GFt n q → R} {X : R} (P : @Pol (GFt n q) R (gfF hG) _ co C X) {N : Nat} (hN : N ≤ 200) {F : R} {f : Nat → Nat} (hF : rp co F f) (hf : pok n N f) {v : Nat} (hv : v < 2 ^ n) : gvl n q f v = 0 ↔ @vl R _ _ C X F (gfz v) ((gfF hG).ofNat 0).1 := by
  letI := gfF hG
  have h := gvl_rp hG P hN hF hf hv
  constructor
  · intro e
    rw [e, gfz_0 hG] at h
    exact h
  · intro h'
    have := h.un P h'
    have h0 : (gfz (gvl n q f v) : GFt n q) = gfz 0 := by rw [this, gfz_0 hG]
    exact gfz_inj (gvl_lt hG hf v) (Nat.two_pow_pos n) h0
/-- a square has the squares of the coefficients -/
theorem gsq_rp {n q : Nat} (hG : GFp n q) {R : Type} [Lean.Grind.CommRing R] {co : R → Nat → GFt n q} {C : GFt n q → R} {X : R} (P : @Pol (GFt n q) R (gfF hG) _ co C X) : ∀ (N : Nat) (f : Nat → Nat) (F : R), (∀ i, N ≤ i → f i = 0) → rp co F f → rp co (F * F) (gsq n q f)
  | 0, f, F, hz, hF => by
    letI := gfF hG
    have e : F = 0 := hF.un hG P ((rp.z hG P).of (fun i => (hz i (by omega)).symm))
    have e2 : F * F = 0 := by rw [e]; grind
    rw [e2]
    refine (rp.z hG P).of (fun i => ?_)
    unfold gsq
    rw [hz (i / 2) (by omega), gm_0]
    split <;> rfl
  | N + 1, f, F, hz, hF => by
    letI := gfF hG
    have hl := hF.lt
    obtain ⟨F', hF'⟩ := rp.mk hG P N (fun i => if i < N then f i else 0) (fun i hi => if_neg (by omega)) (fun i => by
      split
      · exact hl i
      · exact Nat.two_pow_pos n)
    have ih := gsq_rp hG P N _ F' (fun i hi => if_neg (by omega)) hF'
    have h1 : F = F' + X ^ N * C (gfz (f N)) := by
      refine hF.un hG P ((hF'.add hG P ((rp.c hG P _).Xp hG P N)).of (fun i => ?_))
      rw [gfz_v (hl N)]
      by_cases h1 : i < N
      · rw [if_pos h1, if_pos h1, Nat.xor_zero]
      · rw [if_neg h1, if_neg h1, Nat.zero_xor]
        by_cases h2 : i = N
        · rw [if_pos (by omega), h2]
        · rw [if_neg (by omega), hz i (by omega)]
    have h2 : F * F = F' * F' + X ^ (N + N) * C (gfz (gm n q (f N) (f N))) := by
      have e : X ^ (N + N) = X ^ N * X ^ N := Lean.Grind.Semiring.pow_add _ _ _
      rw [gfz_m hG (hl N) (hl N), P.Cmul, h1, e]
      have := P.two (F' * (X ^ N * C (gfz (f N))))
      generalize X ^ N = Y at *
      grind
    rw [h2]
    refine (ih.add hG P ((rp.c hG P _).Xp hG P (N + N))).of (fun i => ?_)
    rw [gfz_v (hG.lt (hl N))]
    unfold gsq
    by_cases h3 : i % 2 = 0
    · rw [if_pos h3, if_pos h3]
      show gm n q (if i / 2 < N then f (i / 2) else 0) (if i / 2 < N then f (i / 2) else 0) ^^^ _ = _
      by_cases h4 : i / 2 < N
      · rw [if_pos h4, if_pos (show i < N + N by omega), Nat.xor_zero]
      · rw [if_neg h4, gm_0, if_neg (show ¬ i < N + N by omega), Nat.zero_xor]
        by_cases h5 : i / 2 = N
        · rw [if_pos (show i - (N + N) = 0 by omega), h5]
        · rw [if_neg (show ¬ i - (N + N) = 0 by omega), hz (i / 2) (by omega), gm_0]
    · rw [if_neg h3, if_neg h3, Nat.zero_xor]
      split
      · rfl
      · rw [if_neg (show ¬ i - (N + N) = 0 by omega)]
/-- the linearised polynomials -/
def LPp {R : Type} [Lean.Grind.CommRing R] {α : Type} (C : α → R) (X : R) (S : Nat → α) : Nat → R
  | 0 => X
  | j + 1 => LPp C X S j * LPp C X S j + C (S j) * LPp C X S j
theorem LPp_dg {α R : Type} [Lean.Grind.Field α] [Lean.Grind.CommRing R] {co : R → Nat → α} {C : α → R} {X : R} (P : Pol co C X) (S : Nat → α) : ∀ j, dg co (LPp C X S j) (2 ^ j) ∧ co (LPp C X S j) (2 ^ j) = 1
  | 0 => by
    refine ⟨⟨fun i hi => ?_, ?_⟩, ?_⟩
    · show co X i = 0
      rw [P.X, if_neg (by have : 1 + 1 ≤ i := hi; omega)]
    · show co X 1 ≠ 0
      rw [P.X, if_pos rfl]
      grind
    · show co X 1 = 1
      rw [P.X, if_pos rfl]
  | j + 1 => by
    obtain ⟨h1, h2⟩ := LPp_dg P S j
    have h3 := dg.mul P h1.1 h1.1
    have hp := Nat.two_pow_pos j
    have e : co (LPp C X S (j + 1)) (2 ^ (j + 1)) = 1 := by
      show co (LPp C X S j * LPp C X S j + C (S j) * LPp C X S j) _ = 1
      rw [P.add, P.Cm, show 2 ^ (j + 1) = 2 ^ j + 2 ^ j by rw [Nat.pow_succ]; omega, h3.2, h2, h1.1 (2 ^ j + 2 ^ j) (by omega)]
      grind
    refine ⟨⟨fun i hi => ?_, ?_⟩, e⟩
    · show co (LPp C X S j * LPp C X S j + C (S j) * LPp C X S j) i = 0
      rw [Nat.pow_succ] at hi
      rw [P.add, P.Cm, h3.1 i (by omega), h1.1 i (by omega)]
      grind
    · rw [e]
      grind
theorem LPp_vl {n q : Nat} (hG : GFp n q) {R : Type} [Lean.Grind.CommRing R] {co : R → Nat → GFt n q} {C : GFt n q → R} {X : R} (P : @Pol (GFt n q) R (gfF hG) _ co C X) {S : Nat → Nat} (hS : ∀ i, S i < 2 ^ n) {v : Nat} (hv : v < 2 ^ n) : ∀ j, @vl R _ _ C X (@LPp R _ _ C X (fun i => gfz (S i)) j) (gfz v) (gfz (gva n q S j v))
  | 0 => letI := gfF hG; vl.X P _
  | j + 1 => by
    letI := gfF hG
    have ih := LPp_vl hG P hS hv j
    have hl := gva_lt hG S hv j
    have h1 := (ih.mul P ih).add P ((vl.C P (gfz v) (gfz (S j))).mul P ih)
    have e : (gfz (gva n q S (j + 1) v) : GFt n q) = gfz (gva n q S j v) * gfz (gva n q S j v) + gfz (S j) * gfz (gva n q S j v) := by
      show gfz (gm n q (gva n q S j v) (gva n q S j v ^^^ S j)) = _
      rw [gfz_m hG hl (xor_lt hl (hS j)), gfz_x hG hl (hS j)]
      grind
    rw [e]
    exact h1
theorem gva_add {n q : Nat} (hG : GFp n q) {S : Nat → Nat} (hS : ∀ i, S i < 2 ^ n) {a b : Nat} (ha : a < 2 ^ n) (hb : b < 2 ^ n) : ∀ j, gva n q S j (a ^^^ b) = gva n q S j a ^^^ gva n q S j b
  | 0 => rfl
  | j + 1 => by
    letI := gfF hG
    have ih := gva_add hG hS ha hb j
    have hla := gva_lt hG S ha j
    have hlb := gva_lt hG S hb j
    refine gfz_inj (q := q) (gva_lt hG S (xor_lt ha hb) _) (xor_lt (gva_lt hG S ha _) (gva_lt hG S hb _)) ?_
    rw [gfz_x hG (gva_lt hG S ha _) (gva_lt hG S hb _)]
    show gfz (gm n q (gva n q S j (a ^^^ b)) (gva n q S j (a ^^^ b) ^^^ S j)) = gfz (gm n q (gva n q S j a) (gva n q S j a ^^^ S j)) + gfz (gm n q (gva n q S j b) (gva n q S j b ^^^ S j))
    rw [ih, gfz_m hG (xor_lt hla hlb) (xor_lt (xor_lt hla hlb) (hS j)), gfz_m hG hla (xor_lt hla (hS j)), gfz_m hG hlb (xor_lt hlb (hS j)), gfz_x hG (xor_lt hla hlb) (hS j), gfz_x hG hla hlb, gfz_x hG hla (hS j), gfz_x hG hlb (hS j)]
    have := gf_two hG (gfz (gva n q S j a) * gfz (gva n q S j b))
    grind
theorem gva_low {n q : Nat} (hG : GFp n q) {S : Nat → Nat} (hS : ∀ i, S i < 2 ^ n) (hS2 : ∀ j, j < n → S j = gva n q S j (2 ^ j)) : ∀ (j u : Nat), j ≤ n → u < 2 ^ j → gva n q S j u = 0
  | 0, u, _, h => by
    show u = 0
    have : u < 1 := h
    omega
  | j + 1, u, hj, h => by
    have hjn : 2 ^ j < 2 ^ n := Nat.pow_lt_pow_right (by omega) (by omega)
    show gm n q (gva n q S j u) (gva n q S j u ^^^ S j) = 0
    by_cases h1 : u < 2 ^ j
    · rw [gva_low hG hS hS2 j u (by omega) h1, gm_0]
    · rw [Nat.pow_succ] at h
      have e : u = 2 ^ j ^^^ (u - 2 ^ j) := by
        have := xor_add (k := j) (a := u - 2 ^ j) (b := 1) (by omega)
        rw [Nat.one_mul] at this
        rw [Nat.xor_comm, this]
        omega
      rw [e, gva_add hG hS hjn (by omega), gva_low hG hS hS2 j (u - 2 ^ j) (by omega) (by omega), Nat.xor_zero, ← hS2 j (by omega), Nat.xor_self, gm_b0]
/-- its roots are the members below 2 to the j -/
theorem gva_iff {n q : Nat} (hG : GFp n q) {R : Type} [Lean.Grind.CommRing R] {co : R → Nat → GFt n q} {C : GFt n q → R} {X : R} (P : @Pol (GFt n q) R (gfF hG) _ co C X) {S : Nat → Nat} (hS : ∀ i, S i < 2 ^ n) (hS2 : ∀ j, j < n → S j = gva n q S j (2 ^ j)) {j u : Nat} (hj : j ≤ n) (hu : u < 2 ^ n) : gva n q S j u = 0 ↔ u < 2 ^ j := by
  refine ⟨fun h => ?_, gva_low hG hS hS2 j u hj⟩
  apply Nat.lt_of_not_le
  intro hge
  letI := gfF hG
  have hjn : 2 ^ j ≤ 2 ^ n := Nat.pow_le_pow_right (by omega) hj
  have h0 := @PR_few _ _ _ _ _ _ _ P ((List.range (2 ^ j) ++ [u]).map gfz) (LPp C X (fun i => gfz (S i)) j) (gfz_nd _ (List.nodup_append.2 ⟨List.nodup_range, by simp, fun a ha b hb e => by
    rw [List.mem_range] at ha
    rw [List.mem_singleton] at hb
    omega⟩) (fun x hx => by
    rcases List.mem_append.1 hx with hx | hx
    · rw [List.mem_range] at hx
      omega
    · rw [List.mem_singleton] at hx
      omega)) (fun r hr => by
    obtain ⟨x, hx, e⟩ := List.mem_map.1 hr
    have hxn : x < 2 ^ n ∧ gva n q S j x = 0 := by
      rcases List.mem_append.1 hx with hx | hx
      · rw [List.mem_range] at hx
        exact ⟨by omega, gva_low hG hS hS2 j x hj hx⟩
      · rw [List.mem_singleton] at hx
        rw [hx]
        exact ⟨hu, h⟩
    have := LPp_vl hG P hS hxn.1 j
    rw [hxn.2, gfz_0 hG, e] at this
    exact this) (by
    have := (LPp_dg P (fun i => gfz (S i)) j).1.1
    refine this.le ?_
    simp)
  exact (LPp_dg P (fun i => gfz (S i)) j).1.ne0 P h0
