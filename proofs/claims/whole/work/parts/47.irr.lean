/-! parts that split no more -/
theorem perm_subG {β : Type} : ∀ (l l' : List β), l.Nodup → (∀ x ∈ l, x ∈ l') → l'.length ≤ l.length → l.Perm l'
  | [], l', _, _, hlen => by
    have : l' = [] := List.eq_nil_of_length_eq_zero (by simpa using hlen)
    rw [this]
  | x :: l, l', hn, hs, hlen => by
    haveI : DecidableEq β := fun a b => Classical.propDecidable _
    rw [List.nodup_cons] at hn
    have hx : x ∈ l' := hs x List.mem_cons_self
    have hp := List.perm_cons_erase hx
    refine List.Perm.trans ?_ hp.symm
    refine List.Perm.cons x (perm_subG l (l'.erase x) hn.2 (fun y hy => ?_) ?_)
    · have hne : y ≠ x := fun e => hn.1 (e ▸ hy)
      exact (List.mem_erase_of_ne hne).mpr (hs y (List.mem_cons_of_mem _ hy))
    · have := hp.length_eq
      simp only [List.length_cons] at this hlen
      omega
theorem nodup_mapG {β γ : Type} {f : β → γ} : ∀ (l : List β), l.Nodup → (∀ x ∈ l, ∀ y ∈ l, f x = f y → x = y) → (l.map f).Nodup
  | [], _, _ => List.nodup_nil
  | x :: l, hn, hf => by
    rw [List.nodup_cons] at hn
    rw [List.map_cons, List.nodup_cons]
    refine ⟨fun hm => ?_, nodup_mapG l hn.2 (fun a ha b hb => hf a (List.mem_cons_of_mem _ ha) b (List.mem_cons_of_mem _ hb))⟩
    obtain ⟨y, hy, he⟩ := List.mem_map.mp hm
    have := hf y (List.mem_cons_of_mem _ hy) x List.mem_cons_self he
    exact hn.1 (this ▸ hy)
/-- splits no more -/
def irr {α R : Type} [Lean.Grind.Field α] [Lean.Grind.CommRing R] (co : R → Nat → α) (H : R) (D : Nat) : Prop := dg co H D ∧ 1 ≤ D ∧ ∀ A B, H = A * B → dl co A 1 ∨ dl co B 1
theorem Pol.unit {α R : Type} [Lean.Grind.Field α] [Lean.Grind.CommRing R] {co : R → Nat → α} {C : α → R} {X : R} (P : Pol co C X) {c : R} (h : dl co c 1) (h0 : c ≠ 0) : ∃ c', c * c' = 1 := by
  have e := P.const h
  have n0 : co c 0 ≠ 0 := by
    intro e0
    rw [e0, P.C0] at e
    exact h0 e
  refine ⟨C ((co c 0)⁻¹), ?_⟩
  rw [e, ← P.Cmul, ← P.one, P.C, if_pos rfl]
  congr 1
  grind
theorem irr.prime {α R : Type} [Lean.Grind.Field α] [Lean.Grind.CommRing R] {co : R → Nat → α} {C : α → R} {X : R} (P : Pol co C X) {H A B : R} {D : Nat} (h : irr co H D) (hd : pdv H (A * B)) : pdv H A ∨ pdv H B := by
  obtain ⟨N, hN⟩ := P.fin A
  obtain ⟨d, u, v, h1, h2, h3⟩ := P.gcd N H A hN
  obtain ⟨e, he⟩ := h2
  rcases h.2.2 e d he with h4 | h4
  · left
    have e0 : e ≠ 0 := by
      intro e0
      refine h.1.ne0 P ?_
      rw [he, e0]
      grind
    obtain ⟨e', h5⟩ := P.unit h4 e0
    refine pdv.tr ⟨e', ?_⟩ h3
    grind
  · right
    have d0 : d ≠ 0 := by
      intro e0
      refine h.1.ne0 P ?_
      rw [he, e0]
      grind
    obtain ⟨d', h5⟩ := P.unit h4 d0
    obtain ⟨x, hx⟩ := hd
    exact ⟨d' * (u * B + v * x), by grind⟩
theorem irr.fac {α R : Type} [Lean.Grind.Field α] [Lean.Grind.CommRing R] {co : R → Nat → α} {C : α → R} {X : R} (P : Pol co C X) : ∀ (N : Nat) (F : R) (D : Nat), D < N → dg co F D → 1 ≤ D → ∃ H d, irr co H d ∧ pdv H F ∧ d ≤ D
  | 0, _, _, h, _, _ => absurd h (by omega)
  | N + 1, F, D, hN, hF, hD => by
    by_cases hi : irr co F D
    · exact ⟨F, D, hi, pdv.rf F, Nat.le_refl D⟩
    · have : ∃ A B, F = A * B ∧ ¬ dl co A 1 ∧ ¬ dl co B 1 := by
        refine Classical.byContradiction (fun hc => hi ⟨hF, hD, fun A B e => ?_⟩)
        by_cases hA : dl co A 1
        · exact Or.inl hA
        · by_cases hB : dl co B 1
          · exact Or.inr hB
          · exact absurd ⟨A, B, e, hA, hB⟩ hc
      obtain ⟨A, B, e, hA, hB⟩ := this
      have A0 : A ≠ 0 := fun e0 => hA (by rw [e0]; exact dl.of0 P 1)
      have B0 : B ≠ 0 := fun e0 => hB (by rw [e0]; exact dl.of0 P 1)
      obtain ⟨a, ha⟩ := dg.ex' P A0
      obtain ⟨b, hb⟩ := dg.ex' P B0
      have hab := dg.mm P ha hb
      rw [← e] at hab
      have hab := hab.un hF
      have ha1 : 1 ≤ a := by
        rcases Nat.lt_or_ge 0 a with h | h
        · exact h
        · exact absurd (ha.1.le (by omega)) hA
      have hb1 : 1 ≤ b := by
        rcases Nat.lt_or_ge 0 b with h | h
        · exact h
        · exact absurd (hb.1.le (by omega)) hB
      obtain ⟨H, d, h1, h2, h3⟩ := irr.fac P N A a (by omega) ha ha1
      exact ⟨H, d, h1, h2.tr ⟨B, by rw [e]; grind⟩, by omega⟩
/-- without a part of a degree below d, and of a degree below 2 d: it splits no more -/
theorem irr.of {α R : Type} [Lean.Grind.Field α] [Lean.Grind.CommRing R] {co : R → Nat → α} {C : α → R} {X : R} (P : Pol co C X) {F : R} {D d : Nat} (hF : dg co F D) (hD : 1 ≤ D) (hd : D < 2 * d) (hn : ∀ H e, irr co H e → pdv H F → d ≤ e) : irr co F D := by
  refine ⟨hF, hD, fun A B e => ?_⟩
  by_cases hA : dl co A 1
  · exact Or.inl hA
  · by_cases hB : dl co B 1
    · exact Or.inr hB
    · exfalso
      have A0 : A ≠ 0 := fun e0 => hA (by rw [e0]; exact dl.of0 P 1)
      have B0 : B ≠ 0 := fun e0 => hB (by rw [e0]; exact dl.of0 P 1)
      obtain ⟨a, ha⟩ := dg.ex' P A0
      obtain ⟨b, hb⟩ := dg.ex' P B0
      have hab := dg.mm P ha hb
      rw [← e] at hab
      have hab := hab.un hF
      have ha1 : 1 ≤ a := by
        rcases Nat.lt_or_ge 0 a with h | h
        · exact h
        · exact absurd (ha.1.le (by omega)) hA
      have hb1 : 1 ≤ b := by
        rcases Nat.lt_or_ge 0 b with h | h
        · exact h
        · exact absurd (hb.1.le (by omega)) hB
      obtain ⟨H, x, h1, h2, h3⟩ := irr.fac P (a + 1) A a (by omega) ha ha1
      obtain ⟨K, y, k1, k2, k3⟩ := irr.fac P (b + 1) B b (by omega) hb hb1
      have := hn H x h1 (h2.tr ⟨B, by rw [e]; grind⟩)
      have := hn K y k1 (k2.tr ⟨A, by rw [e]⟩)
      omega
/-- squares one after another -/
def sqi {R : Type} [Lean.Grind.CommRing R] (f : R) : Nat → R
  | 0 => f
  | k + 1 => sqi f k * sqi f k
theorem sqi_pow {R : Type} [Lean.Grind.CommRing R] (f : R) : ∀ k, sqi f k = f ^ (2 ^ k)
  | 0 => by
    show f = f ^ 1
    grind
  | k + 1 => by
    show sqi f k * sqi f k = _
    rw [sqi_pow f k, ← Lean.Grind.Semiring.pow_add, ← Nat.two_mul, Nat.pow_succ, Nat.mul_comm]
theorem sqi_add {R : Type} [Lean.Grind.CommRing R] (h2 : ∀ a : R, a + a = 0) (f g : R) : ∀ k, sqi (f + g) k = sqi f k + sqi g k
  | 0 => rfl
  | k + 1 => by
    show sqi (f + g) k * sqi (f + g) k = sqi f k * sqi f k + sqi g k * sqi g k
    rw [sqi_add h2 f g k]
    have := h2 (sqi f k * sqi g k)
    grind
theorem sqi_mul {R : Type} [Lean.Grind.CommRing R] (f g : R) : ∀ k, sqi (f * g) k = sqi f k * sqi g k
  | 0 => rfl
  | k + 1 => by
    show sqi (f * g) k * sqi (f * g) k = (sqi f k * sqi f k) * (sqi g k * sqi g k)
    rw [sqi_mul f g k]
    grind
theorem sqi_sqi {R : Type} [Lean.Grind.CommRing R] (f : R) (j : Nat) : ∀ k, sqi (sqi f j) k = sqi f (j + k)
  | 0 => rfl
  | k + 1 => by
    show sqi (sqi f j) k * sqi (sqi f j) k = sqi f (j + k) * sqi f (j + k)
    rw [sqi_sqi f j k]
theorem sqi_cong {R : Type} [Lean.Grind.CommRing R] (h2 : ∀ a : R, a + a = 0) {H f g : R} (h : pdv H (f + g)) : ∀ k, pdv H (sqi f k + sqi g k)
  | 0 => h
  | k + 1 => by
    obtain ⟨e, he⟩ := sqi_cong h2 h k
    refine ⟨e * (sqi f k + sqi g k), ?_⟩
    show sqi f k * sqi f k + sqi g k * sqi g k = _
    have := h2 (sqi f k * sqi g k)
    grind
/-- all of a degree below k -/
def alp {R : Type} [Lean.Grind.CommRing R] {α : Type} (C : α → R) (X : R) (E : List α) : Nat → List R
  | 0 => [0]
  | k + 1 => (alp C X E k).flatMap (fun f => E.map (fun c => f + C c * X ^ k))
theorem alp_len {R : Type} [Lean.Grind.CommRing R] {α : Type} (C : α → R) (X : R) (E : List α) : ∀ k, (alp C X E k).length = E.length ^ k
  | 0 => rfl
  | k + 1 => by
    show ((alp C X E k).flatMap (fun f => E.map (fun c => f + C c * X ^ k))).length = _
    have h : ∀ l : List R, (l.flatMap (fun f => E.map (fun c => f + C c * X ^ k))).length = l.length * E.length := by
      intro l
      induction l with
      | nil => rw [List.flatMap_nil, List.length_nil, Nat.zero_mul]
      | cons a l ih => rw [List.flatMap_cons, List.length_append, ih, List.length_map, List.length_cons, Nat.succ_mul, Nat.add_comm]
    rw [h, alp_len C X E k, Nat.pow_succ]
theorem co_CX {α R : Type} [Lean.Grind.Field α] [Lean.Grind.CommRing R] {co : R → Nat → α} {C : α → R} {X : R} (P : Pol co C X) (c : α) (k i : Nat) : co (C c * X ^ k) i = if i = k then c else 0 := by
  have e : C c * X ^ k = X ^ k * C c := by grind
  rw [e, P.Xp]
  by_cases h : i < k
  · rw [if_pos h, if_neg (by omega)]
  · rw [if_neg h, P.C]
    by_cases h2 : i = k
    · rw [if_pos h2, if_pos (by omega)]
    · rw [if_neg h2, if_neg (by omega)]
theorem alp_mem {α R : Type} [Lean.Grind.Field α] [Lean.Grind.CommRing R] {co : R → Nat → α} {C : α → R} {X : R} (P : Pol co C X) {E : List α} (hE : ∀ a, a ∈ E) : ∀ (k : Nat) (f : R), f ∈ alp C X E k ↔ dl co f k
  | 0, f => by
    show f ∈ [0] ↔ _
    rw [List.mem_singleton]
    constructor
    · intro e
      rw [e]
      exact dl.of0 P 0
    · exact fun h => h.z P
  | k + 1, f => by
    show f ∈ (alp C X E k).flatMap (fun f => E.map (fun c => f + C c * X ^ k)) ↔ _
    rw [List.mem_flatMap]
    constructor
    · rintro ⟨g, hg, hf⟩
      obtain ⟨c, _, e⟩ := List.mem_map.1 hf
      have hg := (alp_mem P hE k g).1 hg
      intro i hi
      rw [← e, P.add, co_CX P, hg i (by omega), if_neg (by omega)]
      grind
    · intro h
      refine ⟨f + C (co f k) * X ^ k, (alp_mem P hE k _).2 (fun i hi => ?_), List.mem_map.2 ⟨co f k, hE _, ?_⟩⟩
      · rw [P.add, co_CX P]
        by_cases h2 : i = k
        · rw [if_pos h2, h2, P.twoF]
        · rw [if_neg h2, h i (by omega)]
          grind
      · have := P.two (C (co f k) * X ^ k)
        grind
theorem alp_nd {α R : Type} [Lean.Grind.Field α] [Lean.Grind.CommRing R] {co : R → Nat → α} {C : α → R} {X : R} (P : Pol co C X) {E : List α} (hE : ∀ a, a ∈ E) (hn : E.Nodup) : ∀ k, (alp C X E k).Nodup
  | 0 => by
    show [0].Nodup
    simp
  | k + 1 => by
    show ((alp C X E k).flatMap (fun f => E.map (fun c => f + C c * X ^ k))).Nodup
    unfold List.Nodup
    rw [List.pairwise_flatMap]
    refine ⟨fun f hf => nodup_mapG E hn (fun a _ b _ e => ?_), (alp_nd P hE hn k).imp_of_mem (fun {f g} hf hg hne x hx y hy e => hne ?_)⟩
    · have := congrArg (fun h => co h k) e
      simp only [P.add, co_CX P, if_pos] at this
      grind
    · obtain ⟨a, _, ea⟩ := List.mem_map.1 hx
      obtain ⟨b, _, eb⟩ := List.mem_map.1 hy
      have hf' := (alp_mem P hE k f).1 hf
      have hg' := (alp_mem P hE k g).1 hg
      refine P.ext (fun i => ?_)
      rcases Nat.lt_or_ge i k with hi | hi
      · have := congrArg (fun h => co h i) (ea.trans (e.trans eb.symm))
        simp only [P.add, co_CX P] at this
        rw [if_neg (by omega), if_neg (by omega)] at this
        grind
      · rw [hf' i hi, hg' i hi]
/-- a product of all -/
def lpr {R : Type} [Lean.Grind.CommRing R] (l : List R) : R := l.foldr (· * ·) 1
theorem lpr_cons {R : Type} [Lean.Grind.CommRing R] (a : R) (l : List R) : lpr (a :: l) = a * lpr l := rfl
theorem lpr_perm {R : Type} [Lean.Grind.CommRing R] {l l' : List R} (h : l.Perm l') : lpr l = lpr l' := by
  induction h with
  | nil => rfl
  | cons x _ ih => rw [lpr_cons, lpr_cons, ih]
  | swap x y l => rw [lpr_cons, lpr_cons, lpr_cons, lpr_cons]; grind
  | trans _ _ h1 h2 => rw [h1, h2]
theorem lpr_cong {R : Type} [Lean.Grind.CommRing R] (h2 : ∀ a : R, a + a = 0) {H Y : R} (φ : R → R) : ∀ l : List R, (∀ f ∈ l, pdv H (φ f + Y * f)) → pdv H (lpr (l.map φ) + Y ^ l.length * lpr l)
  | [], _ => ⟨0, by
    show (1 : R) + Y ^ 0 * 1 = 0 * H
    have := h2 1
    grind⟩
  | f :: l, h => by
    obtain ⟨x, hx⟩ := lpr_cong h2 φ l (fun g hg => h g (List.mem_cons_of_mem _ hg))
    obtain ⟨y, hy⟩ := h f List.mem_cons_self
    rw [List.map_cons, lpr_cons, lpr_cons, List.length_cons]
    refine ⟨y * lpr (l.map φ) + Y * f * x, ?_⟩
    have := h2 (Y * f * lpr (l.map φ))
    have e : Y ^ (l.length + 1) = Y ^ l.length * Y := Lean.Grind.Semiring.pow_succ _ _
    rw [e]
    generalize Y ^ l.length = Z at *
    grind
theorem lpr_nd {α R : Type} [Lean.Grind.Field α] [Lean.Grind.CommRing R] {co : R → Nat → α} {C : α → R} {X : R} (P : Pol co C X) {H : R} {D : Nat} (h : irr co H D) : ∀ l : List R, (∀ f ∈ l, ¬ pdv H f) → ¬ pdv H (lpr l)
  | [], _, hd => by
    have h1 : dg co (1 : R) 0 := (PR_dg P []).1
    have := hd.dg P h.1 h1
    have := h.2.1
    omega
  | f :: l, hl, hd => by
    rcases h.prime P hd with h1 | h1
    · exact hl f List.mem_cons_self h1
    · exact lpr_nd P h l (fun g hg => hl g (List.mem_cons_of_mem _ hg)) h1
theorem ndv {α R : Type} [Lean.Grind.Field α] [Lean.Grind.CommRing R] {co : R → Nat → α} {C : α → R} {X : R} (P : Pol co C X) {H f : R} {D : Nat} (h : dg co H D) (hf : dl co f D) (h0 : f ≠ 0) : ¬ pdv H f := by
  intro hd
  obtain ⟨d, hd1, hd2⟩ := dg.ex P hf h0
  have := hd.dg P h hd2
  omega
/-- x to the size to the D is x, by what splits no more and has degree D -/
theorem irr.fermat {α R : Type} [Lean.Grind.Field α] [Lean.Grind.CommRing R] {co : R → Nat → α} {C : α → R} {X : R} (P : Pol co C X) {E : List α} (hE : ∀ a, a ∈ E) (hn : E.Nodup) {m : Nat} (hm : E.length = 2 ^ m) {H : R} {D : Nat} (h : irr co H D) : pdv H (sqi X (m * D) + X) := by
  haveI : DecidableEq R := fun a b => Classical.propDecidable _
  by_cases hX : pdv H X
  · rw [sqi_pow]
    have e : X ^ (2 ^ (m * D)) = X ^ (2 ^ (m * D) - 1) * X := by
      rw [← Lean.Grind.Semiring.pow_succ, Nat.sub_add_cancel (Nat.two_pow_pos _)]
    rw [e]
    exact (hX.mul _).add hX
  · have rest : ∀ f : R, ∃ r, dl co r D ∧ pdv H (r + X * f) := fun f => by
      obtain ⟨e, r, h1, h2⟩ := P.divx h.1 (X * f)
      refine ⟨r, h2, e, ?_⟩
      rw [h1]
      have := P.two r
      grind
    let φ : R → R := fun f => Classical.choose (rest f)
    have φ1 : ∀ f, dl co (φ f) D := fun f => (Classical.choose_spec (rest f)).1
    have φ2 : ∀ f, pdv H (φ f + X * f) := fun f => (Classical.choose_spec (rest f)).2
    let U := (alp C X E D).erase 0
    have hU : ∀ f, f ∈ U ↔ f ≠ 0 ∧ dl co f D := fun f => by
      show f ∈ (alp C X E D).erase 0 ↔ _
      rw [(alp_nd P hE hn D).mem_erase_iff, alp_mem P hE]
    have hUn : U.Nodup := (alp_nd P hE hn D).erase 0
    have hUl : U.length = 2 ^ (m * D) - 1 := by
      show ((alp C X E D).erase 0).length = _
      rw [List.length_erase_of_mem ((alp_mem P hE D 0).2 (dl.of0 P D)), alp_len, hm, ← Nat.pow_mul]
    have hφ0 : ∀ f ∈ U, φ f ≠ 0 := fun f hf e => by
      obtain ⟨h0, h1⟩ := (hU f).1 hf
      have h2 := φ2 f
      rw [e] at h2
      have e2 : (0 : R) + X * f = X * f := by grind
      rw [e2] at h2
      rcases h.prime P h2 with h3 | h3
      · exact hX h3
      · exact ndv P h.1 h1 h0 h3
    have hperm : (U.map φ).Perm U := by
      refine perm_subG _ _ (nodup_mapG U hUn (fun f hf g hg e => ?_)) (fun x hx => ?_) ?_
      · obtain ⟨_, hf1⟩ := (hU f).1 hf
        obtain ⟨_, hg1⟩ := (hU g).1 hg
        have h3 : pdv H (X * (f + g)) := by
          obtain ⟨x, hx⟩ := φ2 f
          obtain ⟨y, hy⟩ := φ2 g
          refine ⟨x + y, ?_⟩
          have := P.two (φ g)
          rw [e] at hx
          grind
        rcases h.prime P h3 with h4 | h4
        · exact absurd h4 hX
        · by_cases h5 : f + g = 0
          · have := P.two g
            grind
          · exact absurd h4 (ndv P h.1 (hf1.add P hg1) h5)
      · obtain ⟨f, hf, e⟩ := List.mem_map.1 hx
        rw [← e]
        exact (hU _).2 ⟨hφ0 f hf, φ1 f⟩
      · rw [List.length_map]
        exact Nat.le_refl _
    have h1 := lpr_cong P.two φ U (fun f _ => φ2 f)
    rw [lpr_perm hperm] at h1
    have h2 : pdv H ((X ^ U.length + 1) * lpr U) := by
      obtain ⟨x, hx⟩ := h1
      exact ⟨x, by grind⟩
    rcases h.prime P h2 with h3 | h3
    · rw [hUl] at h3
      obtain ⟨x, hx⟩ := h3
      refine ⟨X * x, ?_⟩
      rw [sqi_pow]
      have e : X ^ (2 ^ (m * D)) = X ^ (2 ^ (m * D) - 1) * X := by
        rw [← Lean.Grind.Semiring.pow_succ, Nat.sub_add_cancel (Nat.two_pow_pos _)]
      rw [e]
      generalize X ^ (2 ^ (m * D) - 1) = Z at *
      grind
    · exact absurd h3 (lpr_nd P h U (fun f hf => ndv P h.1 ((hU f).1 hf).2 ((hU f).1 hf).1))
/-- values and quotients of rows of coefficients, by Horner -/
def lev {R : Type} [Lean.Grind.CommRing R] (x : R) : List R → R
  | [] => 0
  | c :: l => c + x * lev x l
def lqo {R : Type} [Lean.Grind.CommRing R] (r : R) : List R → List R
  | [] => []
  | [_] => []
  | _ :: c :: l => lev r (c :: l) :: lqo r (c :: l)
theorem lqo_len {R : Type} [Lean.Grind.CommRing R] (r : R) : ∀ l : List R, (lqo r l).length = l.length - 1
  | [] => rfl
  | [_] => rfl
  | _ :: c :: l => by
    show (lqo r (c :: l)).length + 1 = _
    rw [lqo_len r (c :: l)]
    simp
theorem lqo_ev {R : Type} [Lean.Grind.CommRing R] (x r : R) : ∀ l : List R, lev x l = lev r l + (x - r) * lev x (lqo r l)
  | [] => by
    show (0 : R) = 0 + (x - r) * 0
    grind
  | [c] => by
    show c + x * 0 = c + r * 0 + (x - r) * 0
    grind
  | a :: c :: l => by
    have ih := lqo_ev x r (c :: l)
    show a + x * lev x (c :: l) = a + r * lev r (c :: l) + (x - r) * (lev r (c :: l) + x * lev x (lqo r (c :: l)))
    generalize lev x (c :: l) = A at *
    generalize lev r (c :: l) = B at *
    grind
theorem lqo_0 {R : Type} [Lean.Grind.CommRing R] {Z : R → Prop} (Z0 : Z 0) (Za : ∀ a b, Z a → Z b → Z (a + b)) (Zm : ∀ a b, Z b → Z (a * b)) (r : R) : ∀ l : List R, Z (lev r l) → (∀ c ∈ lqo r l, Z c) → ∀ c ∈ l, Z c
  | [], _, _ => fun c hc => absurd hc (by simp)
  | [a], h, _ => fun c hc => by
    rw [List.mem_singleton] at hc
    rw [hc]
    have e : lev r [a] = a := by
      show a + r * 0 = a
      grind
    rwa [e] at h
  | a :: b :: l, h, hq => by
    have h1 : Z (lev r (b :: l)) := hq _ (by show _ ∈ lev r (b :: l) :: lqo r (b :: l); exact List.mem_cons_self)
    have ih := lqo_0 Z0 Za Zm r (b :: l) h1 (fun c hc => hq c (by show _ ∈ lev r (b :: l) :: lqo r (b :: l); exact List.mem_cons_of_mem _ hc))
    intro c hc
    rcases List.mem_cons.1 hc with e | e
    · rw [e]
      have e2 : a = lev r (a :: b :: l) + (-r) * lev r (b :: l) := by
        show a = a + r * lev r (b :: l) + (-r) * lev r (b :: l)
        grind
      rw [e2]
      exact Za _ _ h (Zm _ _ h1)
    · exact ih c e
/-- as many roots as coefficients: there is nothing -/
theorem lev_few {R : Type} [Lean.Grind.CommRing R] {Z : R → Prop} (Z0 : Z 0) (Za : ∀ a b, Z a → Z b → Z (a + b)) (Zm : ∀ a b, Z b → Z (a * b)) (Zp : ∀ a b, Z (a * b) → Z a ∨ Z b) : ∀ (rs l : List R), rs.Pairwise (fun r s => ¬ Z (s - r)) → (∀ r ∈ rs, Z (lev r l)) → l.length ≤ rs.length → ∀ c ∈ l, Z c
  | [], l, _, _, hl => fun c hc => by
    have : l = [] := List.eq_nil_of_length_eq_zero (by simpa using hl)
    rw [this] at hc
    exact absurd hc (by simp)
  | r :: rs, l, hp, hz, hl => by
    obtain ⟨h1, h2⟩ := List.pairwise_cons.1 hp
    have hr := hz r List.mem_cons_self
    refine lqo_0 Z0 Za Zm r l hr (lev_few Z0 Za Zm Zp rs (lqo r l) h2 (fun s hs => ?_) ?_)
    · have e := lqo_ev s r l
      have h3 : Z ((s - r) * lev s (lqo r l)) := by
        have e2 : (s - r) * lev s (lqo r l) = lev s l + (-1) * lev r l := by grind
        rw [e2]
        exact Za _ _ (hz s (List.mem_cons_of_mem _ hs)) (Zm _ _ hr)
      rcases Zp _ _ h3 with h4 | h4
      · exact absurd h4 (h1 s hs)
      · exact h4
    · rw [lqo_len]
      simp only [List.length_cons] at hl
      omega
theorem lev_rep {R : Type} [Lean.Grind.CommRing R] (x : R) : ∀ k, lev x (List.replicate k 0 ++ [1]) = x ^ k
  | 0 => by
    show (1 : R) + x * 0 = x ^ 0
    grind
  | k + 1 => by
    rw [List.replicate_succ]
    show (0 : R) + x * lev x (List.replicate k 0 ++ [1]) = x ^ (k + 1)
    rw [lev_rep x k]
    grind
/-- and to no lower power of the size -/
theorem irr.low {α R : Type} [Lean.Grind.Field α] [Lean.Grind.CommRing R] {co : R → Nat → α} {C : α → R} {X : R} (P : Pol co C X) {E : List α} (hE : ∀ a, a ∈ E) (hn : E.Nodup) {m : Nat} (hm : E.length = 2 ^ m) (hm0 : 0 < m) (hF : ∀ c : α, sqi c m = c) {H : R} {D : Nat} (h : irr co H D) {d : Nat} (hd : 1 ≤ d) (hdD : d < D) : ¬ pdv H (sqi X (m * d) + X) := by
  intro hx
  have hFd : ∀ (c : α) (d : Nat), sqi c (m * d) = c := fun c d => by
    induction d with
    | zero => rfl
    | succ d ih => rw [Nat.mul_succ, ← sqi_sqi, ih, hF]
  have hCs : ∀ (c : α) (k : Nat), sqi (C c) k = C (sqi c k) := fun c k => by
    induction k with
    | zero => rfl
    | succ k ih =>
      show sqi (C c) k * sqi (C c) k = C (sqi c k * sqi c k)
      rw [ih, P.Cmul]
  have hXk : ∀ k : Nat, pdv H (sqi (X ^ k) (m * d) + X ^ k) := fun k => by
    induction k with
    | zero =>
      have : sqi (X ^ 0) (m * d) = 1 := by
        have e : X ^ 0 = (1 : R) := by grind
        rw [e, sqi_pow]
        have : ∀ j : Nat, (1 : R) ^ j = 1 := fun j => by
          induction j with
          | zero => grind
          | succ j ih => rw [Lean.Grind.Semiring.pow_succ, ih]; grind
        exact this _
      rw [this]
      have e : X ^ 0 = (1 : R) := by grind
      rw [e, P.two]
      exact pdv.z H
    | succ k ih =>
      rw [Lean.Grind.Semiring.pow_succ, sqi_mul]
      obtain ⟨a, ha⟩ := ih
      obtain ⟨b, hb⟩ := hx
      refine ⟨a * sqi X (m * d) + X ^ k * b, ?_⟩
      have := P.two (X ^ k * sqi X (m * d))
      generalize X ^ k = Z at *
      grind
  have hall : ∀ (k : Nat) (f : R), dl co f k → pdv H (sqi f (m * d) + f) := fun k => by
    induction k with
    | zero =>
      intro f hf
      rw [hf.z P]
      have : sqi (0 : R) (m * d) = 0 := by
        have : ∀ j : Nat, sqi (0 : R) j = 0 := fun j => by
          induction j with
          | zero => rfl
          | succ j ih =>
            show sqi (0 : R) j * sqi (0 : R) j = 0
            rw [ih]
            grind
        exact this _
      rw [this, P.two]
      exact pdv.z H
    | succ k ih =>
      intro f hf
      have h1 := ih (f + C (co f k) * X ^ k) (fun i hi => by
        rw [P.add, co_CX P]
        by_cases h2 : i = k
        · rw [if_pos h2, h2, P.twoF]
        · rw [if_neg h2, hf i (by omega)]
          grind)
      rw [sqi_add P.two, sqi_mul, hCs, hFd] at h1
      obtain ⟨a, ha⟩ := h1
      obtain ⟨b, hb⟩ := hXk k
      refine ⟨a + C (co f k) * b, ?_⟩
      have t1 := P.two (C (co f k) * X ^ k)
      have t2 := P.two (C (co f k) * sqi (X ^ k) (m * d))
      generalize sqi (X ^ k) (m * d) = Y at *
      generalize X ^ k = Z at *
      grind
  have hpw : 2 ≤ 2 ^ (m * d) := by
    have : 2 ^ 1 ≤ 2 ^ (m * d) := Nat.pow_le_pow_right (by omega) (Nat.mul_pos hm0 hd)
    omega
  have few := lev_few (Z := fun a => pdv H a) (pdv.z H) (fun a b ha hb => ha.add hb) (fun a b hb => hb.mul a) (fun a b hab => h.prime P hab) (alp C X E D) (0 :: 1 :: (List.replicate (2 ^ (m * d) - 2) 0 ++ [1])) ((alp_nd P hE hn D).imp_of_mem (fun {f g} hf hg hne hz => by
    have hf' := (alp_mem P hE D f).1 hf
    have hg' := (alp_mem P hE D g).1 hg
    have e : g - f = f + g := by
      have := P.two f
      grind
    rw [e] at hz
    refine ndv P h.1 (hf'.add P hg') (fun e0 => hne ?_) hz
    have := P.two g
    grind)) (fun f hf => by
    have hf' := (alp_mem P hE D f).1 hf
    have h1 := hall D f hf'
    have e : lev f (0 :: 1 :: (List.replicate (2 ^ (m * d) - 2) 0 ++ [1])) = sqi f (m * d) + f := by
      show (0 : R) + f * (1 + f * lev f (List.replicate (2 ^ (m * d) - 2) 0 ++ [1])) = _
      rw [lev_rep, sqi_pow]
      have e2 : f ^ (2 ^ (m * d)) = f ^ (2 ^ (m * d) - 2) * f * f := by
        rw [← Lean.Grind.Semiring.pow_succ, ← Lean.Grind.Semiring.pow_succ]
        congr 1
        omega
      rw [e2]
      generalize f ^ (2 ^ (m * d) - 2) = Z
      grind
    rw [e]
    exact h1) (by
    rw [alp_len, hm, ← Nat.pow_mul]
    have : 2 ^ (m * d) < 2 ^ (m * D) := Nat.pow_lt_pow_right (by omega) (Nat.mul_lt_mul_of_pos_left hdD hm0)
    simp only [List.length_cons, List.length_append, List.length_replicate, List.length_nil]
    omega)
  have h1 := few 1 (by simp)
  have := h1.dg P h.1 (PR_dg P []).1
  have := h.2.1
  simp at *
  omega
