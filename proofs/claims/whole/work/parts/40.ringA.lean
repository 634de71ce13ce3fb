/-! polynomials over a ring: coefficient rows and their product -/
def cv {α : Type} [Lean.Grind.CommRing α] (f g : Nat → α) : Nat → α
  | 0 => f 0 * g 0
  | k + 1 => f 0 * g (k + 1) + cv (fun i => f (i + 1)) g k
theorem cv_addl {α : Type} [Lean.Grind.CommRing α] (h : Nat → α) : ∀ (k : Nat) (f g : Nat → α), cv (fun i => f i + g i) h k = cv f h k + cv g h k
  | 0, f, g => by simp only [cv]; grind
  | k + 1, f, g => by simp only [cv, cv_addl h k (fun i => f (i + 1)) (fun i => g (i + 1))]; grind
theorem cv_addr {α : Type} [Lean.Grind.CommRing α] (g h : Nat → α) : ∀ (k : Nat) (f : Nat → α), cv f (fun i => g i + h i) k = cv f g k + cv f h k
  | 0, f => by simp only [cv]; grind
  | k + 1, f => by simp only [cv, cv_addr g h k (fun i => f (i + 1))]; grind
theorem cv_scl {α : Type} [Lean.Grind.CommRing α] (h : Nat → α) (c : α) : ∀ (k : Nat) (f : Nat → α), cv (fun i => c * f i) h k = c * cv f h k
  | 0, f => by simp only [cv]; grind
  | k + 1, f => by simp only [cv, cv_scl h c k (fun i => f (i + 1))]; grind
theorem cv_r {α : Type} [Lean.Grind.CommRing α] : ∀ (k : Nat) (f g : Nat → α), cv f g (k + 1) = f (k + 1) * g 0 + cv f (fun i => g (i + 1)) k
  | 0, f, g => by simp only [cv]; grind
  | k + 1, f, g => by
    rw [cv, cv_r k (fun i => f (i + 1)) g, cv]
    grind
theorem cv_comm {α : Type} [Lean.Grind.CommRing α] : ∀ (k : Nat) (f g : Nat → α), cv f g k = cv g f k
  | 0, f, g => by simp only [cv]; grind
  | k + 1, f, g => by
    rw [cv_r, cv, cv_comm k]
    grind
theorem cv_assoc {α : Type} [Lean.Grind.CommRing α] (g h : Nat → α) : ∀ (k : Nat) (f : Nat → α), cv (cv f g) h k = cv f (cv g h) k
  | 0, f => by simp only [cv]; grind
  | k + 1, f => by
    rw [cv, cv]
    have e : (fun i => cv f g (i + 1)) = fun i => f 0 * g (i + 1) + cv (fun i => f (i + 1)) g i := by
      funext i
      rw [cv]
    rw [e, cv_addl h k (fun i => f 0 * g (i + 1)) (cv (fun i => f (i + 1)) g), cv_scl, cv_assoc g h k, cv, cv]
    grind
theorem cv_z {α : Type} [Lean.Grind.CommRing α] (g : Nat → α) : ∀ (k : Nat) (f : Nat → α), (∀ i, i ≤ k → f i = 0) → cv f g k = 0
  | 0, f, h => by rw [cv, h 0 (by omega)]; grind
  | k + 1, f, h => by
    rw [cv, h 0 (by omega), cv_z g k _ (fun i hi => h (i + 1) (by omega))]
    grind
theorem cv_C {α : Type} [Lean.Grind.CommRing α] (g f : Nat → α) (h : ∀ i, 0 < i → f i = 0) : ∀ k, cv f g k = f 0 * g k
  | 0 => rfl
  | k + 1 => by
    rw [cv, cv_z g k _ (fun i _ => h (i + 1) (by omega))]
    grind
/-- beyond both degrees there is nothing; at their sum the product of the leading ones -/
theorem cv_hi {α : Type} [Lean.Grind.CommRing α] (g : Nat → α) (M : Nat) (hg : ∀ i, M < i → g i = 0) : ∀ (N : Nat) (f : Nat → α), (∀ i, N < i → f i = 0) → (∀ k, N + M < k → cv f g k = 0) ∧ cv f g (N + M) = f N * g M
  | 0, f, hf => by
    refine ⟨fun k hk => ?_, ?_⟩
    · rw [cv_C g f hf, hg k (by omega)]
      grind
    · rw [cv_C g f hf, Nat.zero_add]
  | N + 1, f, hf => by
    have ih := cv_hi g M hg N (fun i => f (i + 1)) (fun i hi => hf (i + 1) (by omega))
    refine ⟨fun k hk => ?_, ?_⟩
    · rcases k with _ | k
      · omega
      · rw [cv, hg (k + 1) (by omega), ih.1 k (by omega)]
        grind
    · rw [show N + 1 + M = (N + M) + 1 by omega, cv, hg (N + M + 1) (by omega), ih.2]
      grind
theorem cv_x {α : Type} [Lean.Grind.CommRing α] (g f : Nat → α) (h0 : f 0 = 0) (h1 : f 1 = 1) (h : ∀ i, 1 < i → f i = 0) (k : Nat) : cv f g (k + 1) = g k := by
  rw [cv, h0, cv_C g _ (fun i hi => h (i + 1) (by omega)), h1]
  grind
/-- what a ring of polynomials over a field is: coefficients, constants, x -/
def Pol {α R : Type} [Lean.Grind.Field α] [Lean.Grind.CommRing R] (co : R → Nat → α) (C : α → R) (X : R) : Prop :=
  (∀ f g i, co (f + g) i = co f i + co g i) ∧ (∀ f g i, co (f * g) i = cv (co f) (co g) i) ∧ (∀ f g, (∀ i, co f i = co g i) → f = g) ∧ (∀ f, ∃ N, ∀ i, N ≤ i → co f i = 0) ∧ (∀ a i, co (C a) i = if i = 0 then a else 0) ∧ (∀ i, co X i = if i = 1 then 1 else 0) ∧ (∀ a : R, a + a = 0) ∧ (∀ a : α, a + a = 0)
section POL
theorem Pol.add {α R : Type} [Lean.Grind.Field α] [Lean.Grind.CommRing R] {co : R → Nat → α} {C : α → R} {X : R} (P : Pol co C X) (f g : R) (i : Nat) : co (f + g) i = co f i + co g i := P.1 f g i
theorem Pol.mul {α R : Type} [Lean.Grind.Field α] [Lean.Grind.CommRing R] {co : R → Nat → α} {C : α → R} {X : R} (P : Pol co C X) (f g : R) (i : Nat) : co (f * g) i = cv (co f) (co g) i := P.2.1 f g i
theorem Pol.ext {α R : Type} [Lean.Grind.Field α] [Lean.Grind.CommRing R] {co : R → Nat → α} {C : α → R} {X : R} (P : Pol co C X) {f g : R} (h : ∀ i, co f i = co g i) : f = g := P.2.2.1 f g h
theorem Pol.fin {α R : Type} [Lean.Grind.Field α] [Lean.Grind.CommRing R] {co : R → Nat → α} {C : α → R} {X : R} (P : Pol co C X) (f : R) : ∃ N, ∀ i, N ≤ i → co f i = 0 := P.2.2.2.1 f
theorem Pol.C {α R : Type} [Lean.Grind.Field α] [Lean.Grind.CommRing R] {co : R → Nat → α} {C : α → R} {X : R} (P : Pol co C X) (a : α) (i : Nat) : co (C a) i = if i = 0 then a else 0 := P.2.2.2.2.1 a i
theorem Pol.X {α R : Type} [Lean.Grind.Field α] [Lean.Grind.CommRing R] {co : R → Nat → α} {C : α → R} {X : R} (P : Pol co C X) (i : Nat) : co X i = if i = 1 then 1 else 0 := P.2.2.2.2.2.1 i
theorem Pol.two {α R : Type} [Lean.Grind.Field α] [Lean.Grind.CommRing R] {co : R → Nat → α} {C : α → R} {X : R} (P : Pol co C X) (a : R) : a + a = 0 := P.2.2.2.2.2.2.1 a
theorem Pol.twoF {α R : Type} [Lean.Grind.Field α] [Lean.Grind.CommRing R] {co : R → Nat → α} {C : α → R} {X : R} (P : Pol co C X) (a : α) : a + a = 0 := P.2.2.2.2.2.2.2 a
theorem Pol.zero {α R : Type} [Lean.Grind.Field α] [Lean.Grind.CommRing R] {co : R → Nat → α} {C : α → R} {X : R} (P : Pol co C X) (i : Nat) : co 0 i = 0 := by
  have h := P.add 0 0 i
  have e : (0 : R) + 0 = 0 := by grind
  rw [e] at h
  grind
theorem Pol.C0 {α R : Type} [Lean.Grind.Field α] [Lean.Grind.CommRing R] {co : R → Nat → α} {C : α → R} {X : R} (P : Pol co C X) : C 0 = 0 := by
  refine P.ext (fun i => ?_)
  rw [P.C, P.zero]
  split <;> rfl
theorem Pol.Cm {α R : Type} [Lean.Grind.Field α] [Lean.Grind.CommRing R] {co : R → Nat → α} {C : α → R} {X : R} (P : Pol co C X) (a : α) (f : R) (i : Nat) : co (C a * f) i = a * co f i := by
  rw [P.mul, cv_C (co f) (co (C a)) (fun i hi => by rw [P.C, if_neg (by omega)]), P.C, if_pos rfl]
theorem Pol.Xm {α R : Type} [Lean.Grind.Field α] [Lean.Grind.CommRing R] {co : R → Nat → α} {C : α → R} {X : R} (P : Pol co C X) (f : R) (i : Nat) : co (X * f) i = if i = 0 then 0 else co f (i - 1) := by
  rw [P.mul]
  rcases i with _ | i
  · rw [cv, P.X, if_neg (by omega), if_pos rfl]
    grind
  · rw [cv_x (co f) (co X) (by rw [P.X, if_neg (by omega)]) (by rw [P.X, if_pos rfl]) (fun i hi => by rw [P.X, if_neg (by omega)]), if_neg (by omega)]
    rfl
theorem Pol.one {α R : Type} [Lean.Grind.Field α] [Lean.Grind.CommRing R] {co : R → Nat → α} {C : α → R} {X : R} (P : Pol co C X) : C 1 = 1 := by
  have h : C 1 * (1 : R) = 1 := P.ext (fun i => by rw [P.Cm]; grind)
  grind
theorem Pol.Cadd {α R : Type} [Lean.Grind.Field α] [Lean.Grind.CommRing R] {co : R → Nat → α} {C : α → R} {X : R} (P : Pol co C X) (a b : α) : C (a + b) = C a + C b := by
  refine P.ext (fun i => ?_)
  rw [P.add, P.C, P.C, P.C]
  split <;> grind
theorem Pol.Cmul {α R : Type} [Lean.Grind.Field α] [Lean.Grind.CommRing R] {co : R → Nat → α} {C : α → R} {X : R} (P : Pol co C X) (a b : α) : C (a * b) = C a * C b := by
  refine P.ext (fun i => ?_)
  rw [P.Cm, P.C, P.C]
  split <;> grind
/-- of a degree below N -/
def dl {α R : Type} [Lean.Grind.Field α] (co : R → Nat → α) (f : R) (N : Nat) : Prop := ∀ i, N ≤ i → co f i = 0
/-- of degree D -/
def dg {α R : Type} [Lean.Grind.Field α] (co : R → Nat → α) (f : R) (D : Nat) : Prop := dl co f (D + 1) ∧ co f D ≠ 0
theorem dl.le {α R : Type} [Lean.Grind.Field α] {co : R → Nat → α} {f : R} {N M : Nat} (h : dl co f N) (hN : N ≤ M) : dl co f M := fun i hi => h i (by omega)
theorem dl.add {α R : Type} [Lean.Grind.Field α] [Lean.Grind.CommRing R] {co : R → Nat → α} {C : α → R} {X : R} (P : Pol co C X) {f g : R} {N : Nat} (hf : dl co f N) (hg : dl co g N) : dl co (f + g) N := fun i hi => by
  rw [P.add, hf i hi, hg i hi]
  grind
theorem dl.z {α R : Type} [Lean.Grind.Field α] [Lean.Grind.CommRing R] {co : R → Nat → α} {C : α → R} {X : R} (P : Pol co C X) {f : R} (hf : dl co f 0) : f = 0 := P.ext (fun i => by rw [hf i (by omega), P.zero])
theorem dl.of0 {α R : Type} [Lean.Grind.Field α] [Lean.Grind.CommRing R] {co : R → Nat → α} {C : α → R} {X : R} (P : Pol co C X) (N : Nat) : dl co (0 : R) N := fun i _ => P.zero i
theorem dg.mul {α R : Type} [Lean.Grind.Field α] [Lean.Grind.CommRing R] {co : R → Nat → α} {C : α → R} {X : R} (P : Pol co C X) {f g : R} {N M : Nat} (hf : dl co f (N + 1)) (hg : dl co g (M + 1)) : dl co (f * g) (N + M + 1) ∧ co (f * g) (N + M) = co f N * co g M := by
  have h := cv_hi (co g) M (fun i hi => hg i (by omega)) N (co f) (fun i hi => hf i (by omega))
  exact ⟨fun i hi => by rw [P.mul, h.1 i (by omega)], by rw [P.mul, h.2]⟩
theorem dg.ex {α R : Type} [Lean.Grind.Field α] [Lean.Grind.CommRing R] {co : R → Nat → α} {C : α → R} {X : R} (P : Pol co C X) {f : R} : ∀ {N : Nat}, dl co f N → f ≠ 0 → ∃ D, D < N ∧ dg co f D
  | 0, h, h0 => absurd (h.z P) h0
  | N + 1, h, h0 => by
    by_cases e : co f N = 0
    · obtain ⟨D, hD, hd⟩ := dg.ex P (N := N) (fun i hi => by
        rcases Nat.lt_or_ge N i with hlt | hge
        · exact h i (by omega)
        · rw [show i = N by omega, e]) h0
      exact ⟨D, by omega, hd⟩
    · exact ⟨N, by omega, h, e⟩
theorem dg.ex' {α R : Type} [Lean.Grind.Field α] [Lean.Grind.CommRing R] {co : R → Nat → α} {C : α → R} {X : R} (P : Pol co C X) {f : R} (h0 : f ≠ 0) : ∃ D, dg co f D := by
  obtain ⟨N, hN⟩ := P.fin f
  obtain ⟨D, _, h⟩ := dg.ex P (N := N) hN h0
  exact ⟨D, h⟩
theorem dg.ne0 {α R : Type} [Lean.Grind.Field α] [Lean.Grind.CommRing R] {co : R → Nat → α} {C : α → R} {X : R} (P : Pol co C X) {f : R} {D : Nat} (h : dg co f D) : f ≠ 0 := by
  intro e
  refine h.2 ?_
  rw [e, P.zero]
theorem fld_ne0 {α : Type} [Lean.Grind.Field α] {a b : α} (ha : a ≠ 0) (hb : b ≠ 0) : a * b ≠ 0 := by
  intro h
  grind
theorem dg.mm {α R : Type} [Lean.Grind.Field α] [Lean.Grind.CommRing R] {co : R → Nat → α} {C : α → R} {X : R} (P : Pol co C X) {f g : R} {N M : Nat} (hf : dg co f N) (hg : dg co g M) : dg co (f * g) (N + M) := by
  obtain ⟨h1, h2⟩ := dg.mul P hf.1 hg.1
  refine ⟨h1, ?_⟩
  rw [h2]
  exact fld_ne0 hf.2 hg.2
theorem dg.un {α R : Type} [Lean.Grind.Field α] {co : R → Nat → α} {f : R} {N M : Nat} (hf : dg co f N) (hg : dg co f M) : N = M := by
  rcases Nat.lt_trichotomy N M with h | h | h
  · exact absurd (hf.1 M (by omega)) hg.2
  · exact h
  · exact absurd (hg.1 N (by omega)) hf.2
theorem dg.lt {α R : Type} [Lean.Grind.Field α] {co : R → Nat → α} {f : R} {N M : Nat} (hf : dg co f N) (hg : dl co f M) : N < M := by
  rcases Nat.lt_or_ge N M with h | h
  · exact h
  · exact absurd (hg N h) hf.2
theorem Pol.dom {α R : Type} [Lean.Grind.Field α] [Lean.Grind.CommRing R] {co : R → Nat → α} {C : α → R} {X : R} (P : Pol co C X) {f g : R} (h : f * g = 0) : f = 0 ∨ g = 0 := by
  by_cases hf : f = 0
  · exact Or.inl hf
  · by_cases hg : g = 0
    · exact Or.inr hg
    · obtain ⟨N, hN⟩ := dg.ex' P hf
      obtain ⟨M, hM⟩ := dg.ex' P hg
      exact absurd h ((dg.mm P hN hM).ne0 P)
theorem Pol.can {α R : Type} [Lean.Grind.Field α] [Lean.Grind.CommRing R] {co : R → Nat → α} {C : α → R} {X : R} (P : Pol co C X) {f g h : R} (hh : h ≠ 0) (e : f * h = g * h) : f = g := by
  have e1 : (f - g) * h = 0 := by grind
  rcases P.dom e1 with e2 | e2
  · grind
  · exact absurd e2 hh
/-- powers of x -/
theorem Pol.Xp {α R : Type} [Lean.Grind.Field α] [Lean.Grind.CommRing R] {co : R → Nat → α} {C : α → R} {X : R} (P : Pol co C X) (f : R) : ∀ (k i : Nat), co (X ^ k * f) i = if i < k then 0 else co f (i - k)
  | 0, i => by
    rw [if_neg (by omega)]
    have e : X ^ 0 * f = f := by grind
    rw [e]
    rfl
  | k + 1, i => by
    have e : X ^ (k + 1) * f = X * (X ^ k * f) := by grind
    rw [e, P.Xm, P.Xp f k]
    by_cases h : i = 0
    · rw [if_pos h, if_pos (by omega)]
    · rw [if_neg h]
      by_cases h1 : i < k + 1
      · rw [if_pos (by omega), if_pos h1]
      · rw [if_neg (by omega), if_neg h1, show i - 1 - k = i - (k + 1) by omega]
/-- division -/
theorem Pol.div {α R : Type} [Lean.Grind.Field α] [Lean.Grind.CommRing R] {co : R → Nat → α} {C : α → R} {X : R} (P : Pol co C X) {h : R} {D : Nat} (hh : dg co h D) : ∀ (N : Nat) (f : R), dl co f N → ∃ q r, f = q * h + r ∧ dl co r D
  | 0, f, hf => ⟨0, f, by grind, hf.le (by omega)⟩
  | N + 1, f, hf => by
    rcases Nat.lt_or_ge N D with hD | hD
    · exact ⟨0, f, by grind, hf.le (by omega)⟩
    · have e : dl co (f + C (co f N / co h D) * (X ^ (N - D) * h)) N := by
        intro i hi
        rw [P.add, P.Cm, P.Xp, if_neg (by omega)]
        rcases Nat.lt_or_ge N i with h1 | h1
        · rw [hf i (by omega), hh.1 (i - (N - D)) (by omega)]
          grind
        · rw [show i = N by omega, show N - (N - D) = D by omega]
          have := hh.2
          have h2 := P.twoF (co f N)
          grind
      obtain ⟨q, r, h1, h2⟩ := P.div hh N _ e
      refine ⟨q + C (co f N / co h D) * X ^ (N - D), r, ?_, h2⟩
      have h3 := P.two (C (co f N / co h D) * (X ^ (N - D) * h))
      grind
theorem Pol.divx {α R : Type} [Lean.Grind.Field α] [Lean.Grind.CommRing R] {co : R → Nat → α} {C : α → R} {X : R} (P : Pol co C X) {h : R} {D : Nat} (hh : dg co h D) (f : R) : ∃ q r, f = q * h + r ∧ dl co r D := by
  obtain ⟨N, hN⟩ := P.fin f
  exact P.div hh N f hN
theorem Pol.divu {α R : Type} [Lean.Grind.Field α] [Lean.Grind.CommRing R] {co : R → Nat → α} {C : α → R} {X : R} (P : Pol co C X) {h : R} {D : Nat} (hh : dg co h D) {q r q' r' : R} (hr : dl co r D) (hr' : dl co r' D) (e : q * h + r = q' * h + r') : q = q' ∧ r = r' := by
  by_cases hq : q - q' = 0
  · exact ⟨by grind, by grind⟩
  · exfalso
    obtain ⟨M, hM⟩ := dg.ex' P hq
    have h1 := dg.mm P hM hh
    have h2 : (q - q') * h = r + r' := by
      have := P.two r
      grind
    rw [h2] at h1
    have := h1.lt (hr.add P hr')
    omega
/-- divides -/
def pdv {R : Type} [Lean.Grind.CommRing R] (h f : R) : Prop := ∃ e, f = e * h
theorem pdv.add {R : Type} [Lean.Grind.CommRing R] {h f g : R} (a : pdv h f) (b : pdv h g) : pdv h (f + g) := by
  obtain ⟨x, hx⟩ := a
  obtain ⟨y, hy⟩ := b
  exact ⟨x + y, by grind⟩
theorem pdv.mul {R : Type} [Lean.Grind.CommRing R] {h f : R} (a : pdv h f) (g : R) : pdv h (g * f) := by
  obtain ⟨x, hx⟩ := a
  exact ⟨g * x, by grind⟩
theorem pdv.tr {R : Type} [Lean.Grind.CommRing R] {h f g : R} (a : pdv h f) (b : pdv f g) : pdv h g := by
  obtain ⟨x, hx⟩ := a
  obtain ⟨y, hy⟩ := b
  exact ⟨y * x, by grind⟩
theorem pdv.rf {R : Type} [Lean.Grind.CommRing R] (h : R) : pdv h h := ⟨1, by grind⟩
theorem pdv.z {R : Type} [Lean.Grind.CommRing R] (h : R) : pdv h 0 := ⟨0, by grind⟩
theorem pdv.dg {α R : Type} [Lean.Grind.Field α] [Lean.Grind.CommRing R] {co : R → Nat → α} {C : α → R} {X : R} (P : Pol co C X) {h f : R} {N M : Nat} (a : pdv h f) (hh : dg co h N) (hf : dg co f M) : N ≤ M := by
  obtain ⟨x, hx⟩ := a
  have x0 : x ≠ 0 := by
    intro e
    refine hf.ne0 P ?_
    rw [hx, e]
    grind
  obtain ⟨K, hK⟩ := dg.ex' P x0
  have := dg.mm P hK hh
  rw [← hx] at this
  have := this.un hf
  omega
/-- a greatest divisor: it divides both, and is a sum of multiples -/
theorem Pol.gcd {α R : Type} [Lean.Grind.Field α] [Lean.Grind.CommRing R] {co : R → Nat → α} {C : α → R} {X : R} (P : Pol co C X) : ∀ (N : Nat) (f g : R), dl co g N → ∃ d u v, d = u * f + v * g ∧ pdv d f ∧ pdv d g
  | 0, f, g, hg => ⟨f, 1, 0, by grind, pdv.rf f, by rw [hg.z P]; exact pdv.z f⟩
  | N + 1, f, g, hg => by
    by_cases h0 : g = 0
    · exact ⟨f, 1, 0, by grind, pdv.rf f, by rw [h0]; exact pdv.z f⟩
    · obtain ⟨D, hD, hd⟩ := dg.ex P hg h0
      obtain ⟨q, r, h1, h2⟩ := P.divx hd f
      obtain ⟨d, u, v, h3, h4, h5⟩ := P.gcd N g r (h2.le (by omega))
      refine ⟨d, v, u + v * q, ?_, ?_, h4⟩
      · have h6 := P.two (v * q * g)
        grind
      · rw [h1]
        exact (h4.mul q).add h5
end POL
