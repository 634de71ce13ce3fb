/-! roots, products of x less a member, greatest divisors -/
/-- the value at a member, as what is left by x less it -/
def vl {R : Type} [Lean.Grind.CommRing R] {α : Type} (C : α → R) (X : R) (f : R) (r c : α) : Prop := ∃ e, f = e * (X + C r) + C c
theorem Pol.Xr {α R : Type} [Lean.Grind.Field α] [Lean.Grind.CommRing R] {co : R → Nat → α} {C : α → R} {X : R} (P : Pol co C X) (r : α) : dg co (X + C r) 1 := by
  refine ⟨fun i hi => ?_, ?_⟩
  · rw [P.add, P.X, P.C, if_neg (by omega), if_neg (by omega)]
    grind
  · rw [P.add, P.X, P.C, if_pos rfl, if_neg (by omega)]
    grind
theorem Pol.Cdl {α R : Type} [Lean.Grind.Field α] [Lean.Grind.CommRing R] {co : R → Nat → α} {C : α → R} {X : R} (P : Pol co C X) (a : α) : dl co (C a) 1 := fun i hi => by rw [P.C, if_neg (by omega)]
theorem Pol.Cinj {α R : Type} [Lean.Grind.Field α] [Lean.Grind.CommRing R] {co : R → Nat → α} {C : α → R} {X : R} (P : Pol co C X) {a b : α} (h : C a = C b) : a = b := by
  have := congrArg (fun f => co f 0) h
  simpa only [P.C, if_pos] using this
theorem Pol.const {α R : Type} [Lean.Grind.Field α] [Lean.Grind.CommRing R] {co : R → Nat → α} {C : α → R} {X : R} (P : Pol co C X) {f : R} (h : dl co f 1) : f = C (co f 0) := by
  refine P.ext (fun i => ?_)
  rw [P.C]
  split
  · next e => rw [e]
  · exact h i (by omega)
theorem vl.ex {α R : Type} [Lean.Grind.Field α] [Lean.Grind.CommRing R] {co : R → Nat → α} {C : α → R} {X : R} (P : Pol co C X) (f : R) (r : α) : ∃ c, vl C X f r c := by
  obtain ⟨e, s, h1, h2⟩ := P.divx (P.Xr r) f
  exact ⟨co s 0, e, by rw [← P.const h2]; exact h1⟩
theorem vl.un {α R : Type} [Lean.Grind.Field α] [Lean.Grind.CommRing R] {co : R → Nat → α} {C : α → R} {X : R} (P : Pol co C X) {f : R} {r c d : α} (h : vl C X f r c) (h' : vl C X f r d) : c = d := by
  obtain ⟨e, he⟩ := h
  obtain ⟨e', he'⟩ := h'
  exact P.Cinj (P.divu (P.Xr r) (P.Cdl c) (P.Cdl d) (he ▸ he')).2
theorem vl.add {α R : Type} [Lean.Grind.Field α] [Lean.Grind.CommRing R] {co : R → Nat → α} {C : α → R} {X : R} (P : Pol co C X) {f g : R} {r c d : α} (h : vl C X f r c) (h' : vl C X g r d) : vl C X (f + g) r (c + d) := by
  obtain ⟨e, he⟩ := h
  obtain ⟨e', he'⟩ := h'
  exact ⟨e + e', by rw [P.Cadd]; grind⟩
theorem vl.mul {α R : Type} [Lean.Grind.Field α] [Lean.Grind.CommRing R] {co : R → Nat → α} {C : α → R} {X : R} (P : Pol co C X) {f g : R} {r c d : α} (h : vl C X f r c) (h' : vl C X g r d) : vl C X (f * g) r (c * d) := by
  obtain ⟨e, he⟩ := h
  obtain ⟨e', he'⟩ := h'
  exact ⟨e * e' * (X + C r) + e * C d + e' * C c, by rw [P.Cmul]; grind⟩
theorem vl.C {α R : Type} [Lean.Grind.Field α] [Lean.Grind.CommRing R] {co : R → Nat → α} {C : α → R} {X : R} (P : Pol co C X) (r c : α) : vl C X (C c) r c := ⟨0, by grind⟩
theorem vl.X {α R : Type} [Lean.Grind.Field α] [Lean.Grind.CommRing R] {co : R → Nat → α} {C : α → R} {X : R} (P : Pol co C X) (r : α) : vl C X X r r := ⟨1, by have := P.two (C r); grind⟩
theorem vl.Xr {α R : Type} [Lean.Grind.Field α] [Lean.Grind.CommRing R] {co : R → Nat → α} {C : α → R} {X : R} (P : Pol co C X) (r s : α) : vl C X (X + C s) r (r + s) := (vl.X P r).add P (vl.C P r s)
theorem vl.z {α R : Type} [Lean.Grind.Field α] [Lean.Grind.CommRing R] {co : R → Nat → α} {C : α → R} {X : R} (P : Pol co C X) {f : R} {r : α} : vl C X f r 0 ↔ pdv (X + C r) f := by
  unfold vl pdv
  rw [P.C0]
  constructor
  · rintro ⟨e, h⟩
    exact ⟨e, by grind⟩
  · rintro ⟨e, h⟩
    exact ⟨e, by grind⟩
theorem vl.dv {α R : Type} [Lean.Grind.Field α] [Lean.Grind.CommRing R] {co : R → Nat → α} {C : α → R} {X : R} (P : Pol co C X) {f g : R} {r : α} (h : pdv f g) (h' : vl C X f r 0) : vl C X g r 0 := (vl.z P).2 (((vl.z P).1 h').tr h)
/-- a product has a root where a factor has one -/
theorem vl.or {α R : Type} [Lean.Grind.Field α] [Lean.Grind.CommRing R] {co : R → Nat → α} {C : α → R} {X : R} (P : Pol co C X) {f g : R} {r : α} (h : vl C X (f * g) r 0) : vl C X f r 0 ∨ vl C X g r 0 := by
  obtain ⟨c, hc⟩ := vl.ex P f r
  obtain ⟨d, hd⟩ := vl.ex P g r
  have := (hc.mul P hd).un P h
  by_cases c0 : c = 0
  · exact Or.inl (c0 ▸ hc)
  · by_cases d0 : d = 0
    · exact Or.inr (d0 ▸ hd)
    · exact absurd this (fld_ne0 c0 d0)
/-- the product of x less each member of a list -/
def PR {R : Type} [Lean.Grind.CommRing R] {α : Type} (C : α → R) (X : R) : List α → R
  | [] => 1
  | r :: l => (X + C r) * PR C X l
theorem PR_dg {α R : Type} [Lean.Grind.Field α] [Lean.Grind.CommRing R] {co : R → Nat → α} {C : α → R} {X : R} (P : Pol co C X) : ∀ l : List α, dg co (PR C X l) l.length ∧ co (PR C X l) l.length = 1
  | [] => by
    have h1 : co (1 : R) 0 = 1 := by rw [← P.one, P.C, if_pos rfl]
    refine ⟨⟨fun i hi => ?_, ?_⟩, h1⟩
    · show co (1 : R) i = 0
      rw [← P.one, P.C]
      exact if_neg (by have : 0 + 1 ≤ i := hi; omega)
    · show co (1 : R) 0 ≠ 0
      rw [h1]
      grind
  | r :: l => by
    obtain ⟨h1, h2⟩ := PR_dg P l
    have h3 := dg.mm P (P.Xr r) h1
    have h4 := (dg.mul P (P.Xr r).1 h1.1).2
    rw [Nat.add_comm] at h3 h4
    refine ⟨h3, ?_⟩
    show co ((X + C r) * PR C X l) (l.length + 1) = 1
    rw [h4, h2, P.add, P.X, P.C, if_pos rfl, if_neg (by omega)]
    grind
theorem PR_rt {α R : Type} [Lean.Grind.Field α] [Lean.Grind.CommRing R] {co : R → Nat → α} {C : α → R} {X : R} (P : Pol co C X) {r : α} : ∀ {l : List α}, vl C X (PR C X l) r 0 ↔ r ∈ l
  | [] => by
    constructor
    · intro h
      have e : vl C X (PR C X []) r 1 := by
        have := vl.C P r (1 : α)
        rw [P.one] at this
        exact this
      have e2 := h.un P e
      exact absurd e2 (Lean.Grind.Field.zero_ne_one)
    · intro h
      exact absurd h (by simp)
  | s :: l => by
    constructor
    · intro h
      rcases vl.or P h with h | h
      · have := (vl.Xr P r s).un P h
        have h2 := P.twoF s
        exact List.mem_cons.2 (Or.inl (by grind))
      · exact List.mem_cons.2 (Or.inr ((PR_rt P).1 h))
    · intro h
      rcases List.mem_cons.1 h with h | h
      · refine (vl.z P).2 ?_
        rw [h]
        exact ⟨PR C X l, by show (X + C s) * PR C X l = _; grind⟩
      · exact vl.dv P ⟨X + C s, rfl⟩ ((PR_rt P).2 h)
/-- what divides a product of different x less members is the product of x less its roots -/
theorem PR_dv {α R : Type} [Lean.Grind.Field α] [Lean.Grind.CommRing R] {co : R → Nat → α} {C : α → R} {X : R} (P : Pol co C X) (rt : R → α → Bool) (hrt : ∀ f r, rt f r = true ↔ vl C X f r 0) : ∀ (l : List α) (g : R) (D : Nat), l.Nodup → pdv g (PR C X l) → dg co g D → co g D = 1 → g = PR C X (l.filter (rt g))
  | [], g, D, _, hd, hg, h1 => by
    have e := hd.dg P hg (PR_dg P []).1
    have : D = 0 := by simpa using e
    rw [this] at hg h1
    have e2 := P.const hg.1
    rw [h1, P.one] at e2
    exact e2
  | r :: l, g, D, hn, hd, hg, h1 => by
    obtain ⟨hr, hl⟩ := List.nodup_cons.1 hn
    obtain ⟨e, he⟩ := hd
    have he' : (X + C r) * PR C X l = e * g := he
    by_cases h : rt g r = true
    · obtain ⟨g', hg'⟩ := (vl.z P).1 ((hrt g r).1 h)
      have h3 : PR C X l = e * g' := by
        refine P.can ((P.Xr r).ne0 P) ?_
        rw [hg'] at he'
        grind
      have g0 : g' ≠ 0 := by
        intro e0
        refine hg.ne0 P ?_
        rw [hg', e0]
        grind
      obtain ⟨D', hD'⟩ := dg.ex' P g0
      have h5 := dg.mm P hD' (P.Xr r)
      have h6 := (dg.mul P hD'.1 (P.Xr r).1).2
      rw [← hg'] at h5 h6
      have h7 := h5.un hg
      rw [← h7] at h1
      have h8 : co g' D' = 1 := by
        have : co (X + C r) 1 = 1 := by
          rw [P.add, P.X, P.C, if_pos rfl, if_neg (by omega)]
          grind
        rw [h1, this] at h6
        grind
      have ih := PR_dv P rt hrt l g' D' hl ⟨e, h3⟩ hD' h8
      have h9 : l.filter (rt g) = l.filter (rt g') := by
        refine List.filter_congr (fun s hs => ?_)
        rw [Bool.eq_iff_iff, hrt, hrt]
        constructor
        · intro hv
          rw [hg'] at hv
          rcases vl.or P hv with hv | hv
          · exact hv
          · exfalso
            have := (vl.Xr P s r).un P hv
            have h2 := P.twoF r
            exact hr (by rw [show r = s by grind]; exact hs)
        · intro hv
          exact vl.dv P ⟨X + C r, by rw [hg']; grind⟩ hv
      rw [List.filter_cons_of_pos h, h9]
      show g = (X + C r) * PR C X (l.filter (rt g'))
      rw [← ih, hg']
      grind
    · have h3 : vl C X (e * g) r 0 := by
        rw [← he']
        exact (vl.z P).2 ⟨PR C X l, by grind⟩
      rcases vl.or P h3 with h3 | h3
      · obtain ⟨e', he2⟩ := (vl.z P).1 h3
        have h4 : PR C X l = e' * g := by
          refine P.can ((P.Xr r).ne0 P) ?_
          rw [he2] at he'
          grind
        rw [List.filter_cons_of_neg h]
        exact PR_dv P rt hrt l g D hl ⟨e', h4⟩ hg h1
      · exact absurd ((hrt g r).2 h3) h
theorem PR_dvs {α R : Type} [Lean.Grind.Field α] [Lean.Grind.CommRing R] {co : R → Nat → α} {C : α → R} {X : R} (P : Pol co C X) : ∀ (l : List α) (f : R), l.Nodup → (∀ r ∈ l, vl C X f r 0) → pdv (PR C X l) f
  | [], f, _, _ => ⟨f, by show f = f * 1; grind⟩
  | r :: l, f, hn, h => by
    obtain ⟨hr, hl⟩ := List.nodup_cons.1 hn
    obtain ⟨e, he⟩ := (vl.z P).1 (h r (by simp))
    have ih := PR_dvs P l e hl (fun s hs => by
      have h1 := h s (by simp [hs])
      rw [he] at h1
      rcases vl.or P h1 with h2 | h2
      · exact h2
      · exfalso
        have := (vl.Xr P s r).un P h2
        have h3 := P.twoF r
        exact hr (by rw [show r = s by grind]; exact hs))
    obtain ⟨x, hx⟩ := ih
    exact ⟨x, by show f = x * ((X + C r) * PR C X l); rw [he, hx]; grind⟩
/-- a polynomial of a degree below the number of its roots is 0 -/
theorem PR_few {α R : Type} [Lean.Grind.Field α] [Lean.Grind.CommRing R] {co : R → Nat → α} {C : α → R} {X : R} (P : Pol co C X) {l : List α} {f : R} (hn : l.Nodup) (h : ∀ r ∈ l, vl C X f r 0) (hd : dl co f l.length) : f = 0 := by
  by_cases h0 : f = 0
  · exact h0
  · exfalso
    obtain ⟨D, hD, hg⟩ := dg.ex P hd h0
    have := (PR_dvs P l f hn h).dg P (PR_dg P l).1 hg
    omega
