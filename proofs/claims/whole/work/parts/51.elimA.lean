/-! elimination keeps the minors -/
theorem su_pick {α : Type} [Lean.Grind.CommRing α] {h s i : Nat} (hs : s < h) (hi : i < h) (a y : α) (f : Nat → α) : su h (fun k => ((if k = s then a else 0) + (if k = i then y else 0)) * f k) = a * f s + y * f i := by
  have e : (fun k => ((if k = s then a else 0) + (if k = i then y else 0)) * f k) = fun k => (if k = s then a else 0) * f k + (if k = i then y else 0) * f k := by
    funext k
    grind
  rw [e, su_add, su_one h hs (fun k _ hk => by rw [if_neg hk]; grind), su_one h hi (fun k _ hk => by rw [if_neg hk]; grind), if_pos rfl, if_pos rfl]
/-- a step: row i goes to place rk, is made 1 at column j, and taken from all others -/
def est {α : Type} [Lean.Grind.Field α] (wd h j rk i : Nat) (W W' : Nat → Nat → α) : Prop := ∀ a b, a < h → b < wd → W' a b = if a = rk then W i b * (W i j)⁻¹ else (if a = i then W rk b else W a b) + (if a = i then W rk j else W a j) * (W i b * (W i j)⁻¹)
theorem est.fw {α : Type} [Lean.Grind.Field α] {wd h j rk i : Nat} {W W' : Nat → Nat → α} (e : est wd h j rk i W W') (hr : rk < h) (hi : i < h) : ∀ a, a < h → ∃ x : Nat → α, ∀ b, b < wd → W' a b = su h (fun k => x k * W k b) := by
  intro a ha
  by_cases h1 : a = rk
  · refine ⟨fun k => (if k = i then (W i j)⁻¹ else 0) + (if k = i then 0 else 0), fun b hb => ?_⟩
    rw [e a b ha hb, if_pos h1, su_pick hi hi]
    grind
  · by_cases h2 : a = i
    · refine ⟨fun k => (if k = rk then 1 else 0) + (if k = i then W rk j * (W i j)⁻¹ else 0), fun b hb => ?_⟩
      rw [e a b ha hb, if_neg h1, if_pos h2, if_pos h2, su_pick hr hi]
      grind
    · refine ⟨fun k => (if k = a then 1 else 0) + (if k = i then W a j * (W i j)⁻¹ else 0), fun b hb => ?_⟩
      rw [e a b ha hb, if_neg h1, if_neg h2, if_neg h2, su_pick ha hi]
      grind
theorem est.bw {α : Type} [Lean.Grind.Field α] (t2 : ∀ a : α, a + a = 0) {wd h j rk i : Nat} {W W' : Nat → Nat → α} (e : est wd h j rk i W W') (hr : rk < h) (hi : i < h) (hp : W i j ≠ 0) : ∀ a, a < h → ∃ x : Nat → α, ∀ b, b < wd → W a b = su h (fun k => x k * W' k b) := by
  intro a ha
  have er : ∀ b, b < wd → W' rk b = W i b * (W i j)⁻¹ := fun b hb => by rw [e rk b hr hb, if_pos rfl]
  by_cases h1 : a = i
  · refine ⟨fun k => (if k = rk then W i j else 0) + (if k = rk then 0 else 0), fun b hb => ?_⟩
    rw [su_pick hr hr, er b hb, h1]
    grind
  · by_cases h2 : a = rk
    · refine ⟨fun k => (if k = i then 1 else 0) + (if k = rk then W rk j else 0), fun b hb => ?_⟩
      rw [su_pick hi hr, er b hb, e i b hi hb, if_neg (fun x => h1 (by rw [h2, x])), if_pos rfl, if_pos rfl, h2]
      have := t2 (W rk j * (W i b * (W i j)⁻¹))
      grind
    · refine ⟨fun k => (if k = a then 1 else 0) + (if k = rk then W a j else 0), fun b hb => ?_⟩
      rw [su_pick ha hr, er b hb, e a b ha hb, if_neg h2, if_neg h1, if_neg h1]
      have := t2 (W a j * (W i b * (W i j)⁻¹))
      grind
/-- the product of all rows -/
theorem est.det {α : Type} [Lean.Grind.Field α] (t2 : ∀ a : α, a + a = 0) {wd h j rk i c : Nat} {W W' : Nat → Nat → α} (e : est wd h j rk i W W') (hr : rk < h) (hi : i < h) (hp : W i j ≠ 0) (hc : c ≤ wd) (S : Nat) : W i j * wl c W' (List.range h) w0 S = wl c W (List.range h) w0 S := by
  -- the rows exchanged
  have hσ : wl c W (List.range h) w0 = wl c (fun a => if a = rk then W i else if a = i then W rk else W a) (List.range h) w0 := by
    have hm : ∀ (l : List Nat) (w : Nat → α), wl c (fun a => W (if a = rk then i else if a = i then rk else a)) l w = wl c W (l.map (fun a => if a = rk then i else if a = i then rk else a)) w := fun l w => by
      induction l with
      | nil => rfl
      | cons a l ih => rw [wl_cons, List.map_cons, wl_cons, ih]
    have hp : ((List.range h).map (fun a => if a = rk then i else if a = i then rk else a)).Perm (List.range h) := by
      refine perm_subG _ _ (nodup_mapG _ List.nodup_range (fun x hx y hy e => ?_)) (fun x hx => ?_) (by rw [List.length_map]; exact Nat.le_refl _)
      · by_cases x1 : x = rk
        · rw [if_pos x1] at e
          by_cases y1 : y = rk
          · omega
          · rw [if_neg y1] at e
            by_cases y2 : y = i
            · rw [if_pos y2] at e
              omega
            · rw [if_neg y2] at e
              omega
        · rw [if_neg x1] at e
          by_cases x2 : x = i
          · rw [if_pos x2] at e
            by_cases y1 : y = rk
            · rw [if_pos y1] at e
              omega
            · rw [if_neg y1] at e
              by_cases y2 : y = i
              · omega
              · rw [if_neg y2] at e
                omega
          · rw [if_neg x2] at e
            by_cases y1 : y = rk
            · rw [if_pos y1] at e
              omega
            · rw [if_neg y1] at e
              by_cases y2 : y = i
              · rw [if_pos y2] at e
                omega
              · rw [if_neg y2] at e
                exact e
      · obtain ⟨y, hy, ey⟩ := List.mem_map.1 hx
        rw [List.mem_range] at hy ⊢
        rw [← ey]
        split
        · exact hi
        · split
          · exact hr
          · exact hy
    rw [← wl_perm c W hp, ← hm]
    refine wl_cg c w0 _ (fun a _ b _ => ?_)
    by_cases x1 : a = rk
    · rw [if_pos x1, if_pos x1]
    · rw [if_neg x1, if_neg x1]
      by_cases x2 : a = i
      · rw [if_pos x2, if_pos x2]
      · rw [if_neg x2, if_neg x2]
  have hrm : rk ∈ List.range h := List.mem_range.2 hr
  have hpe := List.perm_cons_erase hrm
  have hne : ∀ a ∈ (List.range h).erase rk, a ≠ rk ∧ a < h := fun a ha => by
    obtain ⟨x, y⟩ := (List.nodup_range.mem_erase_iff).1 ha
    exact ⟨x, List.mem_range.1 y⟩
  rw [hσ, wl_perm c (fun a => if a = rk then W i else if a = i then W rk else W a) hpe, wl_perm c W' hpe, wl_cons, wl_cons, wl_in, wl_in]
  have hP : wg c (W' rk) w0 = fun T => (W i j)⁻¹ * wg c (W i) w0 T := by
    funext T
    rw [← wg_scl]
    refine wg_cg c (fun b hb => ?_) _ _
    rw [e rk b hr (by omega), if_pos rfl]
    grind
  have key : ∀ l : List Nat, (∀ a ∈ l, a ≠ rk ∧ a < h) → wl c W' l (wg c (W' rk) w0) = wl c (fun a => if a = rk then W i else if a = i then W rk else W a) l (wg c (W' rk) w0) := by
    intro l
    induction l with
    | nil => intro _; rfl
    | cons a l ih =>
      intro hl
      obtain ⟨a1, a2⟩ := hl a List.mem_cons_self
      rw [wl_cons, wl_cons, ih (fun x hx => hl x (List.mem_cons_of_mem _ hx))]
      have e1 : ∀ T, wg c (W' a) (wl c (fun a => if a = rk then W i else if a = i then W rk else W a) l (wg c (W' rk) w0)) T = wg c (fun b => (if a = i then W rk b else W a b) + (if a = i then W rk j else W a j) * W' rk b) (wl c (fun a => if a = rk then W i else if a = i then W rk else W a) l (wg c (W' rk) w0)) T := fun T => by
        refine wg_cg c (fun b hb => ?_) _ _
        rw [e a b a2 (by omega), if_neg a1, e rk b hr (by omega), if_pos rfl]
      funext T
      rw [e1, wg_lin, wl_in c _ (W' rk)]
      have e2 : wg c (W' rk) (wg c (W' rk) w0) = fun _ => (0 : α) := funext (fun T => wg_self t2 c _ _ T)
      rw [e2, wl_0]
      have e3 : (fun b => if a = i then W rk b else W a b) = (if a = rk then W i else if a = i then W rk else W a) := by
        rw [if_neg a1]
        funext b
        split <;> rfl
      rw [e3]
      grind
  rw [key _ hne, hP]
  have hl0 : (fun T => (W i j)⁻¹ * wg c (W i) w0 T) = fun T => (fun _ => (0 : α)) T + (W i j)⁻¹ * wg c (W i) w0 T := by
    funext T
    grind
  rw [hl0, wl_lin, wl_0]
  have e5 : wg c (if rk = rk then W i else if rk = i then W rk else W rk) w0 = wg c (W i) w0 := by rw [if_pos rfl]
  rw [e5]
  grind
/-- what W has and what it came from -/
def eiv {α : Type} [Lean.Grind.Field α] (h wd c j : Nat) (A W : Nat → Nat → α) (rk : Nat) (pp : α) (pv : Nat → Nat) : Prop :=
  rk ≤ h ∧ rk ≤ j ∧ (∀ r, r < rk → pv r < j ∧ ∀ a, a < h → W a (pv r) = if a = r then 1 else 0) ∧ (∀ r s, r < s → s < rk → pv r < pv s) ∧ (∀ a, rk ≤ a → a < h → ∀ b, b < j → W a b = 0) ∧ (∀ k, nul c h k A ↔ nul c h k W) ∧ (∀ S, pp * wl c W (List.range h) w0 S = wl c A (List.range h) w0 S) ∧ (c + h ≤ wd → ∀ B : Nat → Nat → α, (∀ a, a < h → ∀ b, b < c → A a b = su h (fun k => A a (c + k) * B k b)) → ∀ a, a < h → ∀ b, b < c → W a b = su h (fun k => W a (c + k) * B k b))
theorem eiv.no {α : Type} [Lean.Grind.Field α] {h wd c j : Nat} {A W : Nat → Nat → α} {rk : Nat} {pp : α} {pv : Nat → Nat} (H : eiv h wd c j A W rk pp pv) (hz : ∀ a, rk ≤ a → a < h → W a j = 0) : eiv h wd c (j + 1) A W rk pp pv := by
  obtain ⟨h1, h2, h3, h4, h5, h6, h7, h8⟩ := H
  refine ⟨h1, by omega, fun r hr => ⟨by have := (h3 r hr).1; omega, (h3 r hr).2⟩, h4, fun a ha hah b hb => ?_, h6, h7, h8⟩
  by_cases e : b = j
  · rw [e]
    exact hz a ha hah
  · exact h5 a ha hah b (by omega)
theorem eiv.st {α : Type} [Lean.Grind.Field α] (t2 : ∀ a : α, a + a = 0) {h wd c j i : Nat} {A W W' : Nat → Nat → α} {rk : Nat} {pp : α} {pv : Nat → Nat} (H : eiv h wd c j A W rk pp pv) (hi : i < h) (hri : rk ≤ i) (hj : j < c) (hc : c ≤ wd) (hp : W i j ≠ 0) (e : est wd h j rk i W W') : eiv h wd c (j + 1) A W' (rk + 1) (pp * W i j) (fun r => if r = rk then j else pv r) := by
  obtain ⟨h1, h2, h3, h4, h5, h6, h7, h8⟩ := H
  have hr : rk < h := by omega
  have hPz : ∀ b, b < j → W i b * (W i j)⁻¹ = 0 := fun b hb => by
    rw [h5 i hri hi b hb]
    grind
  have hjj : W i j * (W i j)⁻¹ = 1 := by grind
  refine ⟨by omega, by omega, fun r hr' => ?_, fun r s hrs hs => ?_, fun a ha hah b hb => ?_, fun k => ?_, fun S => ?_, fun hw B hB => ?_⟩
  · show (if r = rk then j else pv r) < j + 1 ∧ ∀ a, a < h → W' a (if r = rk then j else pv r) = if a = r then 1 else 0
    by_cases er : r = rk
    · rw [if_pos er]
      refine ⟨by omega, fun a ha => ?_⟩
      rw [e a j ha (by omega), hjj]
      by_cases ea : a = rk
      · rw [if_pos ea, if_pos (show a = r by omega)]
      · rw [if_neg ea, if_neg (show ¬ a = r by omega)]
        have := t2 (if a = i then W rk j else W a j)
        grind
    · rw [if_neg er]
      obtain ⟨p1, p2⟩ := h3 r (by omega)
      refine ⟨by omega, fun a ha => ?_⟩
      rw [e a _ ha (by omega), hPz _ p1]
      by_cases ea : a = rk
      · rw [if_pos ea, if_neg (show ¬ a = r by omega)]
      · rw [if_neg ea]
        by_cases ei : a = i
        · rw [if_pos ei, p2 rk hr, if_neg (show ¬ rk = r by omega), if_neg (show ¬ a = r by omega)]
          grind
        · rw [if_neg ei, p2 a ha]
          grind
  · show (if r = rk then j else pv r) < (if s = rk then j else pv s)
    by_cases es : s = rk
    · rw [if_pos es, if_neg (by omega)]
      exact (h3 r (by omega)).1
    · rw [if_neg es, if_neg (by omega)]
      exact h4 r s hrs (by omega)
  · rw [e a b hah (by omega), if_neg (by omega)]
    by_cases eb : b = j
    · rw [eb, hjj]
      have := t2 (if a = i then W rk j else W a j)
      grind
    · rw [hPz b (by omega), h5 rk (Nat.le_refl _) hr b (by omega), h5 a (by omega) hah b (by omega)]
      split <;> grind
  · rw [h6 k]
    constructor
    · exact nul_of c h k (fun a ha => by
        obtain ⟨x, hx⟩ := e.fw hr hi a ha
        exact ⟨x, fun b hb => hx b (by omega)⟩)
    · exact nul_of c h k (fun a ha => by
        obtain ⟨x, hx⟩ := e.bw t2 hr hi hp a ha
        exact ⟨x, fun b hb => hx b (by omega)⟩)
  · rw [← h7 S, ← e.det t2 hr hi hp hc S]
    grind
  · intro a ha b hb
    obtain ⟨x, hx⟩ := e.fw hr hi a ha
    have hW := h8 hw B hB
    rw [hx b (by omega)]
    have e1 : su h (fun k => W' a (c + k) * B k b) = su h (fun k => su h (fun m => x m * (W m (c + k) * B k b))) := su_cg h (fun k hk => by
      rw [hx (c + k) (by omega)]
      have : su h (fun m => x m * W m (c + k)) * B k b = B k b * su h (fun m => x m * W m (c + k)) := by grind
      rw [this, ← su_mul]
      exact su_cg h (fun m _ => by grind))
    rw [e1, su_sw]
    refine su_cg h (fun m hm => ?_)
    rw [su_mul, ← hW m hm b hb]
theorem cset (pv : Nat → Nat) (rk : Nat) (hm : ∀ r s, r < s → s < rk → pv r < pv s) : ∀ m, m ≤ rk → ∃ T : Nat, ∀ b, T.testBit b = true ↔ ∃ r, r < m ∧ pv r = b
  | 0, _ => ⟨0, fun b => by
    rw [Nat.zero_testBit]
    constructor
    · intro h
      exact absurd h (by decide)
    · rintro ⟨r, h, _⟩
      omega⟩
  | m + 1, hk => by
    obtain ⟨T, hT⟩ := cset pv rk hm m (by omega)
    refine ⟨T ^^^ 2 ^ pv m, fun b => ?_⟩
    rw [tb_x]
    by_cases e : pv m = b
    · have hn : ¬ T.testBit b = true := fun h => by
        obtain ⟨r, r1, r2⟩ := (hT b).1 h
        have := hm r m r1 (by omega)
        omega
      rw [decide_eq_true e, Bool.eq_false_iff.2 hn]
      exact ⟨fun _ => ⟨m, by omega, e⟩, fun _ => rfl⟩
    · rw [decide_eq_false e, Bool.xor_false, hT]
      constructor
      · rintro ⟨r, r1, r2⟩
        exact ⟨r, by omega, r2⟩
      · rintro ⟨r, r1, r2⟩
        refine ⟨r, ?_, r2⟩
        rcases Nat.lt_or_ge r m with h | h
        · exact h
        · exact absurd (by rw [← r2, show r = m by omega]) e
/-- at the places of the ones the rows above give 1 -/
theorem wl_piv {α : Type} [Lean.Grind.Field α] {h c : Nat} {W : Nat → Nat → α} {rk : Nat} {pv : Nat → Nat} (hr : rk ≤ h) (h3 : ∀ r, r < rk → pv r < c ∧ ∀ a, a < h → W a (pv r) = if a = r then 1 else 0) (h4 : ∀ r s, r < s → s < rk → pv r < pv s) : ∀ m, m ≤ rk → ∀ T : Nat, (∀ b, T.testBit b = true ↔ ∃ r, r < m ∧ pv r = b) → wl c W (List.range m).reverse w0 T = 1
  | 0, _, T, hT => by
    have : T = 0 := Nat.eq_of_testBit_eq (fun b => by
      rw [Nat.zero_testBit, Bool.eq_false_iff]
      intro h
      obtain ⟨r, r1, _⟩ := (hT b).1 h
      omega)
    exact if_pos this
  | m + 1, hm, T, hT => by
    rw [List.range_succ, List.reverse_append]
    show wl c W (m :: (List.range m).reverse) w0 T = 1
    rw [wl_cons]
    unfold wg
    obtain ⟨p1, p2⟩ := h3 m (by omega)
    rw [su_one c p1 (fun b hb hne => ?_), if_pos ((hT _).2 ⟨m, by omega, rfl⟩), p2 m (by omega), if_pos rfl, wl_piv hr h3 h4 m (by omega) _ (fun b => ?_)]
    · grind
    · rw [tb_x]
      by_cases e : pv m = b
      · rw [decide_eq_true e, (hT b).2 ⟨m, by omega, e⟩]
        constructor
        · intro h
          exact absurd h (by decide)
        · rintro ⟨r, r1, r2⟩
          have := h4 r m r1 (by omega)
          omega
      · rw [decide_eq_false e, Bool.xor_false, hT]
        constructor
        · rintro ⟨r, r1, r2⟩
          refine ⟨r, ?_, r2⟩
          rcases Nat.lt_or_ge r m with h | h
          · exact h
          · exact absurd (by rw [← r2, show r = m by omega]) e
        · rintro ⟨r, r1, r2⟩
          exact ⟨r, by omega, r2⟩
    · split
      · next hb1 =>
        obtain ⟨r, r1, r2⟩ := (hT b).1 hb1
        have : r ≠ m := fun x => hne (by rw [← r2, x])
        rw [← r2, (h3 r (by omega)).2 m (by omega), if_neg (by omega)]
        grind
      · rfl
theorem nd_len {l : List Nat} {m : Nat} (hn : l.Nodup) (h : ∀ i ∈ l, i < m) : l.length ≤ m := by
  apply Nat.le_of_not_lt
  intro hlt
  have := (perm_subG l (List.range m) hn (fun x hx => List.mem_range.2 (h x hx)) (by rw [List.length_range]; omega)).length_eq
  rw [List.length_range] at this
  omega
/-- the end: as many rows as the highest choice that isn't 0 -/
theorem eiv.rank {α : Type} [Lean.Grind.Field α] (t2 : ∀ a : α, a + a = 0) {h wd c : Nat} {A W : Nat → Nat → α} {rk : Nat} {pp : α} {pv : Nat → Nat} (H : eiv h wd c c A W rk pp pv) : ¬ nul c h rk A ∧ ∀ k, rk < k → nul c h k A := by
  obtain ⟨h1, h2, h3, h4, h5, h6, h7, h8⟩ := H
  constructor
  · rw [h6]
    intro hn
    obtain ⟨T, hT⟩ := cset pv rk h4 rk (Nat.le_refl _)
    have e := wl_piv h1 h3 h4 rk (Nat.le_refl _) T hT
    rw [hn _ (by simp) (fun i hi => by
      rw [List.mem_reverse, List.mem_range] at hi
      omega)] at e
    exact Lean.Grind.Field.zero_ne_one e
  · intro k hk
    rw [h6]
    intro l hl hi
    by_cases hz : ∃ i ∈ l, rk ≤ i
    · obtain ⟨i, i1, i2⟩ := hz
      exact wl_v0 c W w0 (fun b hb => h5 i i2 (hi i i1) b hb) i1
    · refine wl_nd t2 c W w0 l (fun hn => ?_)
      have := nd_len hn (m := rk) (fun i x => by
        rcases Nat.lt_or_ge i rk with y | y
        · exact y
        · exact absurd ⟨i, x, y⟩ hz)
      omega
/-- and the product of all of a square -/
theorem eiv.det {α : Type} [Lean.Grind.Field α] {h wd : Nat} {A W : Nat → Nat → α} {rk : Nat} {pp : α} {pv : Nat → Nat} (H : eiv h wd h h A W rk pp pv) : wl h A (List.range h) w0 (2 ^ h - 1) = if rk < h then 0 else pp := by
  obtain ⟨h1, h2, h3, h4, h5, h6, h7, h8⟩ := H
  rw [← h7]
  by_cases hr : rk < h
  · rw [if_pos hr, wl_v0 h W w0 (i := rk) (fun b hb => h5 rk (Nat.le_refl _) hr b hb) (List.mem_range.2 hr)]
    grind
  · rw [if_neg hr]
    have er : rk = h := by omega
    subst er
    have hid : ∀ r, r < rk → pv r = r := by
      have lo : ∀ r, r < rk → r ≤ pv r := fun r => by
        induction r with
        | zero => intro _; omega
        | succ r ih =>
          intro hr
          have a := ih (by omega)
          have b := h4 r (r + 1) (by omega) hr
          omega
      have hi : ∀ k r, r + k + 1 = rk → pv r + k + 1 ≤ rk := fun k => by
        induction k with
        | zero =>
          intro r e
          have := (h3 r (by omega)).1
          omega
        | succ k ih =>
          intro r e
          have a := ih (r + 1) (by omega)
          have b := h4 r (r + 1) (by omega) (by omega)
          omega
      intro r hr
      have a := lo r hr
      have b := hi (rk - r - 1) r (by omega)
      omega
    have e := wl_piv h1 h3 h4 rk (Nat.le_refl _) (2 ^ rk - 1) (fun b => by
      rw [Nat.testBit_two_pow_sub_one, decide_eq_true_iff]
      constructor
      · intro hb
        exact ⟨b, hb, hid b hb⟩
      · rintro ⟨r, r1, r2⟩
        rw [hid r r1] at r2
        omega)
    rw [wl_perm rk W (List.reverse_perm _).symm, e]
    grind
theorem eiv.id {α : Type} [Lean.Grind.Field α] {h wd : Nat} {A W : Nat → Nat → α} {pp : α} {pv : Nat → Nat} (H : eiv h wd h h A W h pp pv) : ∀ a b, a < h → b < h → W a b = if a = b then 1 else 0 := by
  obtain ⟨h1, h2, h3, h4, h5, h6, h7, h8⟩ := H
  have hid : ∀ r, r < h → pv r = r := by
    have lo : ∀ r, r < h → r ≤ pv r := fun r => by
      induction r with
      | zero => intro _; omega
      | succ r ih =>
        intro hr
        have a := ih (by omega)
        have b := h4 r (r + 1) (by omega) hr
        omega
    have hi : ∀ k r, r + k + 1 = h → pv r + k + 1 ≤ h := fun k => by
      induction k with
      | zero =>
        intro r e
        have := (h3 r (by omega)).1
        omega
      | succ k ih =>
        intro r e
        have a := ih (r + 1) (by omega)
        have b := h4 r (r + 1) (by omega) (by omega)
        omega
    intro r hr
    have a := lo r hr
    have b := hi (h - r - 1) r (by omega)
    omega
  intro a b ha hb
  have := (h3 b hb).2 a ha
  rwa [hid b hb] at this
