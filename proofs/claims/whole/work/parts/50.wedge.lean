/-! minors: rows by rows -/
def su {R : Type} [Lean.Grind.CommRing R] : Nat → (Nat → R) → R
  | 0, _ => 0
  | k + 1, f => su k f + f k
theorem su_cg {R : Type} [Lean.Grind.CommRing R] : ∀ (k : Nat) {f g : Nat → R}, (∀ i, i < k → f i = g i) → su k f = su k g
  | 0, _, _, _ => rfl
  | k + 1, f, g, h => by
    show su k f + f k = su k g + g k
    rw [su_cg k (fun i hi => h i (by omega)), h k (by omega)]
theorem su_add {R : Type} [Lean.Grind.CommRing R] : ∀ (k : Nat) (f g : Nat → R), su k (fun i => f i + g i) = su k f + su k g
  | 0, _, _ => by show (0 : R) = 0 + 0; grind
  | k + 1, f, g => by
    show su k (fun i => f i + g i) + (f k + g k) = su k f + f k + (su k g + g k)
    rw [su_add k f g]
    grind
theorem su_mul {R : Type} [Lean.Grind.CommRing R] (a : R) : ∀ (k : Nat) (f : Nat → R), su k (fun i => a * f i) = a * su k f
  | 0, _ => by show (0 : R) = a * 0; grind
  | k + 1, f => by
    show su k (fun i => a * f i) + a * f k = a * (su k f + f k)
    rw [su_mul a k f]
    grind
theorem su_0 {R : Type} [Lean.Grind.CommRing R] : ∀ (k : Nat) {f : Nat → R}, (∀ i, i < k → f i = 0) → su k f = 0
  | 0, _, _ => rfl
  | k + 1, f, h => by
    show su k f + f k = 0
    rw [su_0 k (fun i hi => h i (by omega)), h k (by omega)]
    grind
theorem su_one {R : Type} [Lean.Grind.CommRing R] {j : Nat} : ∀ (k : Nat) {f : Nat → R}, j < k → (∀ i, i < k → i ≠ j → f i = 0) → su k f = f j
  | 0, _, h, _ => absurd h (by omega)
  | k + 1, f, h, hz => by
    show su k f + f k = f j
    by_cases e : j = k
    · rw [su_0 k (fun i hi => hz i (by omega) (by omega)), e]
      grind
    · rw [su_one k (by omega) (fun i hi => hz i (by omega)), hz k (by omega) (fun x => e x.symm)]
      grind
theorem su_sw {R : Type} [Lean.Grind.CommRing R] (m : Nat) (F : Nat → Nat → R) : ∀ k : Nat, su k (fun i => su m (F i)) = su m (fun j => su k (fun i => F i j))
  | 0 => by
    show (0 : R) = _
    exact (su_0 m (fun j _ => rfl)).symm
  | k + 1 => by
    show su k (fun i => su m (F i)) + su m (F k) = su m (fun j => su k (fun i => F i j) + F k j)
    rw [su_sw m F k, su_add m (fun j => su k (fun i => F i j)) (fun j => F k j)]
/-- in twos -/
theorem su_two {R : Type} [Lean.Grind.CommRing R] (h2 : ∀ a : R, a + a = 0) (F : Nat → Nat → R) (hs : ∀ i j, F i j = F j i) (h0 : ∀ i, F i i = 0) : ∀ k : Nat, su k (fun i => su k (F i)) = 0
  | 0 => rfl
  | k + 1 => by
    show su k (fun i => su k (F i) + F i k) + (su k (F k) + F k k) = 0
    rw [su_add k (fun i => su k (F i)) (fun i => F i k), su_two h2 F hs h0 k, h0, su_cg k (fun i _ => hs k i)]
    have := h2 (su k (fun i => F i k))
    grind
/-- a row more -/
def wg {R : Type} [Lean.Grind.CommRing R] (c : Nat) (v : Nat → R) (w : Nat → R) (S : Nat) : R := su c (fun j => if S.testBit j = true then v j * w (S ^^^ 2 ^ j) else 0)
theorem tb_x (S j k : Nat) : (S ^^^ 2 ^ j).testBit k = (S.testBit k ^^ decide (j = k)) := by
  rw [Nat.testBit_xor, Nat.testBit_two_pow]
theorem wg_wg {R : Type} [Lean.Grind.CommRing R] (c : Nat) (v u w : Nat → R) (S : Nat) : wg c v (wg c u w) S = su c (fun j => su c (fun k => if S.testBit j = true ∧ S.testBit k = true ∧ j ≠ k then v j * u k * w (S ^^^ 2 ^ j ^^^ 2 ^ k) else 0)) := by
  unfold wg
  refine su_cg c (fun j _ => ?_)
  by_cases hj : S.testBit j = true
  · rw [if_pos hj, ← su_mul]
    refine su_cg c (fun k _ => ?_)
    by_cases hk : S.testBit k = true ∧ j ≠ k
    · have h1 : (S ^^^ 2 ^ j).testBit k = true := by rw [tb_x, hk.1, decide_eq_false hk.2]; rfl
      rw [if_pos h1, if_pos (show S.testBit j = true ∧ S.testBit k = true ∧ j ≠ k from ⟨hj, hk⟩)]
      grind
    · have h1 : ¬ (S ^^^ 2 ^ j).testBit k = true := by
        intro h
        rw [tb_x] at h
        refine hk ?_
        by_cases e : j = k
        · rw [decide_eq_true e, ← e, hj] at h
          exact absurd h (by decide)
        · rw [decide_eq_false e, Bool.xor_false] at h
          exact ⟨h, e⟩
      rw [if_neg h1, if_neg (show ¬ (S.testBit j = true ∧ S.testBit k = true ∧ j ≠ k) from fun h => hk h.2)]
      grind
  · rw [if_neg hj]
    refine (su_0 c (fun k _ => if_neg (fun h => hj h.1))).symm
theorem wg_comm {R : Type} [Lean.Grind.CommRing R] (c : Nat) (v u w : Nat → R) (S : Nat) : wg c v (wg c u w) S = wg c u (wg c v w) S := by
  rw [wg_wg, wg_wg, su_sw]
  refine su_cg c (fun j _ => su_cg c (fun k _ => ?_))
  by_cases h : S.testBit j = true ∧ S.testBit k = true ∧ j ≠ k
  · rw [if_pos h, if_pos ⟨h.2.1, h.1, fun e => h.2.2 e.symm⟩, Nat.xor_assoc, Nat.xor_comm (2 ^ k), ← Nat.xor_assoc]
    grind
  · rw [if_neg h, if_neg (fun x => h ⟨x.2.1, x.1, fun e => x.2.2 e.symm⟩)]
theorem wg_self {R : Type} [Lean.Grind.CommRing R] (h2 : ∀ a : R, a + a = 0) (c : Nat) (v w : Nat → R) (S : Nat) : wg c v (wg c v w) S = 0 := by
  rw [wg_wg]
  refine su_two h2 _ (fun j k => ?_) (fun j => if_neg (fun h => h.2.2 rfl)) c
  by_cases h : S.testBit j = true ∧ S.testBit k = true ∧ j ≠ k
  · rw [if_pos h, if_pos ⟨h.2.1, h.1, fun e => h.2.2 e.symm⟩, Nat.xor_assoc, Nat.xor_comm (2 ^ j), ← Nat.xor_assoc]
    grind
  · rw [if_neg h, if_neg (fun x => h ⟨x.2.1, x.1, fun e => x.2.2 e.symm⟩)]
theorem wg_lin {R : Type} [Lean.Grind.CommRing R] (c : Nat) (v u w : Nat → R) (a : R) (S : Nat) : wg c (fun j => v j + a * u j) w S = wg c v w S + a * wg c u w S := by
  unfold wg
  rw [← su_mul, ← su_add]
  refine su_cg c (fun j _ => ?_)
  split <;> grind
theorem wg_scl {R : Type} [Lean.Grind.CommRing R] (c : Nat) (v w : Nat → R) (a : R) (S : Nat) : wg c (fun j => a * v j) w S = a * wg c v w S := by
  unfold wg
  rw [← su_mul]
  refine su_cg c (fun j _ => ?_)
  split <;> grind
theorem wg_lin2 {R : Type} [Lean.Grind.CommRing R] (c : Nat) (v w w' : Nat → R) (a : R) (S : Nat) : wg c v (fun T => w T + a * w' T) S = wg c v w S + a * wg c v w' S := by
  unfold wg
  rw [← su_mul, ← su_add]
  refine su_cg c (fun j _ => ?_)
  split <;> grind
theorem wg_0 {R : Type} [Lean.Grind.CommRing R] (c : Nat) (v : Nat → R) (S : Nat) : wg c v (fun _ => 0) S = 0 := by
  unfold wg
  refine su_0 c (fun j _ => ?_)
  split
  · grind
  · rfl
theorem wg_v0 {R : Type} [Lean.Grind.CommRing R] (c : Nat) {v : Nat → R} (h : ∀ j, j < c → v j = 0) (w : Nat → R) (S : Nat) : wg c v w S = 0 := by
  unfold wg
  refine su_0 c (fun j hj => ?_)
  rw [h j hj]
  split
  · grind
  · rfl
theorem wg_cg {R : Type} [Lean.Grind.CommRing R] (c : Nat) {v v' : Nat → R} (h : ∀ j, j < c → v j = v' j) (w : Nat → R) (S : Nat) : wg c v w S = wg c v' w S := by
  unfold wg
  refine su_cg c (fun j hj => ?_)
  rw [h j hj]
/-- rows one after another -/
def wl {R : Type} [Lean.Grind.CommRing R] (c : Nat) (v : Nat → Nat → R) (l : List Nat) (w : Nat → R) : Nat → R := l.foldr (fun i w => wg c (v i) w) w
def w0 {R : Type} [Lean.Grind.CommRing R] (S : Nat) : R := if S = 0 then 1 else 0
theorem wl_cons {R : Type} [Lean.Grind.CommRing R] (c : Nat) (v : Nat → Nat → R) (i : Nat) (l : List Nat) (w : Nat → R) : wl c v (i :: l) w = wg c (v i) (wl c v l w) := rfl
theorem wl_perm {R : Type} [Lean.Grind.CommRing R] (c : Nat) (v : Nat → Nat → R) {l l' : List Nat} (h : l.Perm l') (w : Nat → R) : wl c v l w = wl c v l' w := by
  induction h with
  | nil => rfl
  | cons x _ ih => rw [wl_cons, wl_cons, ih]
  | swap x y l =>
    rw [wl_cons, wl_cons, wl_cons, wl_cons]
    funext S
    exact wg_comm c _ _ _ S
  | trans _ _ h1 h2 => rw [h1, h2]
theorem wl_in {R : Type} [Lean.Grind.CommRing R] (c : Nat) (v : Nat → Nat → R) (u : Nat → R) (w : Nat → R) : ∀ l : List Nat, wg c u (wl c v l w) = wl c v l (wg c u w)
  | [] => rfl
  | i :: l => by
    rw [wl_cons, wl_cons, ← wl_in c v u w l]
    funext S
    exact wg_comm c _ _ _ S
theorem wl_0 {R : Type} [Lean.Grind.CommRing R] (c : Nat) (v : Nat → Nat → R) : ∀ l : List Nat, wl c v l (fun _ => 0) = fun _ => 0
  | [] => rfl
  | i :: l => by
    rw [wl_cons, wl_0 c v l]
    funext S
    exact wg_0 c _ S
theorem wl_lin {R : Type} [Lean.Grind.CommRing R] (c : Nat) (v : Nat → Nat → R) (w w' : Nat → R) (a : R) : ∀ (l : List Nat), wl c v l (fun T => w T + a * w' T) = fun T => wl c v l w T + a * wl c v l w' T
  | [] => rfl
  | i :: l => by
    rw [wl_cons, wl_cons, wl_cons, wl_lin c v w w' a l]
    funext S
    exact wg_lin2 c _ _ _ a S
theorem wl_cg {R : Type} [Lean.Grind.CommRing R] (c : Nat) {v v' : Nat → Nat → R} (w : Nat → R) : ∀ (l : List Nat), (∀ i ∈ l, ∀ j, j < c → v i j = v' i j) → wl c v l w = wl c v' l w
  | [], _ => rfl
  | i :: l, h => by
    rw [wl_cons, wl_cons, wl_cg c w l (fun k hk => h k (List.mem_cons_of_mem _ hk))]
    funext S
    exact wg_cg c (h i List.mem_cons_self) _ S
/-- a row that is there twice -/
theorem wl_dup {R : Type} [Lean.Grind.CommRing R] (h2 : ∀ a : R, a + a = 0) (c : Nat) (v : Nat → Nat → R) (w : Nat → R) {i : Nat} {l : List Nat} (h : i ∈ l) : wg c (v i) (wl c v l w) = fun _ => 0 := by
  have hp := List.perm_cons_erase h
  rw [wl_perm c v hp, wl_cons]
  funext S
  exact wg_self h2 c _ _ S
theorem wl_nd {R : Type} [Lean.Grind.CommRing R] (h2 : ∀ a : R, a + a = 0) (c : Nat) (v : Nat → Nat → R) (w : Nat → R) : ∀ l : List Nat, ¬ l.Nodup → wl c v l w = fun _ => 0
  | [], h => absurd List.nodup_nil h
  | i :: l, h => by
    rw [wl_cons]
    by_cases hi : i ∈ l
    · exact wl_dup h2 c v w hi
    · rw [wl_nd h2 c v w l (fun hn => h (List.nodup_cons.2 ⟨hi, hn⟩))]
      funext S
      exact wg_0 c _ S
theorem wl_v0 {R : Type} [Lean.Grind.CommRing R] (c : Nat) (v : Nat → Nat → R) (w : Nat → R) {i : Nat} (hv : ∀ j, j < c → v i j = 0) : ∀ {l : List Nat}, i ∈ l → wl c v l w = fun _ => 0
  | k :: l, h => by
    rw [wl_cons]
    rcases List.mem_cons.1 h with e | e
    · rw [← e]
      funext S
      exact wg_v0 c hv _ S
    · rw [wl_v0 c v w hv e]
      funext S
      exact wg_0 c _ S
theorem wl_high {R : Type} [Lean.Grind.CommRing R] (c : Nat) (v : Nat → Nat → R) : ∀ (l : List Nat) (S : Nat), 2 ^ c ≤ S → wl c v l w0 S = 0
  | [], S, h => if_neg (by have := Nat.two_pow_pos c; omega)
  | i :: l, S, h => by
    rw [wl_cons]
    refine su_0 c (fun j hj => ?_)
    split
    · rw [wl_high c v l _ (by
        apply Nat.le_of_not_lt
        intro hlt
        have h1 : S = (S ^^^ 2 ^ j) ^^^ 2 ^ j := by rw [Nat.xor_assoc, Nat.xor_self, Nat.xor_zero]
        have h2 : 2 ^ j < 2 ^ c := Nat.pow_lt_pow_right (by omega) hj
        have := Nat.xor_lt_two_pow hlt h2
        omega)]
      grind
    · rfl
/-- with rows that are sums of others: nothing comes of nothing -/
def nul {R : Type} [Lean.Grind.CommRing R] (c h k : Nat) (v : Nat → Nat → R) : Prop := ∀ l : List Nat, l.length = k → (∀ i ∈ l, i < h) → wl c v l w0 = fun _ => 0
theorem nul_sp {R : Type} [Lean.Grind.CommRing R] (c h : Nat) {v u : Nat → Nat → R} (hs : ∀ i, i < h → ∃ a : Nat → R, ∀ j, j < c → u i j = su h (fun k => a k * v k j)) : ∀ (a b : List Nat), (∀ i ∈ a, i < h) → (∀ i ∈ b, i < h) → nul c h (a.length + b.length) v → wl c u a (wl c v b w0) = fun _ => 0
  | [], b, _, hb, hn => hn b (by simp) hb
  | i :: a, b, ha, hb, hn => by
    obtain ⟨x, hx⟩ := hs i (ha i List.mem_cons_self)
    rw [wl_cons, wl_in]
    have e : ∀ m, m ≤ h → wl c u a (wg c (fun j => su m (fun k => x k * v k j)) (wl c v b w0)) = fun _ => 0 := by
      intro m
      induction m with
      | zero =>
        intro _
        have : wg c (fun j => su 0 (fun k => x k * v k j)) (wl c v b w0) = fun _ => 0 := funext (fun S => wg_v0 c (fun j _ => rfl) _ S)
        rw [this, wl_0]
      | succ m ih =>
        intro hm
        have e1 : wg c (fun j => su (m + 1) (fun k => x k * v k j)) (wl c v b w0) = fun T => wg c (fun j => su m (fun k => x k * v k j)) (wl c v b w0) T + x m * wl c v (m :: b) w0 T := by
          funext S
          exact wg_lin c (fun j => su m (fun k => x k * v k j)) (v m) _ (x m) S
        rw [e1, wl_lin, ih (by omega), nul_sp c h hs a (m :: b) (fun i hi => ha i (List.mem_cons_of_mem _ hi)) (fun i hi => by
          rcases List.mem_cons.1 hi with e | e
          · omega
          · exact hb i e) (by
          rw [show a.length + (m :: b).length = (i :: a).length + b.length by simp only [List.length_cons]; omega]
          exact hn)]
        funext S
        grind
    have e2 : wg c (u i) (wl c v b w0) = wg c (fun j => su h (fun k => x k * v k j)) (wl c v b w0) := funext (fun S => wg_cg c hx _ S)
    rw [e2]
    exact e h (Nat.le_refl h)
theorem nul_of {R : Type} [Lean.Grind.CommRing R] (c h k : Nat) {v u : Nat → Nat → R} (hs : ∀ i, i < h → ∃ a : Nat → R, ∀ j, j < c → u i j = su h (fun k => a k * v k j)) (hn : nul c h k v) : nul c h k u := fun l hl hi => nul_sp c h hs l [] hi (fun i h => absurd h (by simp)) (by simpa [hl] using hn)
