/-! elimination and minors over numbers -/
def zr {n q : Nat} (W : Nat → Nat → Nat) (i j : Nat) : GFt n q := gfz (W i j)
theorem gfz_v0 {n q a : Nat} (hG : GFp n q) (ha : a < 2 ^ n) (h : a ≠ 0) : letI := gfF hG; (gfz a : GFt n q) ≠ 0 := gf_nz hG (by rw [gfz_v ha]; exact h)
theorem gfz_i {n q a : Nat} (hG : GFp n q) (ha : a < 2 ^ n) : letI := gfF hG; (gfz (ginv n q a) : GFt n q) = (gfz a)⁻¹ := by
  refine GFt.ext ?_
  show _ = ginv n q (gfz a : GFt n q).1
  rw [gfz_v ha, gfz_v (show ginv n q a < 2 ^ n from gpow_lt hG _ _)]
theorem gre_est {n q : Nat} (hG : GFp n q) {h wd j rk i : Nat} {W : Nat → Nat → Nat} (hW : ∀ a b, W a b < 2 ^ n) (hj : j < wd) : @est _ (gfF hG) wd h j rk i (zr W) (zr (gfe n q (gxc W i rk wd) (gsc n q (gxc W i rk wd rk) (ginv n q (gxc W i rk wd rk j)) wd) rk j wd h)) := by
  letI := gfF hG
  have hx : ∀ b, b < wd → gxc W i rk wd rk b = W i b := fun b hb => by
    unfold gxc
    rw [if_pos hb]
    by_cases e : rk = i
    · rw [if_pos e, e]
    · rw [if_neg e, if_pos rfl]
  have hil : ginv n q (W i j) < 2 ^ n := gpow_lt hG _ _
  have hP : ∀ b, b < wd → gsc n q (gxc W i rk wd rk) (ginv n q (gxc W i rk wd rk j)) wd b = gm n q (W i b) (ginv n q (W i j)) := fun b hb => by
    unfold gsc
    rw [if_pos hb, hx b hb, hx j hj]
  intro a b ha hb
  unfold zr
  have eP : (gfz (gm n q (W i b) (ginv n q (W i j))) : GFt n q) = gfz (W i b) * (gfz (W i j))⁻¹ := by
    rw [gfz_m hG (hW i b) hil, gfz_i hG (hW i j)]
  unfold gfe
  by_cases h1 : a = rk
  · rw [if_pos h1, if_pos h1, hP b hb, eP]
  · have hV : ∀ b, b < wd → gxc W i rk wd a b = if a = i then W rk b else W a b := fun b hb => by
      unfold gxc
      rw [if_pos hb, if_neg h1]
    rw [if_neg h1, if_neg h1, if_pos ha]
    unfold gam
    rw [if_pos ⟨Nat.zero_le b, by omega⟩, Nat.sub_zero, Nat.zero_add, hP b hb, hV b hb, hV j hj]
    have hl : ∀ b, (if a = i then W rk b else W a b) < 2 ^ n := fun b => by split <;> exact hW _ _
    rw [gfz_x hG (hl b) (hG.lt (hl j)), gfz_m hG (hl j) (hG.lt (hW i b)), eP]
    by_cases h2 : a = i
    · rw [if_pos h2, if_pos h2, if_pos h2, if_pos h2]
    · rw [if_neg h2, if_neg h2, if_neg h2, if_neg h2]
theorem gre_eiv {n q : Nat} (hG : GFp n q) {h wd c : Nat} (hc : c ≤ wd) {A : Nat → Nat → GFt n q} : ∀ (r j : Nat) (W : Nat → Nat → Nat) (rk pp : Nat) (pv : Nat → Option Nat) (pi : Nat → Nat), j + r = c → (∀ a b, W a b < 2 ^ n) → pp < 2 ^ n → @eiv _ (gfF hG) h wd c j A (zr W) rk (gfz pp) pi → ∃ pi', @eiv _ (gfF hG) h wd c c A (zr (gre n q h wd r j W rk pp pv).1) (gre n q h wd r j W rk pp pv).2.1 (gfz (gre n q h wd r j W rk pp pv).2.2.1) pi' ∧ (gre n q h wd r j W rk pp pv).2.2.1 < 2 ^ n ∧ ∀ a b, (gre n q h wd r j W rk pp pv).1 a b < 2 ^ n := by
  letI := gfF hG
  intro r
  induction r with
  | zero =>
    intro j W rk pp pv pi hr hW hp H
    rw [show c = j by omega] at H ⊢
    exact ⟨pi, H, hp, hW⟩
  | succ r ih =>
    intro j W rk pp pv pi hr hW hp H
    have hrk := H.1
    rcases hf : gfr W j (h - rk) rk with _ | i
    · have e : gre n q h wd (r + 1) j W rk pp pv = gre n q h wd r (j + 1) W rk pp (fun i => if i = j then none else pv i) := by
        show (match gfr W j (h - rk) rk with | none => _ | some i => _) = _
        rw [hf]
      rw [e]
      refine ih (j + 1) W rk pp _ pi (by omega) hW hp (H.no (fun a ha hah => ?_))
      unfold zr
      rw [gfr_no hf a ha (by omega), gfz_0 hG]
    · obtain ⟨f1, f2, f3, f4⟩ := gfr_in hf
      have e : gre n q h wd (r + 1) j W rk pp pv = gre n q h wd r (j + 1) (gfe n q (gxc W i rk wd) (gsc n q (gxc W i rk wd rk) (ginv n q (gxc W i rk wd rk j)) wd) rk j wd h) (rk + 1) (gm n q pp (gxc W i rk wd rk j)) (fun i => if i = j then some rk else pv i) := by
        show (match gfr W j (h - rk) rk with | none => _ | some i => _) = _
        rw [hf]
      have hx : gxc W i rk wd rk j = W i j := by
        unfold gxc
        rw [if_pos (by omega)]
        by_cases e : rk = i
        · rw [if_pos e, e]
        · rw [if_neg e, if_pos rfl]
      rw [e]
      have hst := H.st (gf_two hG) (by omega) f1 (by omega) hc (gfz_v0 hG (hW i j) f3) (gre_est hG (h := h) (rk := rk) (i := i) hW (j := j) (by omega))
      refine ih (j + 1) _ (rk + 1) _ _ (fun r => if r = rk then j else pi r) (by omega) (gfe_lt hG (gxc_lt hW) (gsc_lt hG (gxc_lt hW rk) _ _)) (hG.lt hp) ?_
      rw [hx, gfz_m hG hp (hW i j)]
      rw [hx] at hst
      exact hst
theorem eiv_0 {n q : Nat} (hG : GFp n q) {h wd c : Nat} (A : Nat → Nat → GFt n q) (pi : Nat → Nat) : @eiv _ (gfF hG) h wd c 0 A A 0 (gfz 1) pi := by
  letI := gfF hG
  refine ⟨Nat.zero_le _, Nat.le_refl _, fun r hr => absurd hr (by omega), fun r s _ hs => absurd hs (by omega), fun a _ _ b hb => absurd hb (by omega), fun k => Iff.rfl, fun S => ?_, fun _ B hB => hB⟩
  rw [gfz_1 hG]
  grind
/-- the rows of a choice -/
def bl (S : Nat) : List Nat := (List.range 8).filter (fun i => S.testBit i)
theorem bl_mem {S i : Nat} : i ∈ bl S ↔ i < 8 ∧ S.testBit i = true := by
  unfold bl
  rw [List.mem_filter, List.mem_range]
theorem bl_nd (S : Nat) : (bl S).Nodup := List.nodup_range.filter _
theorem bl_len : ∀ S, S < 256 → (bl S).length = gbc 8 S := by decide +kernel
theorem gbc_x : ∀ S, S < 256 → ∀ j, j < 8 → S.testBit j = true → gbc 8 (S ^^^ 2 ^ j) + 1 = gbc 8 S := by decide +kernel
theorem x256 {S j : Nat} (hS : S < 256) (hj : j < 8) : S ^^^ 2 ^ j < 256 := Nat.xor_lt_two_pow (n := 8) hS (Nat.pow_lt_pow_right (by omega) hj)
theorem bl_perm {S t : Nat} (hS : S < 256) (ht : t < 8) (hb : S.testBit t = true) : (bl S).Perm (t :: bl (S ^^^ 2 ^ t)) := by
  refine perm_subG _ _ (bl_nd S) (fun x hx => ?_) ?_
  · obtain ⟨x1, x2⟩ := bl_mem.1 hx
    by_cases e : t = x
    · exact List.mem_cons.2 (Or.inl e.symm)
    · refine List.mem_cons.2 (Or.inr (bl_mem.2 ⟨x1, ?_⟩))
      rw [tb_x, decide_eq_false e, Bool.xor_false]
      exact x2
  · rw [List.length_cons, bl_len S hS, bl_len _ (x256 hS ht), gbc_x S hS t ht hb]
    exact Nat.le_refl _
theorem bl_ex {h : Nat} (hh : h ≤ 8) : ∀ l : List Nat, l.Nodup → (∀ i ∈ l, i < h) → ∃ S, S < 2 ^ h ∧ (bl S).Perm l
  | [], _, _ => ⟨0, Nat.two_pow_pos h, by
    have : bl 0 = [] := by decide
    rw [this]⟩
  | i :: l, hn, hi => by
    obtain ⟨n1, n2⟩ := List.nodup_cons.1 hn
    obtain ⟨S, s1, s2⟩ := bl_ex hh l n2 (fun k hk => hi k (List.mem_cons_of_mem _ hk))
    have hih := hi i List.mem_cons_self
    have h256 : 2 ^ h ≤ 2 ^ 8 := Nat.pow_le_pow_right (by omega) hh
    have hb : S.testBit i = false := by
      rw [Bool.eq_false_iff]
      intro hb
      exact n1 (s2.mem_iff.1 (bl_mem.2 ⟨by omega, hb⟩))
    have hlt : S ^^^ 2 ^ i < 2 ^ h := Nat.xor_lt_two_pow s1 (Nat.pow_lt_pow_right (by omega) hih)
    have hb2 : (S ^^^ 2 ^ i).testBit i = true := by
      rw [tb_x, hb, decide_eq_true rfl]
      rfl
    refine ⟨S ^^^ 2 ^ i, hlt, (bl_perm (by omega) (by omega) hb2).trans ?_⟩
    rw [Nat.xor_assoc, Nat.xor_self, Nat.xor_zero]
    exact s2.cons i
/-- a minor -/
def mnv {n q : Nat} (hG : GFp n q) (A : Nat → Nat → Nat) (c S T : Nat) : Nat := (@wl _ (gfR hG) c (zr A) (bl S) (@w0 _ (gfR hG)) T).1
theorem mnv_lt {n q : Nat} (hG : GFp n q) (A : Nat → Nat → Nat) (c S T : Nat) : mnv hG A c S T < 2 ^ n := (@wl _ (gfR hG) c (zr A) (bl S) (@w0 _ (gfR hG)) T).2
theorem mnv_0 {n q : Nat} (hG : GFp n q) (A : Nat → Nat → Nat) (c T : Nat) : mnv hG A c 0 T = if T = 0 then 1 else 0 := by
  letI := gfF hG
  have : bl 0 = [] := by decide
  unfold mnv
  rw [this]
  show (if T = 0 then (1 : GFt n q) else 0).1 = _
  split
  · exact gf_1v hG
  · exact gf_0v hG
/-- the sum of a row's members by smaller minors -/
def mns (n q : Nat) (row : Nat → Nat) (V : Nat → Nat) (T : Nat) : Nat → Nat
  | 0 => 0
  | j + 1 => if T.testBit j = true then mns n q row V T j ^^^ gm n q (row j) (V (T ^^^ 2 ^ j)) else mns n q row V T j
theorem mns_su {n q : Nat} (hG : GFp n q) {row : Nat → Nat} {V : Nat → GFt n q} (hr : ∀ j, row j < 2 ^ n) (T : Nat) : ∀ c, letI := gfF hG; (su c (fun j => if T.testBit j = true then gfz (row j) * V (T ^^^ 2 ^ j) else 0)).1 = mns n q row (fun S => (V S).1) T c
  | 0 => gf_0v hG
  | c + 1 => by
    letI := gfF hG
    show (su c (fun j => if T.testBit j = true then gfz (row j) * V (T ^^^ 2 ^ j) else 0)).1 ^^^ (if T.testBit c = true then gfz (row c) * V (T ^^^ 2 ^ c) else 0).1 = if T.testBit c = true then _ else _
    rw [mns_su hG hr T c]
    by_cases h : T.testBit c = true
    · rw [if_pos h, if_pos h]
      show _ ^^^ gm n q (gfz (row c) : GFt n q).1 (V (T ^^^ 2 ^ c)).1 = _
      rw [gfz_v (hr c)]
    · rw [if_neg h, if_neg h, gf_0v hG, Nat.xor_zero]
theorem mnv_st {n q : Nat} (hG : GFp n q) {A : Nat → Nat → Nat} (hA : ∀ a b, A a b < 2 ^ n) {c S t : Nat} (hS : S < 256) (ht : t < 8) (hb : S.testBit t = true) (T : Nat) : mnv hG A c S T = mns n q (A t) (mnv hG A c (S ^^^ 2 ^ t)) T c := by
  letI := gfF hG
  unfold mnv
  rw [wl_perm c (zr A) (bl_perm hS ht hb), wl_cons]
  exact mns_su hG (hA t) T c
theorem mnv_pop {n q : Nat} (hG : GFp n q) {A : Nat → Nat → Nat} {c S T : Nat} (hc : c ≤ 8) (hS : S < 256) (hT : T < 256) (h : gbc 8 T ≠ gbc 8 S) : mnv hG A c S T = 0 := by
  letI := gfF hG
  have key : ∀ (l : List Nat) (T : Nat), T < 256 → gbc 8 T ≠ l.length → wl c (zr A) l w0 T = (0 : GFt n q) := by
    intro l
    induction l with
    | nil =>
      intro T hT h
      refine if_neg (fun e => h ?_)
      rw [e]
      rfl
    | cons i l ih =>
      intro T hT h
      rw [wl_cons]
      refine su_0 c (fun j hj => ?_)
      split
      · next hb =>
        rw [ih _ (x256 hT (by omega)) (by
          have := gbc_x T hT j (by omega) hb
          rw [List.length_cons] at h
          omega)]
        grind
      · rfl
  unfold mnv
  rw [key (bl S) T hT (by rw [bl_len S hS]; exact h)]
  exact gf_0v hG
/-- the rank -/
theorem gre_rank {n q : Nat} (hG : GFp n q) {A : Nat → Nat → Nat} (hA : ∀ a b, A a b < 2 ^ n) {h c : Nat} (hh : h ≤ 8) (pv : Nat → Option Nat) : (∃ S T, S < 2 ^ h ∧ T < 2 ^ c ∧ mnv hG A c S T ≠ 0 ∧ gbc 8 S = (gre n q h c c 0 A 0 1 pv).2.1) ∧ ∀ S T, S < 2 ^ h → mnv hG A c S T ≠ 0 → gbc 8 S ≤ (gre n q h c c 0 A 0 1 pv).2.1 := by
  letI := gfF hG
  have h256 : 2 ^ h ≤ 2 ^ 8 := Nat.pow_le_pow_right (by omega) hh
  obtain ⟨pi, H, _, _⟩ := gre_eiv hG (Nat.le_refl c) (A := zr A) c 0 A 0 1 pv (fun _ => 0) (by omega) hA hG.one (eiv_0 hG _ _)
  obtain ⟨r1, r2⟩ := H.rank (gf_two hG)
  constructor
  · have : ∃ l : List Nat, l.length = (gre n q h c c 0 A 0 1 pv).2.1 ∧ (∀ i ∈ l, i < h) ∧ wl c (zr (n := n) (q := q) A) l w0 ≠ fun _ => 0 := by
      refine Classical.byContradiction (fun hc => r1 (fun l hl hi => ?_))
      refine Classical.byContradiction (fun hne => hc ⟨l, hl, hi, hne⟩)
    obtain ⟨l, l1, l2, l3⟩ := this
    have ⟨T, hT⟩ : ∃ T, wl c (zr (n := n) (q := q) A) l w0 T ≠ 0 := by
      refine Classical.byContradiction (fun hc => l3 (funext (fun T => ?_)))
      refine Classical.byContradiction (fun hne => hc ⟨T, hne⟩)
    have hnd : l.Nodup := by
      refine Classical.byContradiction (fun hn => hT ?_)
      rw [wl_nd (gf_two hG) c _ _ l hn]
    obtain ⟨S, s1, s2⟩ := bl_ex hh l hnd l2
    refine ⟨S, T, s1, ?_, ?_, ?_⟩
    · apply Nat.lt_of_not_le
      intro hge
      exact hT (wl_high c _ l T hge)
    · unfold mnv
      rw [wl_perm c (zr A) s2]
      intro e
      exact hT (gf_z hG e)
    · rw [← bl_len S (by omega), s2.length_eq, l1]
  · intro S T hS hne
    apply Nat.le_of_not_lt
    intro hlt
    refine hne ?_
    unfold mnv
    have hn := r2 _ hlt (bl S) (bl_len S (by omega)) (fun i hi => by
      obtain ⟨_, i2⟩ := bl_mem.1 hi
      apply Nat.lt_of_not_le
      intro hge
      have := Nat.testBit_lt_two_pow (Nat.lt_of_lt_of_le hS (Nat.pow_le_pow_right (by omega) hge))
      rw [this] at i2
      exact absurd i2 (by decide))
    have e : @wl _ (gfR hG) c (zr A) (bl S) (@w0 _ (gfR hG)) T = (0 : GFt n q) := congrFun hn T
    rw [e]
    exact gf_0v hG
theorem bl_all : ∀ h, h ≤ 8 → bl (2 ^ h - 1) = List.range h := by decide +kernel
/-- the determinant -/
theorem gre_det {n q : Nat} (hG : GFp n q) {A : Nat → Nat → Nat} (hA : ∀ a b, A a b < 2 ^ n) {h wd : Nat} (hh : h ≤ 8) (hw : h ≤ wd) (pv : Nat → Option Nat) : mnv hG A h (2 ^ h - 1) (2 ^ h - 1) = if (gre n q h wd h 0 A 0 1 pv).2.1 < h then 0 else (gre n q h wd h 0 A 0 1 pv).2.2.1 := by
  letI := gfF hG
  obtain ⟨pi, H, hp, _⟩ := gre_eiv hG hw (A := zr A) h 0 A 0 1 pv (fun _ => 0) (by omega) hA hG.one (eiv_0 hG _ _)
  have hd := H.det
  unfold mnv
  rw [bl_all h hh]
  have e : @wl _ (gfR hG) h (zr A) (List.range h) (@w0 _ (gfR hG)) (2 ^ h - 1) = if (gre n q h wd h 0 A 0 1 pv).2.1 < h then (0 : GFt n q) else gfz (gre n q h wd h 0 A 0 1 pv).2.2.1 := hd
  rw [e]
  split
  · exact gf_0v hG
  · exact gfz_v hp
/-- what stands beside the ones is the inverse by minors -/
theorem gre_inv {n q : Nat} (hG : GFp n q) {A : Nat → Nat → Nat} (hA : ∀ a b, A a b < 2 ^ n) {h : Nat} (hh : h ≤ 8) (pv : Nat → Option Nat) (hI : ∀ a k, a < h → k < h → A a (h + k) = if a = k then 1 else 0) (hr : ¬ (gre n q h (h + h) h 0 A 0 1 pv).2.1 < h) {i j : Nat} (hi : i < h) (hj : j < h) : (gre n q h (h + h) h 0 A 0 1 pv).1 i (h + j) = gm n q (ginv n q (mnv hG A h (2 ^ h - 1) (2 ^ h - 1))) (mnv hG A h ((2 ^ h - 1) ^^^ 2 ^ j) ((2 ^ h - 1) ^^^ 2 ^ i)) := by
  letI := gfF hG
  obtain ⟨pi, H, hp, hW⟩ := gre_eiv hG (show h ≤ h + h by omega) (A := zr A) h 0 A 0 1 pv (fun _ => 0) (by omega) hA hG.one (eiv_0 hG _ _)
  have hdet := gre_det hG hA hh (show h ≤ h + h by omega) pv
  rw [if_neg hr] at hdet
  have erk : (gre n q h (h + h) h 0 A 0 1 pv).2.1 = h := by
    have h1 : (gre n q h (h + h) h 0 A 0 1 pv).2.1 ≤ h := H.1
    omega
  rw [erk] at H
  generalize hgr : gre n q h (h + h) h 0 A 0 1 pv = G at *
  have hid := H.id
  have h256 : 2 ^ h ≤ 2 ^ 8 := Nat.pow_le_pow_right (by omega) hh
  have hp2 := Nat.two_pow_pos h
  -- rows by A
  have hrel := H.2.2.2.2.2.2.2 (Nat.le_refl _) (zr A) (fun a ha b hb => by
    rw [su_one h ha (fun k hk hne => by
      have : (zr A a (h + k) : GFt n q) = 0 := by
        unfold zr
        rw [hI a k ha hk, if_neg (fun e => hne e.symm), gfz_0 hG]
      rw [this]
      grind)]
    have : (zr A a (h + a) : GFt n q) = 1 := by
      unfold zr
      rw [hI a a ha ha, if_pos rfl, gfz_1 hG]
    rw [this]
    grind)
  -- the determinant isn't 0
  have hpne : G.2.2.1 ≠ 0 := fun e0 => by
    obtain ⟨q1, _⟩ := H.rank (gf_two hG)
    refine q1 (fun l hl hi => ?_)
    by_cases hn : l.Nodup
    · have hpm : l.Perm (List.range h) := perm_subG l _ hn (fun x hx => List.mem_range.2 (hi x hx)) (by rw [List.length_range]; omega)
      rw [wl_perm h (zr A) hpm]
      funext S
      have := H.2.2.2.2.2.2.1 S
      rw [← this, e0, gfz_0 hG]
      grind
    · exact wl_nd (gf_two hG) h _ _ l hn
  have hdl := mnv_lt hG A h (2 ^ h - 1) (2 ^ h - 1)
  have hil : ginv n q (mnv hG A h (2 ^ h - 1) (2 ^ h - 1)) < 2 ^ n := gpow_lt hG _ _
  let Xm : Nat → Nat → GFt n q := fun i j => (gfz (mnv hG A h (2 ^ h - 1) (2 ^ h - 1)))⁻¹ * gfz (mnv hG A h ((2 ^ h - 1) ^^^ 2 ^ j) ((2 ^ h - 1) ^^^ 2 ^ i))
  have hz : ∀ S T, (gfz (mnv hG A h S T) : GFt n q) = wl h (zr A) (bl S) w0 T := fun S T => gfz_e _
  have htb : ∀ k, k < h → (2 ^ h - 1).testBit k = true := fun k hk => by rw [Nat.testBit_two_pow_sub_one]; exact decide_eq_true hk
  have hAX : ∀ a j, a < h → j < h → su h (fun i => zr A a i * Xm i j) = if a = j then 1 else 0 := fun a j ha hj => by
    have e1 : su h (fun i => zr A a i * Xm i j) = (gfz (mnv hG A h (2 ^ h - 1) (2 ^ h - 1)))⁻¹ * wg h (zr A a) (wl h (zr A) (bl ((2 ^ h - 1) ^^^ 2 ^ j)) w0) (2 ^ h - 1) := by
      unfold wg
      rw [← su_mul]
      refine su_cg h (fun i hi => ?_)
      rw [if_pos (htb i hi)]
      show zr A a i * ((gfz (mnv hG A h (2 ^ h - 1) (2 ^ h - 1)))⁻¹ * gfz (mnv hG A h ((2 ^ h - 1) ^^^ 2 ^ j) ((2 ^ h - 1) ^^^ 2 ^ i))) = _
      rw [hz _ ((2 ^ h - 1) ^^^ 2 ^ i)]
      grind
    rw [e1]
    by_cases e : a = j
    · rw [if_pos e, e, ← wl_cons, ← wl_perm h (zr A) (bl_perm (show 2 ^ h - 1 < 256 by omega) (by omega) (htb j hj)), ← hz]
      have : (gfz (mnv hG A h (2 ^ h - 1) (2 ^ h - 1)) : GFt n q) ≠ 0 := gfz_v0 hG hdl (by rw [hdet]; exact hpne)
      grind
    · rw [if_neg e, wl_dup (gf_two hG) h (zr A) w0 (i := a) (bl_mem.2 ⟨by omega, by
        rw [tb_x, htb a ha, decide_eq_false (fun x => e x.symm)]
        rfl⟩)]
      grind
  have hE : zr G.1 i (h + j) = Xm i j := by
    have e1 : su h (fun m => zr G.1 i m * Xm m j) = Xm i j := by
      rw [su_one h hi (fun m hm hne => by
        rw [hid i m hi hm, if_neg (fun e => hne e.symm)]
        grind), hid i i hi hi, if_pos rfl]
      grind
    have e2 : su h (fun m => zr G.1 i m * Xm m j) = su h (fun k => zr G.1 i (h + k) * su h (fun m => zr A k m * Xm m j)) := by
      have e3 : su h (fun m => zr G.1 i m * Xm m j) = su h (fun m => su h (fun k => zr G.1 i (h + k) * (zr A k m * Xm m j))) := su_cg h (fun m hm => by
        rw [hrel i hi m hm]
        have : su h (fun k => zr G.1 i (h + k) * zr A k m) * Xm m j = Xm m j * su h (fun k => zr G.1 i (h + k) * zr A k m) := by grind
        rw [this, ← su_mul]
        exact su_cg h (fun k _ => by grind))
      rw [e3, su_sw]
      exact su_cg h (fun k _ => su_mul _ _ _)
    have e4 : su h (fun k => zr G.1 i (h + k) * su h (fun m => zr A k m * Xm m j)) = zr G.1 i (h + j) := by
      rw [su_one h hj (fun k hk hne => by
        rw [hAX k j hk hj, if_neg hne]
        grind), hAX j j hj hj, if_pos rfl]
      grind
    rw [← e4, ← e2, e1]
  have e5 : (zr G.1 i (h + j) : GFt n q).1 = G.1 i (h + j) := gfz_v (hW _ _)
  rw [← e5, hE]
  show gm n q (ginv n q (gfz (mnv hG A h (2 ^ h - 1) (2 ^ h - 1)) : GFt n q).1) (gfz (mnv hG A h ((2 ^ h - 1) ^^^ 2 ^ j) ((2 ^ h - 1) ^^^ 2 ^ i)) : GFt n q).1 = _
  rw [gfz_v hdl, gfz_v (mnv_lt hG A h _ _)]
