/-! the members of a field as a type, and the polynomials over them -/
def GFt (n q : Nat) : Type := {a : Nat // a < 2 ^ n}
def gfz {n q : Nat} (a : Nat) : GFt n q := ⟨a % 2 ^ n, Nat.mod_lt _ (Nat.two_pow_pos n)⟩
theorem gfz_v {n q a : Nat} (h : a < 2 ^ n) : (gfz a : GFt n q).1 = a := Nat.mod_eq_of_lt h
theorem GFt.ext {n q : Nat} {a b : GFt n q} (h : a.1 = b.1) : a = b := Subtype.ext h
def gfpw {n q : Nat} (h : GFp n q) (a : GFt n q) : Nat → GFt n q
  | 0 => gfz 1
  | k + 1 => ⟨gm n q (gfpw h a k).1 a.1, h.lt (gfpw h a k).2⟩
def gfo {n q : Nat} (k : Nat) : GFt n q := gfz (k % 2)
abbrev gfSR {n q : Nat} (h : GFp n q) : Lean.Grind.Semiring (GFt n q) :=
  { add := fun a b => ⟨a.1 ^^^ b.1, xor_lt a.2 b.2⟩
    mul := fun a b => ⟨gm n q a.1 b.1, h.lt a.2⟩
    natCast := ⟨gfo⟩
    ofNat := fun k => ⟨gfo k⟩
    nsmul := ⟨fun k a => ⟨gm n q (gfo (n := n) (q := q) k).1 a.1, h.lt (gfo (n := n) (q := q) k).2⟩⟩
    npow := ⟨fun a k => gfpw h a k⟩
    add_zero := fun a => GFt.ext (show a.1 ^^^ (0 % 2 % 2 ^ n) = a.1 by rw [Nat.zero_mod, Nat.xor_zero])
    add_comm := fun a b => GFt.ext (Nat.xor_comm _ _)
    add_assoc := fun a b c => GFt.ext (Nat.xor_assoc _ _ _)
    mul_assoc := fun a b c => GFt.ext (h.assoc a.2 b.2)
    mul_one := fun a => GFt.ext (show gm n q a.1 (1 % 2 % 2 ^ n) = a.1 by rw [show 1 % 2 % 2 ^ n = 1 from Nat.mod_eq_of_lt h.one, h.mul1 a.2])
    one_mul := fun a => GFt.ext (show gm n q (1 % 2 % 2 ^ n) a.1 = a.1 by rw [show 1 % 2 % 2 ^ n = 1 from Nat.mod_eq_of_lt h.one, gm_1 a.2])
    left_distrib := fun a b c => GFt.ext (gm_x _ _ _)
    right_distrib := fun a b c => GFt.ext (gm_x2 h.2.2.1 h.2.2.2.1 _ a.2 b.2)
    zero_mul := fun a => GFt.ext (show gm n q (0 % 2 % 2 ^ n) a.1 = 0 % 2 % 2 ^ n by rw [Nat.zero_mod, gm_0])
    mul_zero := fun a => GFt.ext (show gm n q a.1 (0 % 2 % 2 ^ n) = 0 % 2 % 2 ^ n by rw [Nat.zero_mod, gm_b0])
    pow_zero := fun a => rfl
    pow_succ := fun a k => rfl
    ofNat_succ := fun k => GFt.ext (show (k + 1) % 2 % 2 ^ n = (k % 2 % 2 ^ n) ^^^ (1 % 2 % 2 ^ n) by
      have h1 := h.one
      have e1 : ∀ x, x % 2 % 2 ^ n = x % 2 := fun x => Nat.mod_eq_of_lt (by omega)
      rw [e1, e1, e1]
      rcases Nat.mod_two_eq_zero_or_one k with e | e
      · rw [e, show (k + 1) % 2 = 1 by omega]; rfl
      · rw [e, show (k + 1) % 2 = 0 by omega]; rfl)
    ofNat_eq_natCast := fun _ => rfl
    nsmul_eq_natCast_mul := fun _ _ => rfl }
abbrev gfR {n q : Nat} (h : GFp n q) : Lean.Grind.CommRing (GFt n q) :=
  { gfSR h with
    neg := fun a => a
    sub := fun a b => ⟨a.1 ^^^ b.1, xor_lt a.2 b.2⟩
    intCast := ⟨fun i => gfo i.natAbs⟩
    zsmul := ⟨fun i a => ⟨gm n q (gfo (n := n) (q := q) i.natAbs).1 a.1, h.lt (gfo (n := n) (q := q) i.natAbs).2⟩⟩
    neg_add_cancel := fun a => GFt.ext (show a.1 ^^^ a.1 = 0 % 2 % 2 ^ n by rw [Nat.zero_mod, Nat.xor_self])
    sub_eq_add_neg := fun a b => rfl
    neg_zsmul := fun i a => GFt.ext (show gm n q (gfo (n := n) (q := q) (-i).natAbs).1 a.1 = gm n q (gfo (n := n) (q := q) i.natAbs).1 a.1 by rw [Int.natAbs_neg])
    zsmul_natCast_eq_nsmul := fun k a => rfl
    intCast_ofNat := fun k => rfl
    intCast_neg := fun i => GFt.ext (show (gfo (n := n) (q := q) (-i).natAbs).1 = (gfo (n := n) (q := q) i.natAbs).1 by rw [Int.natAbs_neg])
    mul_comm := fun a b => GFt.ext (h.comm a.2 b.2) }
theorem gfi_0 {n q : Nat} (h : GFp n q) : ginv n q 0 = 0 := by
  have h2 : 2 ^ 2 ≤ 2 ^ n := Nat.pow_le_pow_right (by omega) h.1
  unfold ginv
  obtain ⟨k, hk⟩ : ∃ k, 2 ^ n - 2 = k + 1 := ⟨2 ^ n - 3, by omega⟩
  rw [hk, show gpow n q 0 (k + 1) = gm n q (gpow n q 0 k) 0 from rfl, gm_b0]
theorem gfi_m {n q a : Nat} (h : GFp n q) (ha : a < 2 ^ n) (a0 : a ≠ 0) : gm n q a (ginv n q a) = 1 := by
  have h2 : 2 ^ 2 ≤ 2 ^ n := Nat.pow_le_pow_right (by omega) h.1
  rw [← gpow_units h ha a0, show 2 ^ n - 1 = (2 ^ n - 2) + 1 by omega]
  unfold ginv
  rw [h.comm ha (gpow_lt h _ _)]
  rfl
theorem gfi_1 {n q : Nat} (h : GFp n q) : ginv n q 1 = 1 := gpow_one h _
theorem gfi_i {n q a : Nat} (h : GFp n q) (ha : a < 2 ^ n) : ginv n q (ginv n q a) = a := by
  by_cases a0 : a = 0
  · rw [a0, gfi_0 h, gfi_0 h]
  · have i0 : ginv n q a ≠ 0 := gpow_ne0 h ha a0 _
    have il : ginv n q a < 2 ^ n := gpow_lt h a _
    refine h.cancelL (gpow_lt h _ _) ha il i0 ?_
    rw [gfi_m h il i0, h.comm il ha]
    exact (gfi_m h ha a0).symm
abbrev gfF {n q : Nat} (h : GFp n q) : Lean.Grind.Field (GFt n q) :=
  { gfR h with
    inv := fun a => ⟨ginv n q a.1, gpow_lt h a.1 _⟩
    div := fun a b => ⟨gm n q a.1 (ginv n q b.1), h.lt a.2⟩
    zpow := ⟨fun a i => match i with
      | .ofNat k => gfpw h a k
      | .negSucc k => ⟨ginv n q (gfpw h a (k + 1)).1, gpow_lt h _ _⟩⟩
    div_eq_mul_inv := fun a b => rfl
    zero_ne_one := fun e => by
      have e1 := congrArg Subtype.val e
      have e2 : (0 % 2 % 2 ^ n) = 1 % 2 % 2 ^ n := e1
      have h1 := h.one
      rw [show 1 % 2 % 2 ^ n = 1 from Nat.mod_eq_of_lt h.one, Nat.zero_mod] at e2
      omega
    inv_zero := GFt.ext (show ginv n q (0 % 2 % 2 ^ n) = 0 % 2 % 2 ^ n by rw [Nat.zero_mod, gfi_0 h])
    mul_inv_cancel := fun {a} ha => GFt.ext (show gm n q a.1 (ginv n q a.1) = 1 % 2 % 2 ^ n by
      rw [show 1 % 2 % 2 ^ n = 1 from Nat.mod_eq_of_lt h.one]
      exact gfi_m h a.2 (fun e => ha (GFt.ext (show a.1 = 0 % 2 % 2 ^ n by rw [e, Nat.zero_mod]))))
    zpow_zero := fun a => rfl
    zpow_succ := fun a k => rfl
    zpow_neg := fun a i => by
      rcases i with k | k
      · rcases k with _ | k
        · exact GFt.ext (show 1 % 2 ^ n = ginv n q (1 % 2 ^ n) by rw [show 1 % 2 ^ n = 1 from Nat.mod_eq_of_lt h.one, gfi_1 h])
        · rfl
      · exact GFt.ext (show (gfpw h a (k + 1)).1 = ginv n q (ginv n q (gfpw h a (k + 1)).1) by rw [gfi_i h (gfpw h a (k + 1)).2]) }

/-- the polynomials over a ring -/
def PL (α : Type) [Lean.Grind.CommRing α] : Type := {f : Nat → α // ∃ N, ∀ i, N ≤ i → f i = 0}
theorem PL.ext {α : Type} [Lean.Grind.CommRing α] {f g : PL α} (h : ∀ i, f.1 i = g.1 i) : f = g := Subtype.ext (funext h)
def plC {α : Type} [Lean.Grind.CommRing α] (a : α) : PL α := ⟨fun i => if i = 0 then a else 0, 1, fun i hi => if_neg (by omega)⟩
def plX {α : Type} [Lean.Grind.CommRing α] : PL α := ⟨fun i => if i = 1 then 1 else 0, 2, fun i hi => if_neg (by omega)⟩
def plm {α : Type} [Lean.Grind.CommRing α] (f g : PL α) : PL α := ⟨cv f.1 g.1, by
  obtain ⟨N, hN⟩ := f.2
  obtain ⟨M, hM⟩ := g.2
  exact ⟨N + M + 1, fun i hi => (cv_hi g.1 M (fun i hi => hM i (by omega)) N f.1 (fun i hi => hN i (by omega))).1 i (by omega)⟩⟩
def pla {α : Type} [Lean.Grind.CommRing α] (f g : PL α) : PL α := ⟨fun i => f.1 i + g.1 i, by
  obtain ⟨N, hN⟩ := f.2
  obtain ⟨M, hM⟩ := g.2
  refine ⟨N + M, fun i hi => ?_⟩
  show f.1 i + g.1 i = 0
  rw [hN i (by omega), hM i (by omega)]
  grind⟩
def pln {α : Type} [Lean.Grind.CommRing α] (f : PL α) : PL α := ⟨fun i => - f.1 i, by
  obtain ⟨N, hN⟩ := f.2
  refine ⟨N, fun i hi => ?_⟩
  show - f.1 i = 0
  rw [hN i (by omega)]
  grind⟩
def plw {α : Type} [Lean.Grind.CommRing α] (f : PL α) : Nat → PL α
  | 0 => plC 1
  | k + 1 => plm (plw f k) f
abbrev plSR (α : Type) [Lean.Grind.CommRing α] : Lean.Grind.Semiring (PL α) :=
  { add := pla
    mul := plm
    natCast := ⟨fun k => plC (OfNat.ofNat k)⟩
    ofNat := fun k => ⟨plC (OfNat.ofNat k)⟩
    nsmul := ⟨fun k f => plm (plC (OfNat.ofNat k)) f⟩
    npow := ⟨plw⟩
    add_zero := fun f => PL.ext (fun i => show f.1 i + (if i = 0 then 0 else 0) = f.1 i by split <;> grind)
    add_comm := fun f g => PL.ext (fun i => show f.1 i + g.1 i = g.1 i + f.1 i by grind)
    add_assoc := fun f g h => PL.ext (fun i => show f.1 i + g.1 i + h.1 i = f.1 i + (g.1 i + h.1 i) by grind)
    mul_assoc := fun f g h => PL.ext (fun i => cv_assoc g.1 h.1 i f.1)
    mul_one := fun f => PL.ext (fun i => show cv f.1 (fun i => if i = 0 then 1 else 0) i = f.1 i by
      rw [cv_comm, cv_C f.1 _ (fun i hi => if_neg (by omega)), if_pos rfl]
      grind)
    one_mul := fun f => PL.ext (fun i => show cv (fun i => if i = 0 then 1 else 0) f.1 i = f.1 i by
      rw [cv_C f.1 _ (fun i hi => if_neg (by omega)), if_pos rfl]
      grind)
    left_distrib := fun f g h => PL.ext (fun i => cv_addr g.1 h.1 i f.1)
    right_distrib := fun f g h => PL.ext (fun i => cv_addl h.1 i f.1 g.1)
    zero_mul := fun f => PL.ext (fun i => show cv (fun i => if i = 0 then 0 else 0) f.1 i = if i = 0 then 0 else 0 by
      rw [cv_z f.1 i _ (fun i _ => by split <;> rfl)]
      split <;> rfl)
    mul_zero := fun f => PL.ext (fun i => show cv f.1 (fun i => if i = 0 then 0 else 0) i = if i = 0 then 0 else 0 by
      rw [cv_comm, cv_z f.1 i _ (fun i _ => by split <;> rfl)]
      split <;> rfl)
    pow_zero := fun f => rfl
    pow_succ := fun f k => rfl
    ofNat_succ := fun k => PL.ext (fun i => show (if i = 0 then (OfNat.ofNat (k + 1) : α) else 0) = (if i = 0 then OfNat.ofNat k else 0) + (if i = 0 then 1 else 0) by
      split
      · exact Lean.Grind.Semiring.ofNat_succ k
      · grind)
    ofNat_eq_natCast := fun _ => rfl
    nsmul_eq_natCast_mul := fun _ _ => rfl }
abbrev plR (α : Type) [Lean.Grind.CommRing α] : Lean.Grind.CommRing (PL α) :=
  { plSR α with
    neg := pln
    sub := fun f g => pla f (pln g)
    intCast := ⟨fun i => plC (@IntCast.intCast α Lean.Grind.Ring.intCast i)⟩
    zsmul := ⟨fun i f => plm (plC (@IntCast.intCast α Lean.Grind.Ring.intCast i)) f⟩
    neg_add_cancel := fun f => PL.ext (fun i => show - f.1 i + f.1 i = if i = 0 then 0 else 0 by split <;> grind)
    sub_eq_add_neg := fun f g => rfl
    neg_zsmul := fun k f => PL.ext (fun i => show cv (fun i => if i = 0 then @IntCast.intCast α Lean.Grind.Ring.intCast (-k) else 0) f.1 i = - cv (fun i => if i = 0 then @IntCast.intCast α Lean.Grind.Ring.intCast k else 0) f.1 i by
      rw [cv_C f.1 _ (fun i hi => if_neg (by omega)), cv_C f.1 _ (fun i hi => if_neg (by omega)), if_pos rfl, if_pos rfl, show @IntCast.intCast α Lean.Grind.Ring.intCast (-k) = - @IntCast.intCast α Lean.Grind.Ring.intCast k from Lean.Grind.Ring.intCast_neg k]
      grind)
    zsmul_natCast_eq_nsmul := fun k f => PL.ext (fun i => show cv (fun i => if i = 0 then @IntCast.intCast α Lean.Grind.Ring.intCast (k : Int) else 0) f.1 i = cv (fun i => if i = 0 then OfNat.ofNat k else 0) f.1 i by
      rw [cv_C f.1 _ (fun i hi => if_neg (by omega)), cv_C f.1 _ (fun i hi => if_neg (by omega)), if_pos rfl, if_pos rfl]
      have := Lean.Grind.Ring.intCast_ofNat (α := α) k
      rw [← this]
      rfl)
    intCast_ofNat := fun k => PL.ext (fun i => show (if i = 0 then @IntCast.intCast α Lean.Grind.Ring.intCast (OfNat.ofNat k : Int) else 0) = (if i = 0 then (OfNat.ofNat k : α) else 0) by
      split
      · exact Lean.Grind.Ring.intCast_ofNat k
      · rfl)
    intCast_neg := fun k => PL.ext (fun i => show (if i = 0 then (@IntCast.intCast α Lean.Grind.Ring.intCast (-k)) else 0) = - (if i = 0 then @IntCast.intCast α Lean.Grind.Ring.intCast k else 0) by
      split
      · exact Lean.Grind.Ring.intCast_neg k
      · grind)
    mul_comm := fun f g => PL.ext (fun i => cv_comm i f.1 g.1) }
theorem pl_pol {α : Type} [Lean.Grind.Field α] (h2 : ∀ a : α, a + a = 0) : @Pol α (PL α) _ (plR α) (fun f => f.1) plC plX :=
  ⟨fun _ _ _ => rfl, fun _ _ _ => rfl, fun _ _ h => PL.ext h, fun f => f.2, fun _ _ => rfl, fun _ => rfl, fun f => PL.ext (fun i => show f.1 i + f.1 i = if i = 0 then 0 else 0 by rw [h2]; split <;> rfl), h2⟩
theorem gf_two {n q : Nat} (h : GFp n q) : letI := gfF h; ∀ a : GFt n q, a + a = 0 := by
  intro a
  exact GFt.ext (show a.1 ^^^ a.1 = 0 % 2 % 2 ^ n by rw [Nat.zero_mod, Nat.xor_self])
theorem gf_pol {n q : Nat} (h : GFp n q) : @Pol (GFt n q) (@PL (GFt n q) (gfR h)) (gfF h) (@plR (GFt n q) (gfR h)) (fun f => f.1) (@plC _ (gfR h)) (@plX _ (gfR h)) := @pl_pol _ (gfF h) (gf_two h)
