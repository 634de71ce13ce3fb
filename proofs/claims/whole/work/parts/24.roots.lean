/-! lists of cells side by side; Roots -/
section BWR
variable {g : bw_G} {R : Room} {k : bw_M} {Q : bw_O → bw_H → Prop} {cu su pc : Nat} {lv : List (Nat × Value)} {st : List Value} {A : bw_H}
theorem bw_aaldN {a n t y j : Nat} {f : Nat → Option Nat} {ty : FieldType} (pc' : Nat) (hd : decode k.2.1 pc = .ok (.aaload, 1)) (hp : pc + 1 = pc') (ht : (bw_ty g.2.1)[t]? = some (g.2.1 t, ty)) (hr : ty.isReference = true) (ha : A.2 a = some (bw_aq g t n f)) (hj : j < n) (hn : n < 2 ^ 31) (hy : f j = some y)
    (kk : bw_W g R k Q cu su pc' lv (.ref y :: st) A) : bw_W g R k Q cu su pc lv (.int (nI j) :: .ref a :: st) A :=
  bw_aald pc' hd hp ht hr ha (vp_in_nI hj hn) (by rw [nI_clamp (by omega)]; exact hy) kk
end BWR
theorem bw_has.app {A : bw_H} {ws us : List (Nat × va_E)} (h1 : bw_has A ws) (h2 : bw_has A us) (hd : ∀ p ∈ ws, ∀ q ∈ us, p.1 ≠ q.1) : bw_has A (ws ++ us) := by
  refine ⟨fun q hq => ?_, ?_⟩
  · rcases List.mem_append.mp hq with h | h
    · exact h1.1 q h
    · exact h2.1 q h
  · rw [List.map_append, List.nodup_append]
    refine ⟨h1.2, h2.2, ?_⟩
    intro a ha b hb he
    obtain ⟨p, hp, rfl⟩ := List.mem_map.mp ha
    obtain ⟨q, hq, rfl⟩ := List.mem_map.mp hb
    exact hd p hp q hq he
theorem bw_has.frm {L : List Nat} {A A' : bw_H} {ws : List (Nat × va_E)} (h : bw_has A ws) (hs : bw_sm L A A') (hd : ∀ q ∈ ws, q.1 ∉ L) : bw_has A' ws :=
  ⟨fun q hq => (hs.2 q.1 (hd q hq)).trans (h.1 q hq), h.2⟩
theorem bw_po_sm {g : bw_G} {A A' : bw_H} {a N m : Nat} {f : Nat → Nat} {v : Value} (h : A' = bw_po g A a N f m v) : bw_sm [a, a + 1] A A' := bw_sm.po bw_sm.rf h (by simp) (by simp)
theorem bw_po_has {g : bw_G} {A A' : bw_H} {a N m : Nat} {f : Nat → Nat} {v : Value} (h : A' = bw_po g A a N f m v) : bw_has A' (pcl g a N f m v) := by
  subst h
  refine ⟨fun q hq => ?_, by simp⟩
  simp only [pcl, List.mem_cons, List.not_mem_nil, or_false] at hq
  rcases hq with rfl | rfl
  · exact bw_up_eq
  · rw [bw_up_ne (by show a + 1 ≠ a; omega)]
    exact bw_up_eq
theorem bw_sm.big {L L' : List Nat} {A A' : bw_H} (h : bw_sm L A A') (hs : ∀ b ∈ L, b ∈ L') : bw_sm L' A A' := ⟨h.1, fun b hb => h.2 b (fun q => hb (hs b q))⟩
/-- n + 1 small polynomials from rb on -/
def bw_rq (g : bw_G) (A : bw_H) (rb n : Nat) (rf : Nat → Nat → Nat) (rm : Nat → Nat) : Prop := ∀ j, j ≤ n → bw_has A (pcl g (rb + 2 * j) 65 (rf j) (rm j) .null)
theorem bw_rq.frm {g : bw_G} {L : List Nat} {A A' : bw_H} {rb n : Nat} {rf : Nat → Nat → Nat} {rm : Nat → Nat} (h : bw_rq g A rb n rf rm) (hs : bw_sm L A A') (hd : ∀ b ∈ L, b < rb ∨ rb + (2 * n + 2) ≤ b) : bw_rq g A' rb n rf rm := by
  intro j hj
  refine (h j hj).frm hs (fun q hq hb => ?_)
  have := hd _ hb
  simp only [pcl, List.mem_cons, List.not_mem_nil, or_false] at hq
  rcases hq with rfl | rfl <;> · simp only at this; omega
theorem bw_rq.set {g : bw_G} {A A' : bw_H} {rb n i m : Nat} {rf : Nat → Nat → Nat} {rm : Nat → Nat} {f : Nat → Nat} (h : bw_rq g A rb n rf rm) (hA : A' = bw_po g A (rb + 2 * i) 65 f m .null) : bw_rq g A' rb n (fun j => if j = i then f else rf j) (fun j => if j = i then m else rm j) := by
  intro j hj
  by_cases he : j = i
  · subst he
    show bw_has A' (pcl g (rb + 2 * j) 65 (if j = j then f else rf j) (if j = j then m else rm j) .null)
    rw [if_pos rfl, if_pos rfl]
    exact bw_po_has hA
  · show bw_has A' (pcl g (rb + 2 * j) 65 (if j = i then f else rf j) (if j = i then m else rm j) .null)
    rw [if_neg he, if_neg he]
    refine (h j hj).frm (bw_po_sm hA) (fun q hq hb => ?_)
    simp only [pcl, List.mem_cons, List.not_mem_nil, or_false] at hq hb
    rcases hq with rfl | rfl <;> · simp only at hb; omega
/-- the values of the linearised polynomials -/
def gva (n q : Nat) (S : Nat → Nat) : Nat → Nat → Nat
  | 0, v => v
  | k + 1, v => gm n q (gva n q S k v) (gva n q S k v ^^^ S k)
theorem gva_lt {n q : Nat} (hG : GFp n q) (S : Nat → Nat) {v : Nat} (hv : v < 2 ^ n) : ∀ k, gva n q S k v < 2 ^ n
  | 0 => hv
  | k + 1 => hG.lt (gva_lt hG S hv k)
abbrev rob (F D sa ar la lo ot : Nat) : va_E := .inr (10, [.ref F, .ref D, .ref sa, .ref ar, .ref la, .ref lo, .ref ot])
noncomputable abbrev rfx (g : bw_G) (n p gg R D F sa ar la lo ot rb : Nat) (S : Nat → Nat) : List (Nat × va_E) := (R, rob F D sa ar la lo ot) :: (dvl g n p gg D F ++ [(sa, bw_an g n S), (ar, bw_aq g 4 (n + 1) (fun j => if j < n + 1 then some (rb + 2 * j) else none))])
set_option maxHeartbeats 4000000 in
set_option maxRecDepth 100000 in
theorem c8_valueAt_loop (g : bw_G) {A : bw_H} {R D F sa ar la lo ot n p gg j v NS : Nat} {S : Nat → Nat} (hG : GFg n p gg) (hC : bw_has A ((R, rob F D sa ar la lo ot) :: (fcl g n p gg F ++ [(sa, bw_an g NS S)]))) (hS : ∀ i, S i < 2 ^ n) (hv : v < 2 ^ n) (hj : j ≤ NS) (hNS : NS ≤ 16) :
    ∀ k, k ≤ j → bw_W g (bw_rm 1 0 0) mX8_valueAt (bw_pi (nI (gva n (2 ^ n ||| p) S j v)) A) 0 0 5 [(0, .ref R), (1, .int (nI j)), (3, .int (nI (gva n (2 ^ n ||| p) S k v))), (4, .int (nI k))] [] A := by
  refine nat_up j ?_ ?_
  · skip
    refine bw_iload 7 dX8_valueAt_5 rfl rfl ?_
    refine bw_iload_n 8 dX8_valueAt_7 rfl rfl ?_
    refine bw_icmp_ge 35 11 dX8_valueAt_8 rfl rfl (fun c8 => ?_) (fun c8 => ?_)
    · refine bw_iload_n 36 dX8_valueAt_35 rfl rfl ?_
      refine bw_iret dX8_valueAt_36 rfl (Nat.le_of_ble_eq_true rfl) (Nat.le_of_ble_eq_true rfl) ?_
      exact ⟨rfl, rfl⟩
    · exact absurd (Int32.le_refl _) c8
  · intro k hk ih
    refine bw_iload 7 dX8_valueAt_5 rfl rfl ?_
    refine bw_iload_n 8 dX8_valueAt_7 rfl rfl ?_
    refine bw_icmp_ge 35 11 dX8_valueAt_8 rfl rfl (fun c8 => ?_) (fun c8 => ?_)
    · exact absurd c8 (nI_ge (by omega) (by omega))
    · skip
      refine bw_aload_n 12 dX8_valueAt_11 rfl rfl ?_
      refine bw_get 15 dX8_valueAt_12 rfl lX8_26 (hC.at 0 rfl) rfl ?_
      refine bw_iload_n 16 dX8_valueAt_15 rfl rfl ?_
      refine bw_iload_n 17 dX8_valueAt_16 rfl rfl ?_
      refine bw_aload_n 18 dX8_valueAt_17 rfl rfl ?_
      refine bw_get 21 dX8_valueAt_18 rfl lX8_40 (hC.at 0 rfl) rfl ?_
      refine bw_iload 23 dX8_valueAt_21 rfl rfl ?_
      refine bw_ialdN 24 dX8_valueAt_23 rfl (hC.at 3 rfl) (by omega) (by omega) ?_
      refine bw_ixor 25 dX8_valueAt_24 rfl ?_
      refine bw_eqi (xn_xor _ _) ?_
      refine bw_cVi 28 dX8_valueAt_25 rfl vX8_52 (c3_mul g hG (hC.sub [1, 2] (by decide) rfl) (gva_lt hG.2.2.1 S hv k) (xor_lt (gva_lt hG.2.2.1 S hv k) (hS k))) (hC.at 1 rfl) rfl rfl (Nat.le_of_ble_eq_true rfl) ⟨(Nat.le_of_ble_eq_true rfl), (Nat.le_of_ble_eq_true rfl)⟩ (Nat.le_of_ble_eq_true rfl) (Nat.le_of_ble_eq_true rfl) ?_
      refine bw_istore_n 29 dX8_valueAt_28 rfl (by decide) ?_
      refine bw_iincN (1) 32 dX8_valueAt_29 rfl rfl (by decide) (by decide) ?_
      refine bw_goto 5 dX8_valueAt_32 rfl ?_
      exact bw_loc [(0, .ref R), (1, .int (nI j)), (3, .int (nI (gva n (2 ^ n ||| p) S (k + 1) v))), (4, .int (nI (k + 1)))] ⟨rfl, rfl, rfl, congrArg (fun x => some (Value.int x)) (nI_1 k), trivial⟩ ih
set_option maxHeartbeats 4000000 in
set_option maxRecDepth 100000 in
theorem c8_valueAt (g : bw_G) {A : bw_H} {R D F sa ar la lo ot n p gg j v NS : Nat} {S : Nat → Nat} (hG : GFg n p gg) (hC : bw_has A ((R, rob F D sa ar la lo ot) :: (fcl g n p gg F ++ [(sa, bw_an g NS S)]))) (hS : ∀ i, S i < 2 ^ n) (hv : v < 2 ^ n) (hj : j ≤ NS) (hNS : NS ≤ 16) :
    bw_C g (bw_rm 1 0 0) mX8_valueAt [.ref R, .int (nI j), .int (nI v)] A (bw_pi (nI (gva n (2 ^ n ||| p) S j v)) A) := by
  refine bw_C.of (by decide) (Nat.le_of_ble_eq_true rfl) rfl ?_
  refine bw_iload_n 1 dX8_valueAt_0 rfl rfl ?_
  refine bw_istore_n 2 dX8_valueAt_1 rfl (by decide) ?_
  refine bw_iconst (0) 3 dX8_valueAt_2 (by decide) rfl ?_
  refine bw_eqi (y := nI 0) rfl ?_
  refine bw_istore 5 dX8_valueAt_3 rfl (by decide) ?_
  exact bw_loc [(0, .ref R), (1, .int (nI j)), (3, .int (nI v)), (4, .int (nI 0))] ⟨rfl, rfl, rfl, rfl, trivial⟩ (c8_valueAt_loop g hG hC hS hv hj hNS 0 (Nat.zero_le j))
/-- the linearised polynomials' rests -/
def gmr (n q : Nat) (f S : Nat → Nat) : Nat → Nat → Nat
  | 0 => grs n q gX f
  | j + 1 => gps n q (grs n q (gsq n q (gmr n q f S j)) f) (gmr n q f S j) (S j)
theorem gmr_ok {n q N : Nat} (hG : GFp n q) {f S : Nat → Nat} (hf : pok n N f) (hN : N ≤ 65) (hS : ∀ i, S i < 2 ^ n) : ∀ j, pok n 65 (gmr n q f S j)
  | 0 => (grs_ok hG (pok.X (N := 2) hG.one (by omega))).mono (by have := hf.le (by omega); omega)
  | j + 1 => gps_ok hG ((grs_ok hG (gsq_ok hG (gmr_ok hG hf hN hS j) (M := 130) (by omega))).mono (by have := hf.le (by omega); omega)) (gmr_ok hG hf hN hS j) (hS j)
theorem bw_pp_has2 {g : bw_G} {A : bw_H} {x y N N' m m' : Nat} {f f' : Nat → Nat} {v v' : Value} (h1 : bw_has A (pcl g x N f m v)) (h2 : bw_has A (pcl g y N' f' m' v')) (hd : x + 1 < y ∨ y + 1 < x) : bw_has A (pcl g x N f m v ++ pcl g y N' f' m' v') := by
  refine h1.app h2 (fun p hp q hq => ?_)
  simp only [pcl, List.mem_cons, List.not_mem_nil, or_false] at hp hq
  rcases hp with rfl | rfl <;> rcases hq with rfl | rfl <;> · simp only; omega
/-- rests up to j are made -/
def rqf (n q : Nat) (f S : Nat → Nat) (rf0 : Nat → Nat → Nat) (j i : Nat) : Nat → Nat := if i ≤ j then gmr n q f S i else rf0 i
def rqm (n q : Nat) (f S : Nat → Nat) (rm0 : Nat → Nat) (j i : Nat) : Nat := if i ≤ j then pd (gmr n q f S i) else rm0 i
/-- what makeRests leaves -/
def mkP (g : bw_G) (n q ot rb : Nat) (f S : Nat → Nat) (A A' : bw_H) : Prop := bw_sm (ot :: (ot + 1) :: List.range' rb (2 * n + 2)) A A' ∧ bw_has A' (ppl g ot 129 (gmr n q f S n) .null) ∧ bw_rq g A' rb n (gmr n q f S) (fun j => pd (gmr n q f S j))
set_option maxHeartbeats 4000000 in
set_option maxRecDepth 100000 in
theorem c8_makeRests_loop (g : bw_G) {A0 : bw_H} {R D F sa ar la lo ot rb n p gg pa : Nat} {S f : Nat → Nat} {w : Value} {rf0 : Nat → Nat → Nat} {rm0 : Nat → Nat} (hG : GFg n p gg) (hsep : ∀ a ∈ [R, D, F, F + 1, sa, ar, ot, ot + 1, pa, pa + 1], a < rb ∨ rb + (2 * n + 2) ≤ a) (hf : pok n 65 f) (h0 : pd f ≠ 0) (hSb : ∀ i, S i < 2 ^ n) (hw0 : ∀ j, j ≤ n → pwk 65 (rf0 j) (rm0 j)) :
    ∀ r j, j + r = n → ∀ A : bw_H, bw_has A (rfx g n p gg R D F sa ar la lo ot rb S ++ (ppl g ot 129 (gmr n (2 ^ n ||| p) f S j) .null ++ ppl g pa 65 f w)) → bw_rq g A rb n (rqf n (2 ^ n ||| p) f S rf0 j) (rqm n (2 ^ n ||| p) f S rm0 j) → bw_sm (ot :: (ot + 1) :: List.range' rb (2 * n + 2)) A0 A →
      bw_W g (bw_rm 4 0 0) mX8_makeRests (bw_pv (mkP g n (2 ^ n ||| p) ot rb f S A0)) 0 0 34 [(0, .ref R), (1, .ref pa), (2, .int (nI j))] [] A := by
  have hn := hG.n16
  have hmr := gmr_ok hG.2.2.1 hf (by omega) hSb
  have hsr : ∀ j, pok n 129 (grs n (2 ^ n ||| p) (gsq n (2 ^ n ||| p) (gmr n (2 ^ n ||| p) f S j)) f) := fun j => (grs_ok hG.2.2.1 (gsq_ok hG.2.2.1 (hmr j) (M := 130) (by omega))).mono (by have := hf.le (by omega); omega)
  have hsO : ∀ b ∈ [ot, ot + 1], b < rb ∨ rb + (2 * n + 2) ≤ b := fun b hb => hsep b (by simp at hb ⊢; omega)
  have hsF := hsep F (by simp)
  have hsF1 := hsep (F + 1) (by simp)
  have hsO0 := hsep ot (by simp)
  have hsO1 := hsep (ot + 1) (by simp)
  intro r
  induction r with
  | zero =>
    intro j hj A hC hR hM
    have hj : j = n := by omega
    subst hj
    refine bw_iload_n 35 dX8_makeRests_34 rfl rfl ?_
    refine bw_aload_n 36 dX8_makeRests_35 rfl rfl ?_
    refine bw_get 39 dX8_makeRests_36 rfl lX8_26 (hC.at 0 rfl) rfl ?_
    refine bw_get 42 dX8_makeRests_39 rfl lX8_34 (hC.at 2 rfl) rfl ?_
    refine bw_icmp_ge 101 45 dX8_makeRests_42 rfl rfl (fun c42 => ?_) (fun c42 => ?_)
    · refine bw_vret dX8_makeRests_101 rfl (Nat.le_of_ble_eq_true rfl) (Nat.le_of_ble_eq_true rfl) ?_
      refine ⟨rfl, hM, hC.sub [6, 7] (by decide) rfl, fun i hi => ?_⟩
      have := hR i hi
      unfold rqf rqm at this
      rw [if_pos hi, if_pos hi] at this
      exact this
    · exact absurd (Int32.le_refl _) c42
  | succ r ih =>
    intro j hj A hC hR hM
    have hRj : ∀ {A' : bw_H}, bw_has A' [(ot, pob ot (pd (grs n (2 ^ n ||| p) (gsq n (2 ^ n ||| p) (gmr n (2 ^ n ||| p) f S j)) f)) .null), (ot + 1, bw_an g 129 (grs n (2 ^ n ||| p) (gsq n (2 ^ n ||| p) (gmr n (2 ^ n ||| p) f S j)) f)), (F, fob n p gg F), (F + 1, bw_ai g (2 ^ n) (gtb n (2 ^ n ||| p) gg))] → bw_rq g A' rb n (rqf n (2 ^ n ||| p) f S rf0 j) (rqm n (2 ^ n ||| p) f S rm0 j) →
        bw_has A' (ppl g ot 129 (grs n (2 ^ n ||| p) (gsq n (2 ^ n ||| p) (gmr n (2 ^ n ||| p) f S j)) f) .null ++ (fcl g n p gg F ++ ppl g (rb + 2 * j) 65 (gmr n (2 ^ n ||| p) f S j) .null)) := by
      intro A' h1 h
      have h2 := h j (by omega)
      unfold rqf rqm at h2
      rw [if_pos (Nat.le_refl j), if_pos (Nat.le_refl j)] at h2
      refine h1.app h2 ?_
      intro p' hp' q hq
      simp only [pcl, List.mem_cons, List.not_mem_nil, or_false] at hp' hq
      rcases hp' with rfl | rfl | rfl | rfl <;> rcases hq with rfl | rfl <;> · simp only; omega
    have hwj : pwk 65 (rqf n (2 ^ n ||| p) f S rf0 j (j + 1)) (rqm n (2 ^ n ||| p) f S rm0 j (j + 1)) := by
      unfold rqf rqm
      rw [if_neg (by omega), if_neg (by omega)]
      exact hw0 (j + 1) (by omega)
    have hsC : ∀ {i : Nat} {ws : List (Nat × va_E)}, i ≤ n → ws.map Prod.fst = [R, D, F, F + 1, sa, ar, ot, ot + 1, pa, pa + 1] → ∀ q ∈ ws, q.1 ∉ [rb + 2 * i, rb + 2 * i + 1] := by
      intro i ws hi hw q hq hb
      have := hsep q.1 (by rw [← hw]; exact List.mem_map_of_mem hq)
      simp at hb
      omega
    refine bw_iload_n 35 dX8_makeRests_34 rfl rfl ?_
    refine bw_aload_n 36 dX8_makeRests_35 rfl rfl ?_
    refine bw_get 39 dX8_makeRests_36 rfl lX8_26 (hC.at 0 rfl) rfl ?_
    refine bw_get 42 dX8_makeRests_39 rfl lX8_34 (hC.at 2 rfl) rfl ?_
    refine bw_icmp_ge 101 45 dX8_makeRests_42 rfl rfl (fun c42 => ?_) (fun c42 => ?_)
    · exact absurd c42 (nI_ge (by omega) (by omega))
    · skip
      refine bw_aload_n 46 dX8_makeRests_45 rfl rfl ?_
      refine bw_get 49 dX8_makeRests_46 rfl lX8_30 (hC.at 0 rfl) rfl ?_
      refine bw_aload_n 50 dX8_makeRests_49 rfl rfl ?_
      refine bw_get 53 dX8_makeRests_50 rfl lX8_23 (hC.at 0 rfl) rfl ?_
      refine bw_aload_n 54 dX8_makeRests_53 rfl rfl ?_
      refine bw_cVv 57 dX8_makeRests_54 rfl vX8_68 (c0_toSquareRest g hG (hC.sub [1, 2, 3, 6, 7, 8, 9] (by decide) rfl) (by omega) (by omega) (by omega) ((hmr j).mono (by omega)) hf h0 ((hmr j).le (by omega))) (hC.at 1 rfl) rfl rfl (Nat.le_of_ble_eq_true rfl) ⟨(Nat.le_of_ble_eq_true rfl), (Nat.le_of_ble_eq_true rfl)⟩ (Nat.le_of_ble_eq_true rfl) (Nat.le_of_ble_eq_true rfl) (fun A hP => ?_)
      have hC := hC.po 6 7 rfl rfl hP
      have hM := hM.po hP (by simp) (by simp)
      have hR := hR.frm (bw_po_sm hP) hsO
      refine bw_aload_n 58 dX8_makeRests_57 rfl rfl ?_
      refine bw_get 61 dX8_makeRests_58 rfl lX8_23 (hC.at 0 rfl) rfl ?_
      refine bw_aload_n 62 dX8_makeRests_61 rfl rfl ?_
      refine bw_get 65 dX8_makeRests_62 rfl lX8_26 (hC.at 0 rfl) rfl ?_
      refine bw_aload_n 66 dX8_makeRests_65 rfl rfl ?_
      refine bw_get 69 dX8_makeRests_66 rfl lX8_48 (hC.at 0 rfl) rfl ?_
      refine bw_iload_n 70 dX8_makeRests_69 rfl rfl ?_
      refine bw_aaldN 71 dX8_makeRests_70 rfl rfl rfl (hC.at 5 rfl) (by omega) (by omega) (if_pos (by omega)) ?_
      refine bw_aload_n 72 dX8_makeRests_71 rfl rfl ?_
      refine bw_get 75 dX8_makeRests_72 rfl lX8_40 (hC.at 0 rfl) rfl ?_
      refine bw_iload_n 76 dX8_makeRests_75 rfl rfl ?_
      refine bw_ialdN 77 dX8_makeRests_76 rfl (hC.at 4 rfl) (by omega) (by omega) ?_
      refine bw_cVv 80 dX8_makeRests_77 rfl vX8_71 (c7_addP g hG (hRj (hC.sub [6, 7, 2, 3] (by decide) rfl) hR) (by omega) (by omega) (hsr j) (hmr j) (Nat.le_trans ((hmr j).le (by omega)) (by omega)) (hSb j)) (hC.at 6 rfl) rfl rfl (Nat.le_of_ble_eq_true rfl) ⟨(Nat.le_of_ble_eq_true rfl), (Nat.le_of_ble_eq_true rfl)⟩ (Nat.le_of_ble_eq_true rfl) (Nat.le_of_ble_eq_true rfl) (fun A hP => ?_)
      have hC := hC.po 6 7 rfl rfl hP
      have hM := hM.po hP (by simp) (by simp)
      have hR := hR.frm (bw_po_sm hP) hsO
      refine bw_aload_n 81 dX8_makeRests_80 rfl rfl ?_
      refine bw_get 84 dX8_makeRests_81 rfl lX8_48 (hC.at 0 rfl) rfl ?_
      refine bw_iload_n 85 dX8_makeRests_84 rfl rfl ?_
      refine bw_iconst (1) 86 dX8_makeRests_85 (by decide) rfl ?_
      refine bw_eqi (y := nI 1) rfl ?_
      refine bw_iadd 87 dX8_makeRests_86 rfl ?_
      refine bw_eqi (nI_add j 1) ?_
      refine bw_aaldN 88 dX8_makeRests_87 rfl rfl rfl (hC.at 5 rfl) (by omega) (by omega) (if_pos (by omega)) ?_
      refine bw_aload_n 89 dX8_makeRests_88 rfl rfl ?_
      refine bw_get 92 dX8_makeRests_89 rfl lX8_23 (hC.at 0 rfl) rfl ?_
      refine bw_cVv 95 dX8_makeRests_92 rfl vX8_64 (c7_copyP g hG.p16 (bw_pp_has2 (hR (j + 1) (by omega)) (hC.sub [6, 7] (by decide) rfl) (by omega)) (by omega) (by omega) hwj ((hmr (j + 1)).mono (by omega)) ((hmr (j + 1)).le (by omega))) ((hR (j + 1) (by omega)).at 0 rfl) rfl rfl (Nat.le_of_ble_eq_true rfl) ⟨(Nat.le_of_ble_eq_true rfl), (Nat.le_of_ble_eq_true rfl)⟩ (Nat.le_of_ble_eq_true rfl) (Nat.le_of_ble_eq_true rfl) (fun A hP => ?_)
      have hR := hR.set hP
      have hC := hC.frm (bw_po_sm hP) (hsC (i := j + 1) (by omega) rfl)
      have hM := hM.po hP (by simp; omega) (by simp; omega)
      refine bw_iincN (1) 98 dX8_makeRests_95 rfl rfl (by decide) (by decide) ?_
      refine bw_goto 34 dX8_makeRests_98 rfl ?_
      refine bw_loc [(0, .ref R), (1, .ref pa), (2, .int (nI (j + 1)))] ⟨rfl, rfl, congrArg (fun x => some (Value.int x)) (nI_1 j), trivial⟩ ?_
      refine ih (j + 1) (by omega) _ hC (fun i hi => ?_) hM
      have h1 := hR i hi
      unfold rqf rqm at h1 ⊢
      dsimp only at h1
      by_cases he : i = j + 1
      · subst he
        rw [if_pos rfl, if_pos rfl] at h1
        rw [if_pos (Nat.le_refl _), if_pos (Nat.le_refl _)]
        exact h1
      · rw [if_neg he, if_neg he] at h1
        by_cases h2 : i ≤ j
        · rw [if_pos h2, if_pos h2] at h1
          rw [if_pos (by omega), if_pos (by omega)]
          exact h1
        · rw [if_neg h2, if_neg h2] at h1
          rw [if_neg (by omega), if_neg (by omega)]
          exact h1
set_option maxHeartbeats 4000000 in
set_option maxRecDepth 100000 in
theorem c8_makeRests (g : bw_G) {A0 : bw_H} {R D F sa ar la lo ot rb n p gg pa mo : Nat} {S f fo : Nat → Nat} {w : Value} {rf0 : Nat → Nat → Nat} {rm0 : Nat → Nat} (hG : GFg n p gg) (hsep : ∀ a ∈ [R, D, F, F + 1, sa, ar, ot, ot + 1, pa, pa + 1], a < rb ∨ rb + (2 * n + 2) ≤ a) (hC : bw_has A0 (rfx g n p gg R D F sa ar la lo ot rb S ++ (pcl g ot 129 fo mo .null ++ ppl g pa 65 f w))) (hR : bw_rq g A0 rb n rf0 rm0) (hf : pok n 65 f) (h0 : pd f ≠ 0) (hSb : ∀ i, S i < 2 ^ n) (hwo : pwk 129 fo mo) (hw0 : ∀ j, j ≤ n → pwk 65 (rf0 j) (rm0 j)) :
    bw_C g (bw_rm 4 0 0) mX8_makeRests [.ref R, .ref pa] A0 (bw_pv (mkP g n (2 ^ n ||| p) ot rb f S A0)) := by
  have hn := hG.n16
  have hmr0 := gmr_ok hG.2.2.1 hf (by omega) hSb 0
  have hsO : ∀ b ∈ [ot, ot + 1], b < rb ∨ rb + (2 * n + 2) ≤ b := fun b hb => hsep b (by simp at hb ⊢; omega)
  have hsO0 := hsep ot (by simp)
  have hsO1 := hsep (ot + 1) (by simp)
  have hsC : ∀ {ws : List (Nat × va_E)}, ws.map Prod.fst = [R, D, F, F + 1, sa, ar, ot, ot + 1, pa, pa + 1] → ∀ q ∈ ws, q.1 ∉ [rb + 2 * 0, rb + 2 * 0 + 1] := by
    intro ws hw q hq hb
    have := hsep q.1 (by rw [← hw]; exact List.mem_map_of_mem hq)
    simp at hb
    omega
  have hM : bw_sm (ot :: (ot + 1) :: List.range' rb (2 * n + 2)) A0 A0 := bw_sm.rf
  refine bw_C.of (by decide) (Nat.le_of_ble_eq_true rfl) rfl ?_
  refine bw_aload_n 1 dX8_makeRests_0 rfl rfl ?_
  refine bw_get 4 dX8_makeRests_1 rfl lX8_23 (hC.at 0 rfl) rfl ?_
  refine bw_cVv 7 dX8_makeRests_4 rfl vX8_55 (c7_XP g (hC.sub [6, 7] (by decide) rfl) (by omega) (by omega) hwo) (hC.at 6 rfl) rfl rfl (Nat.le_of_ble_eq_true rfl) ⟨(Nat.le_of_ble_eq_true rfl), (Nat.le_of_ble_eq_true rfl)⟩ (Nat.le_of_ble_eq_true rfl) (Nat.le_of_ble_eq_true rfl) (fun A hP => ?_)
  have hC := hC.po 6 7 rfl rfl hP
  have hM := hM.po hP (by simp) (by simp)
  have hR := hR.frm (bw_po_sm hP) hsO
  refine bw_aload_n 8 dX8_makeRests_7 rfl rfl ?_
  refine bw_get 11 dX8_makeRests_8 rfl lX8_30 (hC.at 0 rfl) rfl ?_
  refine bw_aload_n 12 dX8_makeRests_11 rfl rfl ?_
  refine bw_get 15 dX8_makeRests_12 rfl lX8_23 (hC.at 0 rfl) rfl ?_
  refine bw_aload_n 16 dX8_makeRests_15 rfl rfl ?_
  refine bw_cVv 19 dX8_makeRests_16 rfl vX8_58 (c0_toRest g hG (hC.sub [1, 2, 3, 6, 7, 8, 9] (by decide) rfl) (by omega) (by omega) (pok.X hG.2.2.1.one (by omega)) hf h0) (hC.at 1 rfl) rfl rfl (Nat.le_of_ble_eq_true rfl) ⟨(Nat.le_of_ble_eq_true rfl), (Nat.le_of_ble_eq_true rfl)⟩ (Nat.le_of_ble_eq_true rfl) (Nat.le_of_ble_eq_true rfl) (fun A hP => ?_)
  have hC := hC.po 6 7 rfl rfl hP
  have hM := hM.po hP (by simp) (by simp)
  have hR := hR.frm (bw_po_sm hP) hsO
  refine bw_aload_n 20 dX8_makeRests_19 rfl rfl ?_
  refine bw_get 23 dX8_makeRests_20 rfl lX8_48 (hC.at 0 rfl) rfl ?_
  refine bw_iconst (0) 24 dX8_makeRests_23 (by decide) rfl ?_
  refine bw_eqi (y := nI 0) rfl ?_
  refine bw_aaldN 25 dX8_makeRests_24 rfl rfl rfl (hC.at 5 rfl) (by omega) (by omega) (if_pos (by omega)) ?_
  refine bw_aload_n 26 dX8_makeRests_25 rfl rfl ?_
  refine bw_get 29 dX8_makeRests_26 rfl lX8_23 (hC.at 0 rfl) rfl ?_
  refine bw_cVv 32 dX8_makeRests_29 rfl vX8_64 (c7_copyP g hG.p16 (bw_pp_has2 (hR 0 (Nat.zero_le n)) (hC.sub [6, 7] (by decide) rfl) (by omega)) (by omega) (by omega) (hw0 0 (Nat.zero_le n)) (hmr0.mono (by omega)) (hmr0.le (by omega))) ((hR 0 (Nat.zero_le n)).at 0 rfl) rfl rfl (Nat.le_of_ble_eq_true rfl) ⟨(Nat.le_of_ble_eq_true rfl), (Nat.le_of_ble_eq_true rfl)⟩ (Nat.le_of_ble_eq_true rfl) (Nat.le_of_ble_eq_true rfl) (fun A hP => ?_)
  have hR := hR.set (i := 0) hP
  have hC := hC.frm (bw_po_sm hP) (hsC rfl)
  have hM := hM.po hP (by simp) (by simp)
  refine bw_iconst (0) 33 dX8_makeRests_32 (by decide) rfl ?_
  refine bw_eqi (y := nI 0) rfl ?_
  refine bw_istore_n 34 dX8_makeRests_33 rfl (by decide) ?_
  refine bw_loc [(0, .ref R), (1, .ref pa), (2, .int (nI 0))] ⟨rfl, rfl, rfl, trivial⟩ ?_
  refine c8_makeRests_loop g hG hsep hf h0 hSb hw0 n 0 (by omega) _ hC (fun i hi => ?_) hM
  have h1 := hR i hi
  unfold rqf rqm
  dsimp only at h1
  by_cases he : i = 0
  · subst he
    rw [if_pos rfl, if_pos rfl] at h1
    rw [if_pos (Nat.le_refl _), if_pos (Nat.le_refl _)]
    exact h1
  · rw [if_neg he, if_neg he] at h1
    rw [if_neg (by omega), if_neg (by omega)]
    exact h1
theorem bw_has.spl {A : bw_H} {ws us : List (Nat × va_E)} (h : bw_has A (ws ++ us)) : bw_has A ws ∧ bw_has A us ∧ ∀ p ∈ ws, ∀ q ∈ us, p.1 ≠ q.1 := by
  have h2 := h.2
  rw [List.map_append, List.nodup_append] at h2
  exact ⟨⟨fun q hq => h.1 q (List.mem_append_left _ hq), h2.1⟩, ⟨fun q hq => h.1 q (List.mem_append_right _ hq), h2.2.1⟩, fun p hp q hq => h2.2.2 p.1 (List.mem_map_of_mem hp) q.1 (List.mem_map_of_mem hq)⟩
theorem bw_has.call2 {A A' : bw_H} {ws us us' : List (Nat × va_E)} {L : List Nat} (h : bw_has A (ws ++ us)) (hS : bw_sm (us'.map Prod.fst ++ L) A A') (hsep : ∀ q ∈ ws, q.1 ∉ L) (he : us'.map Prod.fst = us.map Prod.fst) (h' : bw_has A' us') : bw_has A' (ws ++ us') := by
  obtain ⟨h1, h2, h3⟩ := h.spl
  have hne : ∀ q ∈ ws, q.1 ∉ us'.map Prod.fst := by
    intro q hq hb
    rw [he] at hb
    obtain ⟨z, hz, hzq⟩ := List.mem_map.mp hb
    exact h3 q hq z hz hzq.symm
  refine (h1.frm hS (fun q hq hb => ?_)).app h' (fun p hp q hq he' => hne p hp (by rw [he']; exact List.mem_map_of_mem hq))
  rcases List.mem_append.mp hb with hb | hb
  · exact hne q hq hb
  · exact hsep q hq hb
set_option maxHeartbeats 4000000 in
set_option maxRecDepth 100000 in
theorem c8_keepLower (g : bw_G) {A0 : bw_H} {R D F sa ar la lo ot rb n p gg ml mo j v : Nat} {S fl fw fo : Nat → Nat} {rf : Nat → Nat → Nat} (hG : GFg n p gg) (hsep : ∀ a ∈ [lo, lo + 1, ot, ot + 1], a < rb ∨ rb + (2 * n + 2) ≤ a) (hC : bw_has A0 (rfx g n p gg R D F sa ar la lo ot rb S ++ (ppl g la 129 fl .null ++ (pcl g lo 129 fw ml .null ++ pcl g ot 129 fo mo .null)))) (hR : bw_rq g A0 rb n rf (fun j => pd (rf j))) (hl : pok n 129 fl) (hSb : ∀ i, S i < 2 ^ n) (hwl : pwk 129 fw ml) (hwo : pwk 129 fo mo) (hrf : ∀ j, pok n 65 (rf j)) (hj : j ≤ n) (hv : v < 2 ^ n) :
    bw_C g (bw_rm 4 0 0) mX8_keepLower [.ref R, .int (nI j), .int (nI v)] A0 (bw_pv (bw_pg g lo ot 129 (ggcd n (2 ^ n ||| p) fl (gpc (rf j) (gva n (2 ^ n ||| p) S j v))) .null .null A0)) := by
  have hn := hG.n16
  have hsW : ∀ b ∈ [lo, lo + 1], b < rb ∨ rb + (2 * n + 2) ≤ b := fun b hb => hsep b (by simp at hb ⊢; omega)
  have hsO : ∀ b ∈ [ot, ot + 1], b < rb ∨ rb + (2 * n + 2) ≤ b := fun b hb => hsep b (by simp at hb ⊢; omega)
  have hsO0 := hsep ot (by simp)
  have hsO1 := hsep (ot + 1) (by simp)
  have hM : bw_sm [lo, lo + 1, ot, ot + 1] A0 A0 := bw_sm.rf
  refine bw_C.of (by decide) (Nat.le_of_ble_eq_true rfl) rfl ?_
  refine bw_aload_n 1 dX8_keepLower_0 rfl rfl ?_
  refine bw_get 4 dX8_keepLower_1 rfl lX8_20 (hC.at 0 rfl) rfl ?_
  refine bw_aload_n 5 dX8_keepLower_4 rfl rfl ?_
  refine bw_get 8 dX8_keepLower_5 rfl lX8_14 (hC.at 0 rfl) rfl ?_
  refine bw_cVv 11 dX8_keepLower_8 rfl vX8_64 (c7_copyP g hG.p16 (hC.sub [8, 9, 6, 7] (by decide) rfl) (by omega) (by omega) hwl hl (hl.le (by omega))) (hC.at 8 rfl) rfl rfl (Nat.le_of_ble_eq_true rfl) ⟨(Nat.le_of_ble_eq_true rfl), (Nat.le_of_ble_eq_true rfl)⟩ (Nat.le_of_ble_eq_true rfl) (Nat.le_of_ble_eq_true rfl) (fun A hP => ?_)
  have hC := hC.po 8 9 rfl rfl hP
  have hM := hM.po hP (by simp) (by simp)
  have hR := hR.frm (bw_po_sm hP) hsW
  refine bw_aload_n 12 dX8_keepLower_11 rfl rfl ?_
  refine bw_get 15 dX8_keepLower_12 rfl lX8_23 (hC.at 0 rfl) rfl ?_
  refine bw_aload_n 16 dX8_keepLower_15 rfl rfl ?_
  refine bw_get 19 dX8_keepLower_16 rfl lX8_48 (hC.at 0 rfl) rfl ?_
  refine bw_iload_n 20 dX8_keepLower_19 rfl rfl ?_
  refine bw_aaldN 21 dX8_keepLower_20 rfl rfl rfl (hC.at 5 rfl) (by omega) (by omega) (if_pos (by omega)) ?_
  refine bw_cVv 24 dX8_keepLower_21 rfl vX8_64 (c7_copyP g hG.p16 (bw_pp_has2 (hC.sub [10, 11] (by decide) rfl) (hR j hj) (by omega)) (by omega) (by omega) hwo (hrf j) (Nat.le_trans ((hrf j).le (by omega)) (by omega))) (hC.at 10 rfl) rfl rfl (Nat.le_of_ble_eq_true rfl) ⟨(Nat.le_of_ble_eq_true rfl), (Nat.le_of_ble_eq_true rfl)⟩ (Nat.le_of_ble_eq_true rfl) (Nat.le_of_ble_eq_true rfl) (fun A hP => ?_)
  have hC := hC.po 10 11 rfl rfl hP
  have hM := hM.po hP (by simp) (by simp)
  have hR := hR.frm (bw_po_sm hP) hsO
  refine bw_aload_n 25 dX8_keepLower_24 rfl rfl ?_
  refine bw_get 28 dX8_keepLower_25 rfl lX8_23 (hC.at 0 rfl) rfl ?_
  refine bw_aload_n 29 dX8_keepLower_28 rfl rfl ?_
  refine bw_iload_n 30 dX8_keepLower_29 rfl rfl ?_
  refine bw_iload_n 31 dX8_keepLower_30 rfl rfl ?_
  refine bw_cVi 34 dX8_keepLower_31 rfl vX8_44 (c8_valueAt g hG (hC.sub [0, 2, 3, 4] (by decide) rfl) hSb hv (by omega) hn) (hC.at 0 rfl) rfl rfl (Nat.le_of_ble_eq_true rfl) ⟨(Nat.le_of_ble_eq_true rfl), (Nat.le_of_ble_eq_true rfl)⟩ (Nat.le_of_ble_eq_true rfl) (Nat.le_of_ble_eq_true rfl) ?_
  refine bw_cVv 37 dX8_keepLower_34 rfl vX8_97 (c7_memP g hG.p16 (hC.sub [10, 11] (by decide) rfl) (by omega) (by omega) ((hrf j).mono (by omega)) (gva_lt hG.2.2.1 S hv j)) (hC.at 10 rfl) rfl rfl (Nat.le_of_ble_eq_true rfl) ⟨(Nat.le_of_ble_eq_true rfl), (Nat.le_of_ble_eq_true rfl)⟩ (Nat.le_of_ble_eq_true rfl) (Nat.le_of_ble_eq_true rfl) (fun A hP => ?_)
  have hC := hC.po 10 11 rfl rfl hP
  have hM := hM.po hP (by simp) (by simp)
  have hR := hR.frm (bw_po_sm hP) hsO
  refine bw_aload_n 38 dX8_keepLower_37 rfl rfl ?_
  refine bw_get 41 dX8_keepLower_38 rfl lX8_30 (hC.at 0 rfl) rfl ?_
  refine bw_aload_n 42 dX8_keepLower_41 rfl rfl ?_
  refine bw_get 45 dX8_keepLower_42 rfl lX8_20 (hC.at 0 rfl) rfl ?_
  refine bw_aload_n 46 dX8_keepLower_45 rfl rfl ?_
  refine bw_get 49 dX8_keepLower_46 rfl lX8_23 (hC.at 0 rfl) rfl ?_
  refine bw_cVv 52 dX8_keepLower_49 rfl vX8_81 (c0_toGreatestDivisor g hG (hC.sub [1, 2, 3, 8, 9, 10, 11] (by decide) rfl) (by omega) hl (gpc_ok (by omega) ((hrf j).mono (by omega)) (gva_lt hG.2.2.1 S hv j))) (hC.at 1 rfl) rfl rfl (Nat.le_of_ble_eq_true rfl) ⟨(Nat.le_of_ble_eq_true rfl), (Nat.le_of_ble_eq_true rfl)⟩ (Nat.le_of_ble_eq_true rfl) (Nat.le_of_ble_eq_true rfl) (fun A hP => ?_)
  refine bw_vret dX8_keepLower_52 rfl (Nat.le_of_ble_eq_true rfl) (Nat.le_of_ble_eq_true rfl) ?_
  exact ⟨rfl, hM.trans hP.1 (by simp), hP.2⟩
