/-! rows of an array of arrays; Elimination -/
section BWO
variable {g : bw_G} {R : Room} {k : bw_M} {Q : bw_O → bw_H → Prop} {cu su pc : Nat} {lv : List (Nat × Value)} {st : List Value} {A : bw_H}
/-- an array of small numbers and of -1 -/
abbrev bw_ao (g : bw_G) (n : Nat) (F : Nat → Option Nat) : va_E := bw_ai g n (fun i => oI (F i))
theorem bw_ialdO {a n j : Nat} {F : Nat → Option Nat} (pc' : Nat) (hd : decode k.2.1 pc = .ok (.iaload, 1)) (hp : pc + 1 = pc') (ha : A.2 a = some (bw_ao g n F)) (hj : j < n) (hn : n < 2 ^ 31)
    (kk : bw_W g R k Q cu su pc' lv (.int (oI (F j)) :: st) A) : bw_W g R k Q cu su pc lv (.int (nI j) :: .ref a :: st) A := by
  refine bw_iald pc' hd hp ha (vp_in_nI hj hn) ?_
  rw [nI_clamp (by omega)]
  exact kk
theorem bw_iastO {a n j : Nat} {v : Option Nat} {F G : Nat → Option Nat} (pc' : Nat) (hd : decode k.2.1 pc = .ok (.iastore, 1)) (hp : pc + 1 = pc') (ha : A.2 a = some (bw_ao g n F)) (hj : j < n) (hn : n < 2 ^ 31) (hG : (fun i => if i = j then v else F i) = G)
    (kk : ∀ A' : bw_H, A' = bw_up A a (bw_ao g n G) → bw_W g R k Q cu su pc' lv st A') : bw_W g R k Q cu su pc lv (.int (oI v) :: .int (nI j) :: .ref a :: st) A := by
  refine bw_iastU pc' hd hp ha (vp_in_nI hj hn) (fun A' h => kk A' ?_)
  rw [h, ← hG]
  refine congrArg (fun f => bw_up A a (bw_ai g n f)) ?_
  funext i
  unfold upd
  rw [nI_clamp (by omega)]
  show (if i = j then oI v else oI (F i)) = oI (if i = j then v else F i)
  split <;> rfl
end BWO
def bw_rw (g : bw_G) (A : bw_H) (eb c M : Nat) (w : Nat → Nat → Nat) : Prop := ∀ i, i < c → A.2 (eb + i) = some (bw_an g M (w i))
theorem bw_rw.set {g : bw_G} {A A' : bw_H} {eb c M i : Nat} {w w' : Nat → Nat → Nat} {f : Nat → Nat} (h : bw_rw g A eb c M w) (hA : A' = bw_up A (eb + i) (bw_an g M f)) (hw : ∀ a, (if a = i then f else w a) = w' a) : bw_rw g A' eb c M w' := by
  intro a ha
  rw [← hw a, hA]
  by_cases he : a = i
  · subst he
    rw [if_pos rfl]
    exact bw_up_eq
  · rw [if_neg he, bw_up_ne (by omega)]
    exact h a ha
theorem bw_rw.frm {g : bw_G} {L : List Nat} {A A' : bw_H} {eb c M : Nat} {w : Nat → Nat → Nat} (h : bw_rw g A eb c M w) (hs : bw_sm L A A') (hd : ∀ b ∈ L, b < eb ∨ eb + c ≤ b) : bw_rw g A' eb c M w := by
  intro a ha
  rw [hs.2 (eb + a) (fun hb => by have := hd _ hb; omega)]
  exact h a ha
theorem bw_up_sm {A A' : bw_H} {a : Nat} {e : va_E} (h : A' = bw_up A a e) : bw_sm [a] A A' := bw_sm.upd bw_sm.rf h (by simp)
theorem bw_has.row {A A' : bw_H} {ws : List (Nat × va_E)} {eb c i : Nat} {e : va_E} (h : bw_has A ws) (hA : A' = bw_up A (eb + i) e) (hi : i < c) (hs : ∀ a ∈ ws.map Prod.fst, a < eb ∨ eb + c ≤ a) : bw_has A' ws := by
  refine h.frm (bw_up_sm hA) (fun q hq hb => ?_)
  have := hs q.1 (List.mem_map_of_mem hq)
  simp at hb
  omega
abbrev eob (F ec pr h wd rk pp : Nat) : va_E := .inr (3, [.ref F, .ref ec, .ref pr, .int (nI h), .int (nI wd), .int (nI rk), .int (nI pp)])
abbrev eco (g : bw_G) (ec c : Nat) : va_E := bw_aq g 2 c (fun i => if i < c then some (ec + 1 + i) else none)
noncomputable abbrev evl (g : bw_G) (n p gg E F ec pr h wd rk pp : Nat) (pv : Nat → Option Nat) : List (Nat × va_E) := (E, eob F ec pr h wd rk pp) :: (fcl g n p gg F ++ [(ec, eco g ec 8), (pr, bw_ao g 8 pv)])
abbrev mob (M r c : Nat) : va_E := .inr (7, [.int (nI r), .int (nI c), .ref (M + 1)])
abbrev mcl (g : bw_G) (M r c : Nat) (f : Nat → Nat) : List (Nat × va_E) := [(M, mob M r c), (M + 1, bw_an g (r * c) f)]
abbrev elL (E ec pr : Nat) : List Nat := E :: pr :: List.range' (ec + 1) 8
theorem cpy_nn (h f : Nat → Nat) {a b c : Nat} (ha : a < 2 ^ 31) (hb : b < 2 ^ 31) (hc : c < 2 ^ 31) : va_cpy (fun i => nI (h i)) (fun i => nI (f i)) (nI a).toNatClampNeg (nI b).toNatClampNeg (nI c).toNatClampNeg = fun i => nI (if b ≤ i ∧ i < b + c then h (a + (i - b)) else f i) := by
  funext i
  rw [nI_clamp ha, nI_clamp hb, nI_clamp hc]
  unfold va_cpy
  by_cases h1 : b ≤ i ∧ i < b + c
  · rw [if_pos h1, if_pos h1]
  · rw [if_neg h1, if_neg h1]
/-- the first k rows of a matrix, loaded -/
def gel (c : Nat) (m : Nat → Nat) (W : Nat → Nat → Nat) (k i j : Nat) : Nat := if i < k ∧ j < c then m (i * c + j) else W i j
theorem gel_s (c : Nat) (m : Nat → Nat) (W : Nat → Nat → Nat) (k : Nat) : ∀ a, (if a = k then (fun j => if 0 ≤ j ∧ j < 0 + c then m (k * c + (j - 0)) else gel c m W k k j) else gel c m W k a) = gel c m W (k + 1) a := by
  intro a
  funext j
  by_cases h1 : a = k
  · subst h1
    rw [if_pos rfl]
    show (if 0 ≤ j ∧ j < 0 + c then m (a * c + (j - 0)) else gel c m W a a j) = _
    unfold gel
    by_cases h2 : j < c
    · rw [if_pos (by omega), if_pos (by omega), Nat.sub_zero]
    · rw [if_neg (by omega), if_neg (by omega), if_neg (by omega)]
  · rw [if_neg h1]
    unfold gel
    by_cases h2 : a < k ∧ j < c
    · rw [if_pos h2, if_pos (by omega)]
    · rw [if_neg h2, if_neg (by omega)]
theorem row_end {r c k : Nat} (hk : k < r) : k * c + c ≤ r * c := by
  have : (k + 1) * c ≤ r * c := Nat.mul_le_mul_right c hk
  rw [Nat.add_mul, Nat.one_mul] at this
  exact this
/-- the state of an Elimination -/
def elP (g : bw_G) (n p gg E F ec pr h wd rk pp : Nat) (pv : Nat → Option Nat) (W : Nat → Nat → Nat) (A0 A' : bw_H) : Prop := bw_sm (elL E ec pr) A0 A' ∧ bw_has A' (evl g n p gg E F ec pr h wd rk pp pv) ∧ bw_rw g A' (ec + 1) 8 16 W
set_option maxHeartbeats 4000000 in
set_option maxRecDepth 100000 in
theorem c1_load_loop (g : bw_G) {A0 : bw_H} {E F ec pr n p gg rk pp r c M : Nat} {pv : Nat → Option Nat} {m : Nat → Nat} {W : Nat → Nat → Nat} (hsep : ∀ a ∈ [E, F, F + 1, ec, pr, M, M + 1], a < ec + 1 ∨ ec + 1 + 8 ≤ a) (hr : r ≤ 8) (hc : c ≤ 8) :
    ∀ k, k ≤ r → ∀ A : bw_H, bw_has A (evl g n p gg E F ec pr r c rk pp pv ++ mcl g M r c m) → bw_rw g A (ec + 1) 8 16 (gel c m W k) → bw_sm (elL E ec pr) A0 A →
      bw_W g (bw_rm 1 0 0) mX1_load (bw_pv (elP g n p gg E F ec pr r c rk pp pv (gel c m W r) A0)) 0 0 18 [(0, .ref E), (1, .ref M), (2, .int (nI k))] [] A := by
  have hrc : r * c ≤ 64 := Nat.mul_le_mul hr hc
  refine nat_up r ?_ ?_
  · intro A hC hR hM
    refine bw_iload_n 19 dX1_load_18 rfl rfl ?_
    refine bw_aload_n 20 dX1_load_19 rfl rfl ?_
    refine bw_get 23 dX1_load_20 rfl lX1_30 (hC.at 0 rfl) rfl ?_
    refine bw_icmp_ge 56 26 dX1_load_23 rfl rfl (fun c23 => ?_) (fun c23 => ?_)
    · refine bw_vret dX1_load_56 rfl (Nat.le_of_ble_eq_true rfl) (Nat.le_of_ble_eq_true rfl) ?_
      exact ⟨rfl, hM, hC.sub [0, 1, 2, 3, 4] (by decide) rfl, hR⟩
    · exact absurd (Int32.le_refl _) c23
  · intro k hk ih A hC hR hM
    have hkr := row_end (c := c) hk
    have hkc : k * c < 2 ^ 31 := by omega
    refine bw_iload_n 19 dX1_load_18 rfl rfl ?_
    refine bw_aload_n 20 dX1_load_19 rfl rfl ?_
    refine bw_get 23 dX1_load_20 rfl lX1_30 (hC.at 0 rfl) rfl ?_
    refine bw_icmp_ge 56 26 dX1_load_23 rfl rfl (fun c23 => ?_) (fun c23 => ?_)
    · exact absurd c23 (nI_ge (by omega) (by omega))
    · skip
      refine bw_aload_n 27 dX1_load_26 rfl rfl ?_
      refine bw_get 30 dX1_load_27 rfl lX1_39 (hC.at 5 rfl) rfl ?_
      refine bw_iload_n 31 dX1_load_30 rfl rfl ?_
      refine bw_aload_n 32 dX1_load_31 rfl rfl ?_
      refine bw_get 35 dX1_load_32 rfl lX1_36 (hC.at 0 rfl) rfl ?_
      refine bw_imul 36 dX1_load_35 rfl ?_
      refine bw_eqi (pk_mul k c) ?_
      refine bw_aload_n 37 dX1_load_36 rfl rfl ?_
      refine bw_get 40 dX1_load_37 rfl lX1_11 (hC.at 0 rfl) rfl ?_
      refine bw_iload_n 41 dX1_load_40 rfl rfl ?_
      refine bw_aaldN 42 dX1_load_41 rfl rfl rfl (hC.at 3 rfl) (by omega) (by omega) (if_pos (by omega)) ?_
      refine bw_iconst (0) 43 dX1_load_42 (by decide) rfl ?_
      refine bw_eqi (y := nI 0) rfl ?_
      refine bw_aload_n 44 dX1_load_43 rfl rfl ?_
      refine bw_get 47 dX1_load_44 rfl lX1_36 (hC.at 0 rfl) rfl ?_
      refine bw_copyU 50 dX1_load_47 rfl aX1_41 bw_aN bw_aS bw_aI (hC.at 6 rfl) (hR k (by omega)) (by exact nI_pos (by omega)) (by exact nI_pos (by omega)) (by exact nI_pos (by omega)) (by rw [nI_clamp hkc, nI_clamp (by omega)]; exact hkr) (by rw [nI_clamp (by omega), nI_clamp (by omega)]; omega) (Nat.le_of_ble_eq_true rfl) (Nat.le_of_ble_eq_true rfl) (fun A hU => ?_)
      rw [cpy_nn m (gel c m W k k) hkc (by omega) (by omega)] at hU
      have hR := hR.set (w' := gel c m W (k + 1)) hU (gel_s c m W k)
      have hC := hC.row hU (show k < 8 by omega) hsep
      have hM := hM.upd hU (by simp; omega)
      refine bw_iincN (1) 53 dX1_load_50 rfl rfl (by decide) (by decide) ?_
      refine bw_goto 18 dX1_load_53 rfl ?_
      refine bw_loc [(0, .ref E), (1, .ref M), (2, .int (nI (k + 1)))] ⟨rfl, rfl, congrArg (fun x => some (Value.int x)) (nI_1 k), trivial⟩ ?_
      exact ih _ hC hR hM
theorem gel_0 (c : Nat) (m : Nat → Nat) (W : Nat → Nat → Nat) : gel c m W 0 = W := by
  funext i j
  exact if_neg (by omega)
set_option maxHeartbeats 4000000 in
set_option maxRecDepth 100000 in
theorem c1_load (g : bw_G) {A0 : bw_H} {E F ec pr n p gg h wd rk pp r c M : Nat} {pv : Nat → Option Nat} {m : Nat → Nat} {W : Nat → Nat → Nat} (hsep : ∀ a ∈ [E, F, F + 1, ec, pr, M, M + 1], a < ec + 1 ∨ ec + 1 + 8 ≤ a) (hr : r ≤ 8) (hc : c ≤ 8) (hC : bw_has A0 (evl g n p gg E F ec pr h wd rk pp pv ++ mcl g M r c m)) (hR : bw_rw g A0 (ec + 1) 8 16 W) :
    bw_C g (bw_rm 1 0 0) mX1_load [.ref E, .ref M] A0 (bw_pv (elP g n p gg E F ec pr r c rk pp pv (gel c m W r) A0)) := by
  have hM : bw_sm (elL E ec pr) A0 A0 := bw_sm.rf
  have hsE : ∀ b ∈ [E], b < ec + 1 ∨ ec + 1 + 8 ≤ b := fun b hb => hsep b (by simp at hb ⊢; omega)
  refine bw_C.of (by decide) (Nat.le_of_ble_eq_true rfl) rfl ?_
  refine bw_aload_n 1 dX1_load_0 rfl rfl ?_
  refine bw_aload_n 2 dX1_load_1 rfl rfl ?_
  refine bw_get 5 dX1_load_2 rfl lX1_24 (hC.at 5 rfl) rfl ?_
  refine bw_putU 8 dX1_load_5 rfl pX1_30 (hC.at 0 rfl) rfl rfl (Nat.le_of_ble_eq_true rfl) (fun A hU => ?_)
  have hC := hC.upd 0 rfl hU
  have hR := hR.frm (bw_up_sm hU) hsE
  have hM := hM.upd hU (by simp)
  refine bw_aload_n 9 dX1_load_8 rfl rfl ?_
  refine bw_aload_n 10 dX1_load_9 rfl rfl ?_
  refine bw_get 13 dX1_load_10 rfl lX1_33 (hC.at 5 rfl) rfl ?_
  refine bw_putU 16 dX1_load_13 rfl pX1_36 (hC.at 0 rfl) rfl rfl (Nat.le_of_ble_eq_true rfl) (fun A hU => ?_)
  have hC := hC.upd 0 rfl hU
  have hR := hR.frm (bw_up_sm hU) hsE
  have hM := hM.upd hU (by simp)
  refine bw_iconst (0) 17 dX1_load_16 (by decide) rfl ?_
  refine bw_eqi (y := nI 0) rfl ?_
  refine bw_istore_n 18 dX1_load_17 rfl (by decide) ?_
  refine bw_loc [(0, .ref E), (1, .ref M), (2, .int (nI 0))] ⟨rfl, rfl, rfl, trivial⟩ ?_
  exact c1_load_loop g hsep hr hc 0 (Nat.zero_le r) _ hC (by rw [gel_0]; exact hR) hM
