/-! the class's Polynomial: loads, copies, sums -/
section BWZ
variable {g : bw_G} {R : Room} {k : bw_M} {Q : bw_O → bw_H → Prop} {cu su pc : Nat} {lv : List (Nat × Value)} {st : List Value} {A : bw_H}
theorem bw_ialdN {a n j : Nat} {F : Nat → Nat} (pc' : Nat) (hd : decode k.2.1 pc = .ok (.iaload, 1)) (hp : pc + 1 = pc') (ha : A.2 a = some (bw_an g n F)) (hj : j < n) (hn : n < 2 ^ 31)
    (kk : bw_W g R k Q cu su pc' lv (.int (nI (F j)) :: st) A) : bw_W g R k Q cu su pc lv (.int (nI j) :: .ref a :: st) A := by
  refine bw_iald pc' hd hp ha (vp_in_nI hj hn) ?_
  rw [nI_clamp (by omega)]
  exact kk
theorem bw_iastN {a n j v : Nat} {F G : Nat → Nat} (pc' : Nat) (hd : decode k.2.1 pc = .ok (.iastore, 1)) (hp : pc + 1 = pc') (ha : A.2 a = some (bw_an g n F)) (hj : j < n) (hn : n < 2 ^ 31) (hG : (fun i => if i = j then v else F i) = G)
    (kk : ∀ A' : bw_H, A' = bw_up A a (bw_an g n G) → bw_W g R k Q cu su pc' lv st A') : bw_W g R k Q cu su pc lv (.int (nI v) :: .int (nI j) :: .ref a :: st) A := by
  refine bw_iastU pc' hd hp ha (vp_in_nI hj hn) (fun A' h => ?_)
  rw [an_updE (by omega) hG] at h
  exact kk A' h
end BWZ
theorem bw_has.po {g : bw_G} {A A' : bw_H} {ws : List (Nat × va_E)} (h : bw_has A ws) (i j : Nat) {a N m : Nat} {f : Nat → Nat} {v : Value} {e0 e1 : va_E} (hi : ws[i]? = some (a, e0)) (hj : ws[j]? = some (a + 1, e1)) (hA : A' = bw_po g A a N f m v) : bw_has A' ((ws.set j (a + 1, bw_an g N f)).set i (a, pob a m v)) := by
  subst hA
  refine (h.up j hj).up i (e0 := e0) ?_
  rw [List.getElem?_set, if_neg]
  · exact hi
  · intro he
    subst he
    rw [hi] at hj
    have := congrArg Prod.fst (Option.some.inj hj)
    simp at this
theorem bw_sm.po {g : bw_G} {L : List Nat} {A0 A A' : bw_H} {a N m : Nat} {f : Nat → Nat} {v : Value} (h : bw_sm L A0 A) (hA : A' = bw_po g A a N f m v) (h1 : a ∈ L) (h2 : a + 1 ∈ L) : bw_sm L A0 A' := by
  subst hA
  exact (h.upd rfl h2).upd rfl h1
/-- up to count, by steps -/
theorem nat_up {P : Nat → Prop} (c : Nat) (h0 : P c) (hs : ∀ k, k < c → P (k + 1) → P k) : ∀ k, k ≤ c → P k := by
  have key : ∀ r k, k + r = c → P k := by
    intro r
    induction r with
    | zero => intro k hk; rw [show k = c by omega]; exact h0
    | succ r ih => intro k hk; exact hs k (by omega) (ih (k + 1) (by omega))
  intro k hk
  exact key (c - k) k (by omega)
def gcut (h : Nat → Nat) (c : Nat) (i : Nat) : Nat := if i < c then h i else 0
theorem cpy_cut (h : Nat → Nat) {c : Nat} (hc : c < 2 ^ 31) : va_cpy (fun i => nI (h i)) (fun _ => nI 0) (0 : Int32).toNatClampNeg (0 : Int32).toNatClampNeg (nI c).toNatClampNeg = fun i => nI (gcut h c i) := by
  funext i
  rw [nI_clamp hc, sb_cl0]
  unfold va_cpy gcut
  by_cases h1 : i < c
  · rw [if_pos ⟨by omega, by omega⟩, if_pos h1]
    simp
  · rw [if_neg (by omega), if_neg h1]
set_option maxHeartbeats 4000000 in
set_option maxRecDepth 100000 in
theorem c7_load (g : bw_G) {A0 : bw_H} {a y N ny m c : Nat} {f h : Nat → Nat} {v : Value} (hC : bw_has A0 (pcl g a N f m v ++ [(y, bw_an g ny h)])) (hN : N < 2 ^ 30) (hmN : m ≤ N) (hz : ∀ i, m ≤ i → f i = 0) (hcN : c ≤ N) (hcy : c ≤ ny) (hh : ∀ i, h i < 2 ^ 31) :
    bw_C g (bw_rm 1 0 0) mX7_load [.ref a, .ref y, .int (nI c)] A0 (bw_pv (fun A' => A' = bw_po g A0 a N (gcut h c) (gtp (gcut h c) c) v)) := by
  refine bw_C.of (by decide) (Nat.le_of_ble_eq_true rfl) rfl ?_
  refine bw_aload_n 1 dX7_load_0 rfl rfl ?_
  refine bw_cVv 4 dX7_load_1 rfl vX7_22 (c7_clear g (hC.sub [0, 1] (by decide) rfl) hN hmN hz) (hC.at 0 rfl) rfl rfl (Nat.le_of_ble_eq_true rfl) ⟨(Nat.le_of_ble_eq_true rfl), (Nat.le_of_ble_eq_true rfl)⟩ (Nat.le_of_ble_eq_true rfl) (Nat.le_of_ble_eq_true rfl) (fun A hP => ?_)
  subst hP
  have hC := (hC.up 1 (e := bw_an g N (fun _ => 0)) rfl).up 0 (e := pob a 0 v) rfl
  refine bw_aload_n 5 dX7_load_4 rfl rfl ?_
  refine bw_iconst (0) 6 dX7_load_5 (by decide) rfl ?_
  refine bw_aload_n 7 dX7_load_6 rfl rfl ?_
  refine bw_get 10 dX7_load_7 rfl lX7_19 (hC.at 0 rfl) rfl ?_
  refine bw_iconst (0) 11 dX7_load_10 (by decide) rfl ?_
  refine bw_iload_n 12 dX7_load_11 rfl rfl ?_
  refine bw_copyU 15 dX7_load_12 rfl aX7_25 bw_aN bw_aS bw_aI (hC.at 2 rfl) (hC.at 1 rfl) (by decide) (by decide) (by exact nI_pos (by omega)) (by rw [sb_cl0, nI_clamp (by omega)]; omega) (by rw [sb_cl0, nI_clamp (by omega)]; omega) (Nat.le_of_ble_eq_true rfl) (Nat.le_of_ble_eq_true rfl) (fun A hU => ?_)
  rw [cpy_cut h (by omega)] at hU
  have hC := hC.upd 1 rfl hU
  refine bw_aload_n 16 dX7_load_15 rfl rfl ?_
  refine bw_iload_n 17 dX7_load_16 rfl rfl ?_
  refine bw_iconst (1) 18 dX7_load_17 (by decide) rfl ?_
  refine bw_isub 19 dX7_load_18 rfl ?_
  refine bw_eqi (tI_sub c) ?_
  refine bw_cVv 22 dX7_load_19 rfl vX7_31 (c7_settle g (hC.sub [0, 1] (by decide) rfl) hN hcN (fun i => by unfold gcut; split; exact hh i; omega)) (hC.at 0 rfl) rfl rfl (Nat.le_of_ble_eq_true rfl) ⟨(Nat.le_of_ble_eq_true rfl), (Nat.le_of_ble_eq_true rfl)⟩ (Nat.le_of_ble_eq_true rfl) (Nat.le_of_ble_eq_true rfl) (fun A hP => ?_)
  subst hU
  refine bw_vret dX7_load_22 rfl (Nat.le_of_ble_eq_true rfl) (Nat.le_of_ble_eq_true rfl) ?_
  exact ⟨rfl, by rw [hP]; exact bw_po_po⟩
/-- m coefficients below 2 to the n, the highest not 0, N places -/
def pnm (n N : Nat) (f : Nat → Nat) (m : Nat) : Prop := m ≤ N ∧ (∀ i, m ≤ i → f i = 0) ∧ (∀ i, f i < 2 ^ n) ∧ (m ≠ 0 → f (m - 1) ≠ 0)
theorem pnm.tp {n N m : Nat} {f : Nat → Nat} (h : pnm n N f m) : gtp f m = m := by
  cases m with
  | zero => rfl
  | succ m =>
    have := h.2.2.2 (by omega)
    exact if_neg this
theorem pnm.cut {n N m : Nat} {f : Nat → Nat} (h : pnm n N f m) : gcut f m = f := by
  funext i
  unfold gcut
  split
  · rfl
  · exact (h.2.1 i (by omega)).symm
theorem pnm.zero (n N : Nat) : pnm n N (fun _ => 0) 0 := ⟨Nat.zero_le _, fun _ _ => rfl, fun _ => Nat.two_pow_pos n, fun h => absurd rfl h⟩
/-- what settle makes -/
theorem pnm.of {n N m : Nat} {f : Nat → Nat} (hm : m ≤ N) (hz : ∀ i, m ≤ i → f i = 0) (hf : ∀ i, f i < 2 ^ n) : pnm n N f (gtp f m) :=
  ⟨Nat.le_trans (gtp_le f m) hm, fun i hi => by
    rcases Nat.lt_or_ge i m with h | h
    · exact gtp_z f m i hi h
    · exact hz i h, hf, gtp_top f m⟩
theorem pnm.le {n N N' m : Nat} {f : Nat → Nat} (h : pnm n N f m) (hm : m ≤ N') : pnm n N' f m := ⟨hm, h.2⟩
set_option maxHeartbeats 4000000 in
set_option maxRecDepth 100000 in
theorem c7_copyFrom (g : bw_G) {A0 : bw_H} {a b n N NB m mb : Nat} {f h : Nat → Nat} {v w : Value} (hn : 2 ^ n ≤ 65536) (hC : bw_has A0 (pcl g a N f m v ++ pcl g b NB h mb w)) (hN : N < 2 ^ 30) (hmN : m ≤ N) (hz : ∀ i, m ≤ i → f i = 0) (hb : pnm n NB h mb) (hbN : mb ≤ N) :
    bw_C g (bw_rm 2 0 0) mX7_copyFrom [.ref a, .ref b] A0 (bw_pv (fun A' => A' = bw_po g A0 a N h mb v)) := by
  refine bw_C.of (by decide) (Nat.le_of_ble_eq_true rfl) rfl ?_
  refine bw_aload_n 1 dX7_copyFrom_0 rfl rfl ?_
  refine bw_aload_n 2 dX7_copyFrom_1 rfl rfl ?_
  refine bw_get 5 dX7_copyFrom_2 rfl lX7_19 (hC.at 2 rfl) rfl ?_
  refine bw_aload_n 6 dX7_copyFrom_5 rfl rfl ?_
  refine bw_get 9 dX7_copyFrom_6 rfl lX7_9 (hC.at 2 rfl) rfl ?_
  refine bw_iconst (1) 10 dX7_copyFrom_9 (by decide) rfl ?_
  refine bw_iadd 11 dX7_copyFrom_10 rfl ?_
  refine bw_eqi (tI_add mb) ?_
  refine bw_cVv 14 dX7_copyFrom_11 rfl vX7_35 (c7_load g (hC.sub [0, 1, 3] (by decide) rfl) hN hmN hz (by have := hb.1; omega) hb.1 (fun i => by have := hb.2.2.1 i; omega)) (hC.at 0 rfl) rfl rfl (Nat.le_of_ble_eq_true rfl) ⟨(Nat.le_of_ble_eq_true rfl), (Nat.le_of_ble_eq_true rfl)⟩ (Nat.le_of_ble_eq_true rfl) (Nat.le_of_ble_eq_true rfl) (fun A hP => ?_)
  refine bw_vret dX7_copyFrom_14 rfl (Nat.le_of_ble_eq_true rfl) (Nat.le_of_ble_eq_true rfl) ?_
  exact ⟨rfl, by rw [hP, hb.cut, hb.tp]⟩
/-- x -/
def gX (i : Nat) : Nat := if i = 1 then 1 else 0
theorem gX_po {g : bw_G} {A : bw_H} {a N : Nat} {v : Value} {f0 : Nat → Nat} {m0 : Nat} : bw_up (bw_up (bw_po g A a N f0 m0 v) (a + 1) (bw_an g N gX)) a (pob a 2 v) = bw_po g A a N gX 2 v := by
  unfold bw_po
  rw [bw_up_cm (a := a) (b := a + 1) (by omega), bw_up_up, bw_up_up]
set_option maxHeartbeats 4000000 in
set_option maxRecDepth 100000 in
theorem c7_becomeX (g : bw_G) {A0 : bw_H} {a N m : Nat} {f : Nat → Nat} {v : Value} (hC : bw_has A0 (pcl g a N f m v)) (hN : N < 2 ^ 30) (h2 : 2 ≤ N) (hmN : m ≤ N) (hz : ∀ i, m ≤ i → f i = 0) :
    bw_C g (bw_rm 1 0 0) mX7_becomeX [.ref a] A0 (bw_pv (fun A' => A' = bw_po g A0 a N gX 2 v)) := by
  refine bw_C.of (by decide) (Nat.le_of_ble_eq_true rfl) rfl ?_
  refine bw_aload_n 1 dX7_becomeX_0 rfl rfl ?_
  refine bw_cVv 4 dX7_becomeX_1 rfl vX7_22 (c7_clear g hC hN hmN hz) (hC.at 0 rfl) rfl rfl (Nat.le_of_ble_eq_true rfl) ⟨(Nat.le_of_ble_eq_true rfl), (Nat.le_of_ble_eq_true rfl)⟩ (Nat.le_of_ble_eq_true rfl) (Nat.le_of_ble_eq_true rfl) (fun A hP => ?_)
  subst hP
  have hC := (hC.up 1 (e := bw_an g N (fun _ => 0)) rfl).up 0 (e := pob a 0 v) rfl
  refine bw_aload_n 5 dX7_becomeX_4 rfl rfl ?_
  refine bw_get 8 dX7_becomeX_5 rfl lX7_19 (hC.at 0 rfl) rfl ?_
  refine bw_iconst (1) 9 dX7_becomeX_8 (by decide) rfl ?_
  refine bw_eqi (y := nI 1) rfl ?_
  refine bw_iconst (1) 10 dX7_becomeX_9 (by decide) rfl ?_
  refine bw_eqi (y := nI 1) rfl ?_
  refine bw_iastN 11 dX7_becomeX_10 rfl (hC.at 1 rfl) (by omega) (by omega) (G := gX) (rfl) (fun A hU => ?_)
  have hX := hU
  have hC := hC.upd 1 rfl hU
  refine bw_aload_n 12 dX7_becomeX_11 rfl rfl ?_
  refine bw_iconst (1) 13 dX7_becomeX_12 (by decide) rfl ?_
  refine bw_eqi (y := nI 1) rfl ?_
  refine bw_putU 16 dX7_becomeX_13 rfl pX7_9 (hC.at 0 rfl) rfl rfl (Nat.le_of_ble_eq_true rfl) (fun A hU => ?_)
  have hC := hC.upd 0 rfl hU
  refine bw_vret dX7_becomeX_16 rfl (Nat.le_of_ble_eq_true rfl) (Nat.le_of_ble_eq_true rfl) ?_
  exact ⟨rfl, by rw [hU, hX]; exact gX_po⟩
theorem tI_max {a b : Nat} (ha : a < 2 ^ 31) (hb : b < 2 ^ 31) : (if tI a < tI b then tI b else tI a) = tI (max a b) := by
  by_cases h : a ≤ b
  · rw [Nat.max_eq_right h]
    split
    · rfl
    · rename_i h1
      have := (tI_le hb ha).mp (Int32.not_lt.mp h1)
      rw [show a = b by omega]
  · rw [Nat.max_eq_left (by omega), if_neg]
    exact Int32.not_lt.mpr ((tI_le hb ha).mpr (by omega))
/-- f and c times h -/
def gps (n q : Nat) (f h : Nat → Nat) (c : Nat) (i : Nat) : Nat := f i ^^^ gm n q c (h i)
theorem gam_gps {n q : Nat} (f : Nat → Nat) {h : Nat → Nat} {m : Nat} (c : Nat) (hz : ∀ i, m ≤ i → h i = 0) : gam n q f h 0 0 c m = gps n q f h c := by
  funext i
  unfold gam gps
  by_cases hi : i < m
  · rw [if_pos ⟨by omega, by omega⟩, Nat.sub_zero, Nat.zero_add]
  · rw [if_neg (by omega), hz i (by omega), gm_b0, Nat.xor_zero]
theorem gps_lt {n q : Nat} (hG : GFp n q) {f h : Nat → Nat} {c : Nat} (hf : ∀ i, f i < 2 ^ n) (hc : c < 2 ^ n) (i : Nat) : gps n q f h c i < 2 ^ n := xor_lt (hf i) (hG.lt hc)
theorem gps_z {n q : Nat} {f h : Nat → Nat} {m mb c : Nat} (hz : ∀ i, m ≤ i → f i = 0) (hb : ∀ i, mb ≤ i → h i = 0) (i : Nat) (hi : max m mb ≤ i) : gps n q f h c i = 0 := by
  unfold gps
  rw [hz i (by omega), hb i (by omega), gm_b0]; rfl
set_option maxHeartbeats 4000000 in
set_option maxRecDepth 100000 in
theorem c7_addScaled (g : bw_G) {A0 : bw_H} {F a b n p gg N NB m mb c : Nat} {f h : Nat → Nat} {v w : Value} (hG : GFg n p gg) (hC : bw_has A0 (pcl g a N f m v ++ (fcl g n p gg F ++ pcl g b NB h mb w))) (hN : N < 2 ^ 30) (hNB : NB < 2 ^ 30) (ha : pnm n N f m) (hb : pnm n NB h mb) (hbN : mb ≤ N) (hc : c < 2 ^ n) :
    bw_C g (bw_rm 1 0 0) mX7_addScaled [.ref a, .ref F, .ref b, .int (nI c)] A0 (bw_pv (fun A' => A' = bw_po g A0 a N (gps n (2 ^ n ||| p) f h c) (gtp (gps n (2 ^ n ||| p) f h c) (max m mb)) v)) := by
  have hlt : ∀ i, gps n (2 ^ n ||| p) f h c i < 2 ^ 31 := fun i => Nat.lt_of_lt_of_le (gps_lt hG.2.2.1 (h := h) ha.2.2.1 hc i) (Nat.le_trans hG.p16 (by decide))
  have hmx : max m mb ≤ N := by have := ha.1; omega
  refine bw_C.of (by decide) (Nat.le_of_ble_eq_true rfl) rfl ?_
  refine bw_aload_n 1 dX7_addScaled_0 rfl rfl ?_
  refine bw_aload_n 2 dX7_addScaled_1 rfl rfl ?_
  refine bw_get 5 dX7_addScaled_2 rfl lX7_19 (hC.at 0 rfl) rfl ?_
  refine bw_iconst (0) 6 dX7_addScaled_5 (by decide) rfl ?_
  refine bw_aload_n 7 dX7_addScaled_6 rfl rfl ?_
  refine bw_get 10 dX7_addScaled_7 rfl lX7_19 (hC.at 4 rfl) rfl ?_
  refine bw_iconst (0) 11 dX7_addScaled_10 (by decide) rfl ?_
  refine bw_aload_n 12 dX7_addScaled_11 rfl rfl ?_
  refine bw_get 15 dX7_addScaled_12 rfl lX7_9 (hC.at 4 rfl) rfl ?_
  refine bw_iconst (1) 16 dX7_addScaled_15 (by decide) rfl ?_
  refine bw_iadd 17 dX7_addScaled_16 rfl ?_
  refine bw_eqi (tI_add mb) ?_
  refine bw_iload_n 18 dX7_addScaled_17 rfl rfl ?_
  refine bw_cVv 21 dX7_addScaled_18 rfl vX7_39 (c3_addMultiple g (at' := 0) (fr := 0) hG (hC.sub [2, 3, 1, 5] (by decide) rfl) ha.2.2.1 hb.2.2.1 (by omega) (by have := hb.1; omega) hN hNB hc) (hC.at 2 rfl) rfl rfl (Nat.le_of_ble_eq_true rfl) ⟨(Nat.le_of_ble_eq_true rfl), (Nat.le_of_ble_eq_true rfl)⟩ (Nat.le_of_ble_eq_true rfl) (Nat.le_of_ble_eq_true rfl) (fun A hP => ?_)
  rw [gam_gps f c hb.2.1] at hP
  subst hP
  have hC := hC.up 1 (e := bw_an g N (gps n (2 ^ n ||| p) f h c)) rfl
  refine bw_aload_n 22 dX7_addScaled_21 rfl rfl ?_
  refine bw_aload_n 23 dX7_addScaled_22 rfl rfl ?_
  refine bw_get 26 dX7_addScaled_23 rfl lX7_9 (hC.at 0 rfl) rfl ?_
  refine bw_aload_n 27 dX7_addScaled_26 rfl rfl ?_
  refine bw_get 30 dX7_addScaled_27 rfl lX7_9 (hC.at 4 rfl) rfl ?_
  refine bw_max 33 dX7_addScaled_30 rfl xX7_45 bw_xS bw_xI bw_xC (Nat.le_of_ble_eq_true rfl) (Nat.le_of_ble_eq_true rfl) (Nat.le_of_ble_eq_true rfl) (Nat.le_of_ble_eq_true rfl) ?_
  refine bw_eqi (tI_max (by have := ha.1; omega) (by omega)) ?_
  refine bw_cVv 36 dX7_addScaled_33 rfl vX7_31 (c7_settle g (hC.sub [0, 1] (by decide) rfl) hN hmx hlt) (hC.at 0 rfl) rfl rfl (Nat.le_of_ble_eq_true rfl) ⟨(Nat.le_of_ble_eq_true rfl), (Nat.le_of_ble_eq_true rfl)⟩ (Nat.le_of_ble_eq_true rfl) (Nat.le_of_ble_eq_true rfl) (fun A hP => ?_)
  refine bw_vret dX7_addScaled_36 rfl (Nat.le_of_ble_eq_true rfl) (Nat.le_of_ble_eq_true rfl) ?_
  exact ⟨rfl, hP⟩
/-- f and x -/
def gpc (f : Nat → Nat) (x : Nat) (i : Nat) : Nat := if i = 0 then f 0 ^^^ x else f i
theorem gpc_s (f : Nat → Nat) (x : Nat) : (fun i => if i = 0 then f 0 ^^^ x else f i) = gpc f x := rfl
set_option maxHeartbeats 4000000 in
set_option maxRecDepth 100000 in
theorem c7_addMember (g : bw_G) {A0 : bw_H} {a n N m x : Nat} {f : Nat → Nat} {v : Value} (hn : 2 ^ n ≤ 65536) (hC : bw_has A0 (pcl g a N f m v)) (hN : N < 2 ^ 30) (h1 : 1 ≤ N) (ha : pnm n N f m) (hx : x < 2 ^ n) :
    bw_C g (bw_rm 1 0 0) mX7_addMember [.ref a, .int (nI x)] A0 (bw_pv (fun A' => A' = bw_po g A0 a N (gpc f x) (gtp (gpc f x) (max m 1)) v)) := by
  have hlt : ∀ i, gpc f x i < 2 ^ 31 := by
    intro i
    have h2 := xor_lt (ha.2.2.1 0) hx
    have h3 := ha.2.2.1 i
    unfold gpc
    split <;> omega
  have hma := ha.1
  refine bw_C.of (by decide) (Nat.le_of_ble_eq_true rfl) rfl ?_
  refine bw_aload_n 1 dX7_addMember_0 rfl rfl ?_
  refine bw_get 4 dX7_addMember_1 rfl lX7_19 (hC.at 0 rfl) rfl ?_
  refine bw_iconst (0) 5 dX7_addMember_4 (by decide) rfl ?_
  refine bw_eqi (y := nI 0) rfl ?_
  refine bw_dup2 6 dX7_addMember_5 rfl rfl rfl ?_
  refine bw_ialdN 7 dX7_addMember_6 rfl (hC.at 1 rfl) (by omega) (by omega) ?_
  refine bw_iload_n 8 dX7_addMember_7 rfl rfl ?_
  refine bw_ixor 9 dX7_addMember_8 rfl ?_
  refine bw_eqi (xn_xor (f 0) x) ?_
  refine bw_iastN 10 dX7_addMember_9 rfl (hC.at 1 rfl) (by omega) (by omega) (G := gpc f x) (gpc_s f x) (fun A hU => ?_)
  have hX := hU
  have hC := hC.upd 1 rfl hU
  refine bw_aload_n 11 dX7_addMember_10 rfl rfl ?_
  refine bw_aload_n 12 dX7_addMember_11 rfl rfl ?_
  refine bw_get 15 dX7_addMember_12 rfl lX7_9 (hC.at 0 rfl) rfl ?_
  refine bw_iconst (0) 16 dX7_addMember_15 (by decide) rfl ?_
  refine bw_max 19 dX7_addMember_16 rfl xX7_45 bw_xS bw_xI bw_xC (Nat.le_of_ble_eq_true rfl) (Nat.le_of_ble_eq_true rfl) (Nat.le_of_ble_eq_true rfl) (Nat.le_of_ble_eq_true rfl) ?_
  refine bw_eqi (tI_max (b := 1) (by omega) (by omega)) ?_
  refine bw_cVv 22 dX7_addMember_19 rfl vX7_31 (c7_settle g (m := max m 1) hC hN (by omega) hlt) (hC.at 0 rfl) rfl rfl (Nat.le_of_ble_eq_true rfl) ⟨(Nat.le_of_ble_eq_true rfl), (Nat.le_of_ble_eq_true rfl)⟩ (Nat.le_of_ble_eq_true rfl) (Nat.le_of_ble_eq_true rfl) (fun A hP => ?_)
  refine bw_vret dX7_addMember_22 rfl (Nat.le_of_ble_eq_true rfl) (Nat.le_of_ble_eq_true rfl) ?_
  exact ⟨rfl, by rw [hP, hX]⟩
/-- f by x to the c, the first k places done -/
def gsh (f : Nat → Nat) (m c k : Nat) (i : Nat) : Nat := if i < k then (if i + c < m then f (i + c) else 0) else f i
theorem gsh_s (f : Nat → Nat) (m c k : Nat) : (fun i => if i = k then (if k + c < m then f (k + c) else 0) else gsh f m c k i) = gsh f m c (k + 1) := by
  funext i
  unfold gsh
  by_cases h1 : i = k
  · subst h1
    rw [if_pos rfl, if_pos (show i < i + 1 by omega)]
  · rw [if_neg h1]
    by_cases h2 : i < k
    · rw [if_pos h2, if_pos (show i < k + 1 by omega)]
    · rw [if_neg h2, if_neg (show ¬ i < k + 1 by omega)]
theorem gsh_0 (f : Nat → Nat) (m c : Nat) : gsh f m c 0 = f := by
  funext i
  unfold gsh
  rw [if_neg (by omega)]
theorem gsh_at (f : Nat → Nat) (m c k : Nat) : gsh f m c k (k + c) = f (k + c) := by
  unfold gsh
  rw [if_neg (by omega)]
theorem gsh_all {f : Nat → Nat} {m : Nat} (c : Nat) (hz : ∀ i, m ≤ i → f i = 0) : gsh f m c m = fun i => f (i + c) := by
  funext i
  unfold gsh
  by_cases h1 : i + c < m
  · rw [if_pos (by omega), if_pos h1]
  · rw [hz (i + c) (by omega)]
    by_cases h2 : i < m
    · rw [if_pos h2, if_neg h1]
    · rw [if_neg h2, hz i (by omega)]
theorem tI_subn {m c : Nat} (h : c ≤ m) : tI m - nI c = tI (m - c) := by
  rw [← tI_sub, ← tI_sub, ← pk_sub h, Int32.sub_eq_add_neg, Int32.sub_eq_add_neg, Int32.sub_eq_add_neg, Int32.sub_eq_add_neg, Int32.add_assoc, Int32.add_assoc, Int32.add_comm (-1)]
set_option maxHeartbeats 4000000 in
set_option maxRecDepth 100000 in
theorem c7_shiftDown_loop (g : bw_G) {A0 : bw_H} {a N m c : Nat} {f : Nat → Nat} {v : Value} (hC0 : bw_has A0 (pcl g a N f m v)) (hN : N < 2 ^ 30) (hmN : m ≤ N) (hz : ∀ i, m ≤ i → f i = 0) (hf : ∀ i, f i < 2 ^ 31) (hcm : c ≤ m) :
    ∀ r k, k + r = m → bw_W g (bw_rm 1 0 0) mX7_shiftDown (bw_pv (fun A' => A' = bw_po g A0 a N (fun i => f (i + c)) (gtp (fun i => f (i + c)) (m - c)) v)) 0 0 2 [(0, .ref a), (1, .int (nI c)), (2, .int (nI k))] [] (bw_up A0 (a + 1) (bw_an g N (gsh f m c k))) := by
  intro r
  induction r with
  | zero =>
    intro k hk
    have hk : k = m := by omega
    subst hk
    rw [gsh_all c hz]
    have hC := hC0.up 1 (e := bw_an g N (fun i => f (i + c))) rfl
    refine bw_iload_n 3 dX7_shiftDown_2 rfl rfl ?_
    refine bw_aload_n 4 dX7_shiftDown_3 rfl rfl ?_
    refine bw_get 7 dX7_shiftDown_4 rfl lX7_9 (hC.at 0 rfl) rfl ?_
    refine bw_icmp_gt 44 10 dX7_shiftDown_7 rfl rfl (fun c7 => ?_) (fun c7 => ?_)
    · refine bw_aload_n 45 dX7_shiftDown_44 rfl rfl ?_
      refine bw_aload_n 46 dX7_shiftDown_45 rfl rfl ?_
      refine bw_get 49 dX7_shiftDown_46 rfl lX7_9 (hC.at 0 rfl) rfl ?_
      refine bw_iload_n 50 dX7_shiftDown_49 rfl rfl ?_
      refine bw_isub 51 dX7_shiftDown_50 rfl ?_
      refine bw_eqi (tI_subn hcm) ?_
      refine bw_cVv 54 dX7_shiftDown_51 rfl vX7_31 (c7_settle g hC hN (by omega) (fun i => hf (i + c))) (hC.at 0 rfl) rfl rfl (Nat.le_of_ble_eq_true rfl) ⟨(Nat.le_of_ble_eq_true rfl), (Nat.le_of_ble_eq_true rfl)⟩ (Nat.le_of_ble_eq_true rfl) (Nat.le_of_ble_eq_true rfl) (fun A hP => ?_)
      refine bw_vret dX7_shiftDown_54 rfl (Nat.le_of_ble_eq_true rfl) (Nat.le_of_ble_eq_true rfl) ?_
      exact ⟨rfl, hP⟩
    · exact absurd ((tI_ltk (by omega) (by omega)).mpr (Nat.le_refl k)) c7
  | succ r ih =>
    intro k hk
    have hC := hC0.up 1 (e := bw_an g N (gsh f m c k)) rfl
    refine bw_iload_n 3 dX7_shiftDown_2 rfl rfl ?_
    refine bw_aload_n 4 dX7_shiftDown_3 rfl rfl ?_
    refine bw_get 7 dX7_shiftDown_4 rfl lX7_9 (hC.at 0 rfl) rfl ?_
    refine bw_icmp_gt 44 10 dX7_shiftDown_7 rfl rfl (fun c7 => ?_) (fun c7 => ?_)
    · exact absurd ((tI_ltk (by omega) (by omega)).mp c7) (by omega)
    · skip
      refine bw_aload_n 11 dX7_shiftDown_10 rfl rfl ?_
      refine bw_get 14 dX7_shiftDown_11 rfl lX7_19 (hC.at 0 rfl) rfl ?_
      refine bw_iload_n 15 dX7_shiftDown_14 rfl rfl ?_
      refine bw_iload_n 16 dX7_shiftDown_15 rfl rfl ?_
      refine bw_iload_n 17 dX7_shiftDown_16 rfl rfl ?_
      refine bw_iadd 18 dX7_shiftDown_17 rfl ?_
      refine bw_eqi (nI_add k c) ?_
      refine bw_aload_n 19 dX7_shiftDown_18 rfl rfl ?_
      refine bw_get 22 dX7_shiftDown_19 rfl lX7_9 (hC.at 0 rfl) rfl ?_
      refine bw_icmp_gt 36 25 dX7_shiftDown_22 rfl rfl (fun c22 => ?_) (fun c22 => ?_)
      · have h1 : m ≤ k + c := (tI_ltk (by omega) (by omega)).mp c22
        have hs := gsh_s f m c k
        rw [if_neg (by omega)] at hs
        refine bw_iconst (0) 37 dX7_shiftDown_36 (by decide) rfl ?_
        refine bw_eqi (nI_0.symm) ?_
        refine bw_iastU 38 dX7_shiftDown_37 rfl (hC.at 1 rfl) (by exact vp_in_nI (by omega) (by omega)) (fun A hU => ?_)
        have hC := hC.upd 1 rfl hU
        refine bw_iincN (1) 41 dX7_shiftDown_38 rfl rfl (by decide) (by decide) ?_
        refine bw_goto 2 dX7_shiftDown_41 rfl ?_
        refine bw_loc [(0, .ref a), (1, .int (nI c)), (2, .int (nI (k + 1)))] ⟨rfl, rfl, congrArg (fun x => some (Value.int x)) (nI_1 k), trivial⟩ ?_
        rw [an_updE (by omega) hs] at hU
        rw [hU, bw_up_up]
        exact ih (k + 1) (by omega)
      · have h1 : k + c < m := Nat.not_le.mp (fun h => c22 ((tI_ltk (by omega) (by omega)).mpr h))
        have hs := gsh_s f m c k
        rw [if_pos h1] at hs
        refine bw_aload_n 26 dX7_shiftDown_25 rfl rfl ?_
        refine bw_get 29 dX7_shiftDown_26 rfl lX7_19 (hC.at 0 rfl) rfl ?_
        refine bw_iload_n 30 dX7_shiftDown_29 rfl rfl ?_
        refine bw_iload_n 31 dX7_shiftDown_30 rfl rfl ?_
        refine bw_iadd 32 dX7_shiftDown_31 rfl ?_
        refine bw_eqi (nI_add k c) ?_
        refine bw_iald 33 dX7_shiftDown_32 rfl (hC.at 1 rfl) (by exact vp_in_nI (by omega) (by omega)) ?_
        refine bw_eqi ((an_at (gsh f m c k) (by omega)).trans (congrArg nI (gsh_at f m c k))) ?_
        refine bw_goto 37 dX7_shiftDown_33 rfl ?_
        refine bw_iastU 38 dX7_shiftDown_37 rfl (hC.at 1 rfl) (by exact vp_in_nI (by omega) (by omega)) (fun A hU => ?_)
        have hC := hC.upd 1 rfl hU
        refine bw_iincN (1) 41 dX7_shiftDown_38 rfl rfl (by decide) (by decide) ?_
        refine bw_goto 2 dX7_shiftDown_41 rfl ?_
        refine bw_loc [(0, .ref a), (1, .int (nI c)), (2, .int (nI (k + 1)))] ⟨rfl, rfl, congrArg (fun x => some (Value.int x)) (nI_1 k), trivial⟩ ?_
        rw [an_updE (by omega) hs] at hU
        rw [hU, bw_up_up]
        exact ih (k + 1) (by omega)
set_option maxHeartbeats 4000000 in
set_option maxRecDepth 100000 in
theorem c7_shiftDown (g : bw_G) {A : bw_H} {a N m c : Nat} {f : Nat → Nat} {v : Value} (hC : bw_has A (pcl g a N f m v)) (hN : N < 2 ^ 30) (hmN : m ≤ N) (hz : ∀ i, m ≤ i → f i = 0) (hf : ∀ i, f i < 2 ^ 31) (hcm : c ≤ m) :
    bw_C g (bw_rm 1 0 0) mX7_shiftDown [.ref a, .int (nI c)] A (bw_pv (fun A' => A' = bw_po g A a N (fun i => f (i + c)) (gtp (fun i => f (i + c)) (m - c)) v)) := by
  refine bw_C.of (by decide) (Nat.le_of_ble_eq_true rfl) rfl ?_
  refine bw_iconst (0) 1 dX7_shiftDown_0 (by decide) rfl ?_
  refine bw_istore_n 2 dX7_shiftDown_1 rfl (by decide) ?_
  refine bw_loc [(0, .ref a), (1, .int (nI c)), (2, .int (nI 0))] ⟨rfl, rfl, rfl, trivial⟩ ?_
  have hA : A = bw_up A (a + 1) (bw_an g N (gsh f m c 0)) := by rw [gsh_0]; exact (bw_up_id (hC.at 1 rfl)).symm
  have hgo := c7_shiftDown_loop g hC hN hmN hz hf hcm m 0 (by omega)
  rw [← hA] at hgo
  exact hgo
