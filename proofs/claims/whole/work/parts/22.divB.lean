/-! Division: takeOut, toSquareRest -/
/-- Horner's steps in place, from j on down -/
def gtk (n q v : Nat) : Nat → (Nat → Nat) → Nat → Nat
  | 0, f => f
  | j + 1, f => gtk n q v j (fun i => if i = j then f j ^^^ gm n q (f (j + 1)) v else f i)
theorem gtk_lt {n q v : Nat} (hG : GFp n q) : ∀ (j : Nat) {f : Nat → Nat}, (∀ i, f i < 2 ^ n) → ∀ i, gtk n q v j f i < 2 ^ n
  | 0, _, hf => hf
  | j + 1, f, hf => gtk_lt hG j (fun i => by
    split
    · exact xor_lt (hf j) (hG.lt (hf (j + 1)))
    · exact hf i)
theorem gtk_up {n q v : Nat} : ∀ (j : Nat) {f : Nat → Nat} {i : Nat}, j ≤ i → gtk n q v j f i = f i
  | 0, _, _, _ => rfl
  | j + 1, f, i, hi => by
    show gtk n q v j _ i = f i
    rw [gtk_up j (by omega), if_neg (by omega)]
/-- what takeOut leaves -/
def tkP (g : bw_G) (A0 : bw_H) (a N m : Nat) (d : Nat → Nat) (w : Value) (x : Int32) (A' : bw_H) : Prop := (d 0 ≠ 0 ∧ x = 0 ∧ A' = bw_po g A0 a N d m w) ∨ (d 0 = 0 ∧ x = 1 ∧ A' = bw_pp g A0 a N (fun i => d (i + 1)) w)
set_option maxHeartbeats 4000000 in
set_option maxRecDepth 100000 in
theorem c0_takeOut_loop (g : bw_G) {A0 : bw_H} {D F a n p gg N m v : Nat} {f0 : Nat → Nat} {w : Value} (hG : GFg n p gg) (hC0 : bw_has A0 (dvl g n p gg D F ++ pcl g a N f0 m w)) (hN : N ≤ 200) (hm : m ≤ N) (hm0 : 1 ≤ m) (hv : v < 2 ^ n) :
    ∀ (j : Nat) (f : Nat → Nat), (∀ i, f i < 2 ^ n) → (∀ i, m ≤ i → f i = 0) → j < m → bw_W g (bw_rm 2 0 0) mX0_takeOut (bw_pm (tkP g A0 a N m (gtk n (2 ^ n ||| p) v j f) w)) 0 0 7 [(0, .ref D), (1, .ref a), (2, .int (nI v)), (3, .int (tI j))] [] (bw_up A0 (a + 1) (bw_an g N f)) := by
  have h16 := hG.p16
  intro j
  induction j with
  | zero =>
    intro f hf hz hj
    have hC := hC0.up 4 (e := bw_an g N f) rfl
    have hf0 := hf 0
    refine bw_iload_n 8 dX0_takeOut_7 rfl rfl ?_
    refine bw_if_lt 42 11 dX0_takeOut_8 rfl rfl (fun c8 => ?_) (fun c8 => ?_)
    · refine bw_aload_n 43 dX0_takeOut_42 rfl rfl ?_
      refine bw_get 46 dX0_takeOut_43 rfl lX0_25 (hC.at 3 rfl) rfl ?_
      refine bw_iconst (0) 47 dX0_takeOut_46 (by decide) rfl ?_
      refine bw_eqi (y := nI 0) rfl ?_
      refine bw_ialdN 48 dX0_takeOut_47 rfl (hC.at 4 rfl) (by omega) (by omega) ?_
      refine bw_if_eq 53 51 dX0_takeOut_48 rfl rfl (fun c48 => ?_) (fun c48 => ?_)
      · have h0 : f 0 = 0 := (xn_eq0 (by omega)).mp c48
        refine bw_aload_n 54 dX0_takeOut_53 rfl rfl ?_
        refine bw_iconst (1) 55 dX0_takeOut_54 (by decide) rfl ?_
        refine bw_eqi (y := nI 1) rfl ?_
        refine bw_cVv 58 dX0_takeOut_55 rfl vX0_36 (c7_shiftDown g (c := 1) (hC.sub [3, 4] (by decide) rfl) (by omega) hm hz (fun i => by have := hf i; omega) hm0) (hC.at 3 rfl) rfl rfl (Nat.le_of_ble_eq_true rfl) ⟨(Nat.le_of_ble_eq_true rfl), (Nat.le_of_ble_eq_true rfl)⟩ (Nat.le_of_ble_eq_true rfl) (Nat.le_of_ble_eq_true rfl) (fun A hP => ?_)
        rw [gtp_pd (m := m - 1) (fun i hi => hz (i + 1) (by omega)) (by omega), bw_po_up] at hP
        refine bw_iconst (1) 59 dX0_takeOut_58 (by decide) rfl ?_
        refine bw_zret dX0_takeOut_59 rfl (by first | decide | assumption) (Nat.le_of_ble_eq_true rfl) (Nat.le_of_ble_eq_true rfl) ?_
        exact ⟨1, rfl, Or.inr ⟨h0, rfl, hP⟩⟩
      · have h0 : f 0 ≠ 0 := fun h0 => c48 ((xn_eq0 (by omega)).mpr h0)
        refine bw_iconst (0) 52 dX0_takeOut_51 (by decide) rfl ?_
        refine bw_zret dX0_takeOut_52 rfl (by first | decide | assumption) (Nat.le_of_ble_eq_true rfl) (Nat.le_of_ble_eq_true rfl) ?_
        refine ⟨0, rfl, Or.inl ⟨h0, rfl, ?_⟩⟩
        show _ = bw_po g A0 a N f m w
        unfold bw_po
        rw [bw_up_cm (by omega), bw_up_id (hC0.at 3 rfl)]
    · exact absurd ((tI_lt0 (m := 0) (by omega)).mpr rfl) c8
  | succ j ih =>
    intro f hf hz hj
    have hC := hC0.up 4 (e := bw_an g N f) rfl
    rw [tI_s]
    refine bw_iload_n 8 dX0_takeOut_7 rfl rfl ?_
    refine bw_if_lt 42 11 dX0_takeOut_8 rfl rfl (fun c8 => ?_) (fun c8 => ?_)
    · exact absurd c8 (nI_pos (by omega))
    · skip
      refine bw_aload_n 12 dX0_takeOut_11 rfl rfl ?_
      refine bw_get 15 dX0_takeOut_12 rfl lX0_25 (hC.at 3 rfl) rfl ?_
      refine bw_iload_n 16 dX0_takeOut_15 rfl rfl ?_
      refine bw_dup2 17 dX0_takeOut_16 rfl rfl rfl ?_
      refine bw_ialdN 18 dX0_takeOut_17 rfl (hC.at 4 rfl) (by omega) (by omega) ?_
      refine bw_aload_n 19 dX0_takeOut_18 rfl rfl ?_
      refine bw_get 22 dX0_takeOut_19 rfl lX0_9 (hC.at 0 rfl) rfl ?_
      refine bw_aload_n 23 dX0_takeOut_22 rfl rfl ?_
      refine bw_get 26 dX0_takeOut_23 rfl lX0_25 (hC.at 3 rfl) rfl ?_
      refine bw_iload_n 27 dX0_takeOut_26 rfl rfl ?_
      refine bw_iconst (1) 28 dX0_takeOut_27 (by decide) rfl ?_
      refine bw_eqi (y := nI 1) rfl ?_
      refine bw_iadd 29 dX0_takeOut_28 rfl ?_
      refine bw_eqi (nI_add j 1) ?_
      refine bw_ialdN 30 dX0_takeOut_29 rfl (hC.at 4 rfl) (by omega) (by omega) ?_
      refine bw_iload_n 31 dX0_takeOut_30 rfl rfl ?_
      refine bw_cVi 34 dX0_takeOut_31 rfl vX0_45 (c3_mul g hG (hC.sub [1, 2] (by decide) rfl) (hf (j + 1)) hv) (hC.at 1 rfl) rfl rfl (Nat.le_of_ble_eq_true rfl) ⟨(Nat.le_of_ble_eq_true rfl), (Nat.le_of_ble_eq_true rfl)⟩ (Nat.le_of_ble_eq_true rfl) (Nat.le_of_ble_eq_true rfl) ?_
      refine bw_ixor 35 dX0_takeOut_34 rfl ?_
      refine bw_eqi (xn_xor (f j) (gm n (2 ^ n ||| p) (f (j + 1)) v)) ?_
      refine bw_iastN 36 dX0_takeOut_35 rfl (hC.at 4 rfl) (by omega) (by omega) (G := _) (rfl) (fun A hU => ?_)
      have hC := hC.upd 4 rfl hU
      refine bw_iincN (-1) 39 dX0_takeOut_36 rfl rfl (by decide) (by decide) ?_
      refine bw_goto 7 dX0_takeOut_39 rfl ?_
      refine bw_loc [(0, .ref D), (1, .ref a), (2, .int (nI v)), (3, .int (tI j))] ⟨rfl, rfl, rfl, rfl, trivial⟩ ?_
      rw [hU, bw_up_up]
      refine ih _ (fun i => ?_) (fun i hi => ?_) (by omega)
      · show (if i = j then f j ^^^ gm n (2 ^ n ||| p) (f (j + 1)) v else f i) < 2 ^ n
        split
        · exact xor_lt (hf j) (hG.2.2.1.lt (hf (j + 1)))
        · exact hf i
      · show (if i = j then f j ^^^ gm n (2 ^ n ||| p) (f (j + 1)) v else f i) = 0
        rw [if_neg (by omega)]
        exact hz i hi
set_option maxHeartbeats 4000000 in
set_option maxRecDepth 100000 in
theorem c0_takeOut (g : bw_G) {A : bw_H} {D F a n p gg N v : Nat} {f : Nat → Nat} {w : Value} (hG : GFg n p gg) (hC : bw_has A (dvl g n p gg D F ++ ppl g a N f w)) (hN : N ≤ 200) (hf : pok n N f) (h0 : pd f ≠ 0) (hv : v < 2 ^ n) :
    bw_C g (bw_rm 2 0 0) mX0_takeOut [.ref D, .ref a, .int (nI v)] A (bw_pm (tkP g A a N (pd f) (gtk n (2 ^ n ||| p) v (pd f - 1) f) w)) := by
  have hpf := hf.le hN
  refine bw_C.of (by decide) (Nat.le_of_ble_eq_true rfl) rfl ?_
  refine bw_aload_n 1 dX0_takeOut_0 rfl rfl ?_
  refine bw_get 4 dX0_takeOut_1 rfl lX0_15 (hC.at 3 rfl) rfl ?_
  refine bw_eqi (tI_p h0) ?_
  refine bw_iconst (1) 5 dX0_takeOut_4 (by decide) rfl ?_
  refine bw_isub 6 dX0_takeOut_5 rfl ?_
  refine bw_eqi (tI_sub (pd f - 1)) ?_
  refine bw_istore_n 7 dX0_takeOut_6 rfl (by decide) ?_
  have hgo := c0_takeOut_loop g hG hC hN hpf (by omega) hv (pd f - 1) f hf.2 (hf.z hN) (by omega)
  rw [bw_up_id (hC.at 4 rfl)] at hgo
  exact bw_loc [(0, .ref D), (1, .ref a), (2, .int (nI v)), (3, .int (tI (pd f - 1)))] ⟨rfl, rfl, rfl, rfl, trivial⟩ hgo
/-- the square -/
def gsq (n q : Nat) (f : Nat → Nat) (i : Nat) : Nat := if i % 2 = 0 then gm n q (f (i / 2)) (f (i / 2)) else 0
/-- its places from k on are done -/
def gsk (n q : Nat) (f : Nat → Nat) (k i : Nat) : Nat := if i % 2 = 0 ∧ k ≤ i / 2 then gm n q (f (i / 2)) (f (i / 2)) else if k ≤ i then 0 else f i
theorem gsk_at {n q : Nat} {f : Nat → Nat} {k : Nat} : gsk n q f (k + 1) k = f k := by
  unfold gsk
  rw [if_neg (by omega), if_neg (by omega)]
theorem gsk_s {n q : Nat} {f : Nat → Nat} {k : Nat} : (fun i => if i = 2 * k then gm n q (f k) (f k) else (fun i => if i = k then 0 else gsk n q f (k + 1) i) i) = gsk n q f k := by
  funext i
  unfold gsk
  by_cases h1 : i = 2 * k
  · subst h1
    rw [if_pos rfl, if_pos (by omega), show 2 * k / 2 = k by omega]
  · rw [if_neg h1]
    show (if i = k then 0 else _) = _
    by_cases h2 : i = k
    · subst h2
      rw [if_pos rfl, if_neg (by omega), if_pos (by omega)]
    · rw [if_neg h2]
      by_cases h3 : i % 2 = 0 ∧ k ≤ i / 2
      · rw [if_pos h3, if_pos (by omega)]
      · rw [if_neg h3, if_neg (by omega)]
        by_cases h4 : k ≤ i
        · rw [if_pos h4, if_pos (by omega)]
        · rw [if_neg h4, if_neg (by omega)]
theorem gsk_0 {n q : Nat} {f : Nat → Nat} : gsk n q f 0 = gsq n q f := by
  funext i
  unfold gsk gsq
  by_cases h : i % 2 = 0
  · rw [if_pos ⟨h, by omega⟩, if_pos h]
  · rw [if_neg (by omega), if_neg h, if_pos (by omega)]
theorem gsk_m {n q : Nat} {f : Nat → Nat} {m : Nat} (hz : ∀ i, m ≤ i → f i = 0) : gsk n q f m = f := by
  funext i
  unfold gsk
  split
  · rename_i h
    rw [hz (i / 2) h.2, gm_0, hz i (by omega)]
  · split
    · rename_i h
      rw [hz i h]
    · rfl
theorem gsq_ok {n q N M : Nat} (hG : GFp n q) {f : Nat → Nat} (hf : pok n N f) (hM : 2 * N ≤ M + 1) : pok n M (gsq n q f) :=
  ⟨fun i hi => by
    unfold gsq
    split
    · rw [hf.1 _ (by omega), gm_0]
    · rfl, fun i => by
    unfold gsq
    split
    · exact hG.lt (hf.2 _)
    · exact Nat.two_pow_pos n⟩
theorem gsk_lt {n q : Nat} (hG : GFp n q) {f : Nat → Nat} (hf : ∀ i, f i < 2 ^ n) (k i : Nat) : gsk n q f k i < 2 ^ n := by
  unfold gsk
  split
  · exact hG.lt (hf _)
  · split
    · exact Nat.two_pow_pos n
    · exact hf i
theorem gsq_pd {n q N : Nat} (hG : GFp n q) {f : Nat → Nat} (hf : pok n N f) (hN : N ≤ 200) (h1 : pd f ≤ 100) (h0 : pd f ≠ 0) : pd (gsq n q f) = 2 * pd f - 1 := by
  refine pd_eq ?_ ?_ (by omega)
  · intro i hi
    unfold gsq
    split
    · rw [hf.z hN (i / 2) (by omega), gm_0]
    · rfl
  · intro _
    unfold gsq
    rw [if_pos (by omega), show (2 * pd f - 1 - 1) / 2 = pd f - 1 by omega]
    exact hG.ne0 (hf.2 _) (hf.2 _) (pd_top h0) (pd_top h0)
theorem fz_of_pd {n N : Nat} {f : Nat → Nat} (hf : pok n N f) (hN : N ≤ 200) (h0 : pd f = 0) : f = fun _ => 0 := funext fun i => hf.z hN i (by omega)
theorem gsq_z {n q : Nat} : gsq n q (fun _ => 0) = fun _ => 0 := by
  funext i
  unfold gsq
  rw [gm_0]
  split <;> rfl
set_option maxHeartbeats 4000000 in
set_option maxRecDepth 100000 in
theorem c0_sqr_loop (g : bw_G) {A0 : bw_H} {D F a b n p gg N NB : Nat} {f h : Nat → Nat} {v w : Value} (hG : GFg n p gg) (hC0 : bw_has A0 (dvl g n p gg D F ++ (ppl g a N f v ++ ppl g b NB h w))) (hN : N ≤ 200) (hNB : NB ≤ 200) (hN2 : 129 ≤ N) (hf : pok n N f) (hh : pok n NB h) (h0 : pd h ≠ 0) (hf0 : pd f ≠ 0) (hf1 : pd f ≤ 65) :
    ∀ k, k ≤ pd f → bw_W g (bw_rm 3 0 0) mX0_toSquareRest (bw_pv (fun A' => A' = bw_pp g A0 a N (grs n (2 ^ n ||| p) (gsq n (2 ^ n ||| p) f) h) v)) 0 0 22 [(0, .ref D), (1, .ref a), (2, .ref b), (3, .int (tI k))] [] (bw_up A0 (a + 1) (bw_an g N (gsk n (2 ^ n ||| p) f k))) := by
  intro k
  induction k with
  | zero =>
    intro hk
    rw [gsk_0]
    have hC := hC0.up 4 (e := bw_an g N (gsq n (2 ^ n ||| p) f)) rfl
    refine bw_iload_n 23 dX0_toSquareRest_22 rfl rfl ?_
    refine bw_if_lt 66 26 dX0_toSquareRest_23 rfl rfl (fun c23 => ?_) (fun c23 => ?_)
    · refine bw_aload_n 67 dX0_toSquareRest_66 rfl rfl ?_
      refine bw_iconst (2) 68 dX0_toSquareRest_67 (by decide) rfl ?_
      refine bw_eqi (y := nI 2) rfl ?_
      refine bw_aload_n 69 dX0_toSquareRest_68 rfl rfl ?_
      refine bw_get 72 dX0_toSquareRest_69 rfl lX0_15 (hC.at 3 rfl) rfl ?_
      refine bw_eqi (tI_p hf0) ?_
      refine bw_imul 73 dX0_toSquareRest_72 rfl ?_
      refine bw_eqi ((pk_mul 2 (pd f - 1)).trans ((congrArg nI (show 2 * (pd f - 1) = 2 * pd f - 1 - 1 by omega)).trans (tI_p (show 2 * pd f - 1 ≠ 0 by omega)).symm)) ?_
      refine bw_putU 76 dX0_toSquareRest_73 rfl pX0_15 (hC.at 3 rfl) rfl rfl (Nat.le_of_ble_eq_true rfl) (fun A hU => ?_)
      have hC := hC.upd 3 rfl hU
      have hfin : bw_has A (dvl g n p gg D F ++ (ppl g a N (gsq n (2 ^ n ||| p) f) v ++ ppl g b NB h w)) := by
        unfold ppl
        rw [gsq_pd hG.2.2.1 hf hN (by omega) hf0]
        exact hC
      refine bw_aload_n 77 dX0_toSquareRest_76 rfl rfl ?_
      refine bw_aload_n 78 dX0_toSquareRest_77 rfl rfl ?_
      refine bw_aload_n 79 dX0_toSquareRest_78 rfl rfl ?_
      refine bw_cVv 82 dX0_toSquareRest_79 rfl vX0_53 (c0_toRest g (f := gsq n (2 ^ n ||| p) f) hG hfin hN hNB ((gsq_ok hG.2.2.1 (hf.less hN hf1) (M := 129) (by omega)).mono (by omega)) hh h0) (hC.at 0 rfl) rfl rfl (Nat.le_of_ble_eq_true rfl) ⟨(Nat.le_of_ble_eq_true rfl), (Nat.le_of_ble_eq_true rfl)⟩ (Nat.le_of_ble_eq_true rfl) (Nat.le_of_ble_eq_true rfl) (fun A hP => ?_)
      refine bw_vret dX0_toSquareRest_82 rfl (Nat.le_of_ble_eq_true rfl) (Nat.le_of_ble_eq_true rfl) ?_
      refine ⟨rfl, ?_⟩
      rw [hP, hU]
      unfold bw_pp bw_po
      rw [bw_up_cm (a := a) (b := a + 1) (by omega), bw_up_up, bw_up_up]
    · exact absurd ((tI_lt0 (m := 0) (by omega)).mpr rfl) c23
  | succ k ih =>
    intro hk
    have hC := hC0.up 4 (e := bw_an g N (gsk n (2 ^ n ||| p) f (k + 1))) rfl
    rw [tI_s]
    refine bw_iload_n 23 dX0_toSquareRest_22 rfl rfl ?_
    refine bw_if_lt 66 26 dX0_toSquareRest_23 rfl rfl (fun c23 => ?_) (fun c23 => ?_)
    · exact absurd c23 (nI_pos (by omega))
    · skip
      refine bw_aload_n 27 dX0_toSquareRest_26 rfl rfl ?_
      refine bw_get 30 dX0_toSquareRest_27 rfl lX0_25 (hC.at 3 rfl) rfl ?_
      refine bw_iload_n 31 dX0_toSquareRest_30 rfl rfl ?_
      refine bw_ialdN 32 dX0_toSquareRest_31 rfl (hC.at 4 rfl) (by omega) (by omega) ?_
      refine bw_eqi (congrArg nI gsk_at) ?_
      refine bw_istore 34 dX0_toSquareRest_32 rfl (by decide) ?_
      refine bw_aload_n 35 dX0_toSquareRest_34 rfl rfl ?_
      refine bw_get 38 dX0_toSquareRest_35 rfl lX0_25 (hC.at 3 rfl) rfl ?_
      refine bw_iload_n 39 dX0_toSquareRest_38 rfl rfl ?_
      refine bw_iconst (0) 40 dX0_toSquareRest_39 (by decide) rfl ?_
      refine bw_eqi (y := nI 0) rfl ?_
      refine bw_iastN 41 dX0_toSquareRest_40 rfl (hC.at 4 rfl) (by omega) (by omega) (G := (fun i => if i = k then 0 else gsk n (2 ^ n ||| p) f (k + 1) i)) (rfl) (fun A hU => ?_)
      have hX := hU
      have hC := hC.upd 4 rfl hU
      refine bw_aload_n 42 dX0_toSquareRest_41 rfl rfl ?_
      refine bw_get 45 dX0_toSquareRest_42 rfl lX0_25 (hC.at 3 rfl) rfl ?_
      refine bw_iconst (2) 46 dX0_toSquareRest_45 (by decide) rfl ?_
      refine bw_eqi (y := nI 2) rfl ?_
      refine bw_iload_n 47 dX0_toSquareRest_46 rfl rfl ?_
      refine bw_imul 48 dX0_toSquareRest_47 rfl ?_
      refine bw_eqi (pk_mul 2 k) ?_
      refine bw_aload_n 49 dX0_toSquareRest_48 rfl rfl ?_
      refine bw_get 52 dX0_toSquareRest_49 rfl lX0_9 (hC.at 0 rfl) rfl ?_
      refine bw_iload 54 dX0_toSquareRest_52 rfl rfl ?_
      refine bw_iload 56 dX0_toSquareRest_54 rfl rfl ?_
      refine bw_cVi 59 dX0_toSquareRest_56 rfl vX0_45 (c3_mul g hG (hC.sub [1, 2] (by decide) rfl) (hf.2 k) (hf.2 k)) (hC.at 1 rfl) rfl rfl (Nat.le_of_ble_eq_true rfl) ⟨(Nat.le_of_ble_eq_true rfl), (Nat.le_of_ble_eq_true rfl)⟩ (Nat.le_of_ble_eq_true rfl) (Nat.le_of_ble_eq_true rfl) ?_
      refine bw_iastN 60 dX0_toSquareRest_59 rfl (hC.at 4 rfl) (by omega) (by omega) (G := gsk n (2 ^ n ||| p) f k) (gsk_s) (fun A hU => ?_)
      have hC := hC.upd 4 rfl hU
      refine bw_iincN (-1) 63 dX0_toSquareRest_60 rfl rfl (by decide) (by decide) ?_
      refine bw_goto 22 dX0_toSquareRest_63 rfl ?_
      refine bw_loc [(0, .ref D), (1, .ref a), (2, .ref b), (3, .int (tI k))] ⟨rfl, rfl, rfl, rfl, trivial⟩ ?_
      rw [hU, hX, bw_up_up, bw_up_up]
      exact ih (by omega)
set_option maxHeartbeats 4000000 in
set_option maxRecDepth 100000 in
theorem c0_toSquareRest (g : bw_G) {A : bw_H} {D F a b n p gg N NB : Nat} {f h : Nat → Nat} {v w : Value} (hG : GFg n p gg) (hC : bw_has A (dvl g n p gg D F ++ (ppl g a N f v ++ ppl g b NB h w))) (hN : N ≤ 200) (hNB : NB ≤ 200) (hN2 : 129 ≤ N) (hf : pok n N f) (hh : pok n NB h) (h0 : pd h ≠ 0) (hf1 : pd f ≤ 65) :
    bw_C g (bw_rm 3 0 0) mX0_toSquareRest [.ref D, .ref a, .ref b] A (bw_pv (fun A' => A' = bw_pp g A a N (grs n (2 ^ n ||| p) (gsq n (2 ^ n ||| p) f) h) v)) := by
  refine bw_C.of (by decide) (Nat.le_of_ble_eq_true rfl) rfl ?_
  refine bw_aload_n 1 dX0_toSquareRest_0 rfl rfl ?_
  refine bw_get 4 dX0_toSquareRest_1 rfl lX0_15 (hC.at 3 rfl) rfl ?_
  refine bw_if_lt 16 7 dX0_toSquareRest_4 rfl rfl (fun c4 => ?_) (fun c4 => ?_)
  · have hf0 : pd f = 0 := (tI_lt0 (by omega)).mp c4
    refine bw_vret dX0_toSquareRest_16 rfl (Nat.le_of_ble_eq_true rfl) (Nat.le_of_ble_eq_true rfl) ?_
    refine ⟨rfl, ?_⟩
    have e1 := fz_of_pd hf hN hf0
    have e2 : grs n (2 ^ n ||| p) (gsq n (2 ^ n ||| p) f) h = f := by
      rw [e1, gsq_z, grs_lt (pok.zero n 1) (by omega)]
      rw [pd_0]; omega
    rw [e2]
    exact (bw_po_id (hC.sub [3, 4] (by decide) rfl)).symm
  · have hf0 : pd f ≠ 0 := fun h1 => c4 ((tI_lt0 (by omega)).mpr h1)
    refine bw_aload_n 8 dX0_toSquareRest_7 rfl rfl ?_
    refine bw_get 11 dX0_toSquareRest_8 rfl lX0_15 (hC.at 3 rfl) rfl ?_
    refine bw_bipush (64) 13 dX0_toSquareRest_11 (by decide) rfl ?_
    refine bw_eqi (y := nI 64) rfl ?_
    refine bw_icmp_le 17 16 dX0_toSquareRest_13 rfl rfl (fun c13 => ?_) (fun c13 => ?_)
    · skip
      refine bw_aload_n 18 dX0_toSquareRest_17 rfl rfl ?_
      refine bw_get 21 dX0_toSquareRest_18 rfl lX0_15 (hC.at 3 rfl) rfl ?_
      refine bw_istore_n 22 dX0_toSquareRest_21 rfl (by decide) ?_
      have hgo := c0_sqr_loop g hG hC hN hNB hN2 hf hh h0 hf0 hf1 (pd f) (Nat.le_refl _)
      rw [gsk_m (hf.z hN), bw_up_id (hC.at 4 rfl)] at hgo
      exact bw_loc [(0, .ref D), (1, .ref a), (2, .ref b), (3, .int (tI (pd f)))] ⟨rfl, rfl, rfl, rfl, trivial⟩ hgo
    · exact absurd ((show tI (pd f) ≤ tI 65 from (tI_le (by omega) (by omega)).mpr hf1)) c13
