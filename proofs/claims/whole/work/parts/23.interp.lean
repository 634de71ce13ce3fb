/-! Interpolation -/
abbrev iob (F ax ay : Nat) : va_E := .inr (6, [.ref F, .ref ax, .ref ay])
noncomputable abbrev ivl (g : bw_G) (n p gg I F ax ay : Nat) (X Y : Nat → Nat) : List (Nat × va_E) := (I, iob F ax ay) :: (fcl g n p gg F ++ [(ax, bw_an g 65 X), (ay, bw_an g 65 Y)])
set_option maxHeartbeats 4000000 in
set_option maxRecDepth 100000 in
theorem c4_take (g : bw_G) {A0 : bw_H} {I F ax ay k x y : Nat} {X Y : Nat → Nat} (hC : bw_has A0 [(I, iob F ax ay), (ax, bw_an g 65 X), (ay, bw_an g 65 Y)]) (hk : k < 65) :
    bw_C g (bw_rm 0 0 0) mX4_take [.ref I, .int (nI k), .int (nI x), .int (nI y)] A0 (bw_pv (fun A' => A' = bw_up (bw_up A0 ax (bw_an g 65 (fun i => if i = k then x else X i))) ay (bw_an g 65 (fun i => if i = k then y else Y i)))) := by
  refine bw_C.of (by decide) (Nat.le_of_ble_eq_true rfl) rfl ?_
  refine bw_aload_n 1 dX4_take_0 rfl rfl ?_
  refine bw_get 4 dX4_take_1 rfl lX4_9 (hC.at 0 rfl) rfl ?_
  refine bw_iload_n 5 dX4_take_4 rfl rfl ?_
  refine bw_iload_n 6 dX4_take_5 rfl rfl ?_
  refine bw_iastN 7 dX4_take_6 rfl (hC.at 1 rfl) (by omega) (by omega) (G := _) (rfl) (fun A hU => ?_)
  have hX := hU
  have hC := hC.upd 1 rfl hU
  refine bw_aload_n 8 dX4_take_7 rfl rfl ?_
  refine bw_get 11 dX4_take_8 rfl lX4_15 (hC.at 0 rfl) rfl ?_
  refine bw_iload_n 12 dX4_take_11 rfl rfl ?_
  refine bw_iload_n 13 dX4_take_12 rfl rfl ?_
  refine bw_iastN 14 dX4_take_13 rfl (hC.at 2 rfl) (by omega) (by omega) (G := _) (rfl) (fun A hU => ?_)
  have hC := hC.upd 2 rfl hU
  refine bw_vret dX4_take_14 rfl (Nat.le_of_ble_eq_true rfl) (Nat.le_of_ble_eq_true rfl) ?_
  exact ⟨rfl, by rw [hU, hX]⟩
/-- f by x + v, and c -/
def gma (n q : Nat) (f : Nat → Nat) (v c : Nat) (k : Nat) : Nat := gm n q (f k) v ^^^ (if 0 < k then f (k - 1) else c)
/-- its places from j on are done -/
def gmk (n q : Nat) (f : Nat → Nat) (v c j : Nat) (i : Nat) : Nat := if j ≤ i then gma n q f v c i else f i
theorem gmk_s {n q : Nat} {f : Nat → Nat} {v c j x : Nat} (hb : x = if 0 < j then f (j - 1) else c) : (fun i => if i = j then gm n q (f j) v ^^^ x else gmk n q f v c (j + 1) i) = gmk n q f v c j := by
  funext i
  unfold gmk
  by_cases h1 : i = j
  · subst h1
    rw [if_pos rfl, if_pos (Nat.le_refl i), hb]
    rfl
  · rw [if_neg h1]
    by_cases h2 : j ≤ i
    · rw [if_pos h2, if_pos (by omega)]
    · rw [if_neg h2, if_neg (by omega)]
theorem gmk_at {n q : Nat} {f : Nat → Nat} {v c j i : Nat} (h : i < j) : gmk n q f v c j i = f i := if_neg (by omega)
theorem gmk_0 {n q : Nat} {f : Nat → Nat} {v c : Nat} : gmk n q f v c 0 = gma n q f v c := funext fun i => if_pos (Nat.zero_le i)
theorem gmk_m {n q : Nat} {f : Nat → Nat} {v c m : Nat} (hz : ∀ i, m ≤ i → f i = 0) : gmk n q f v c (m + 1) = f := by
  funext i
  unfold gmk
  split
  · unfold gma
    rw [if_pos (by omega), hz i (by omega), hz (i - 1) (by omega), gm_0]
    rfl
  · rfl
theorem gma_ok {n q M : Nat} (hG : GFp n q) {f : Nat → Nat} {v c : Nat} (hf : pok n M f) (hc : c < 2 ^ n) : pok n (M + 1) (gma n q f v c) :=
  ⟨fun i hi => by
    unfold gma
    rw [if_pos (by omega), hf.1 i (by omega), hf.1 (i - 1) (by omega), gm_0]
    rfl, fun i => by
    unfold gma
    refine xor_lt (hG.lt (hf.2 i)) ?_
    split
    · exact hf.2 _
    · exact hc⟩
set_option maxHeartbeats 4000000 in
set_option maxRecDepth 100000 in
theorem c4_maa_loop (g : bw_G) {A0 : bw_H} {I F ax ay a n p gg N M v c : Nat} {f : Nat → Nat} {w : Value} (hG : GFg n p gg) (hC0 : bw_has A0 ((I, iob F ax ay) :: (fcl g n p gg F ++ ppl g a N f w))) (hN : N ≤ 200) (hM : M + 1 ≤ N) (hf : pok n M f) (hv : v < 2 ^ n) (hc : c < 2 ^ n) :
    ∀ j, j ≤ pd f + 1 → bw_W g (bw_rm 1 0 0) mX4_multiplyAndAdd (bw_pv (fun A' => A' = bw_pp g A0 a N (gma n (2 ^ n ||| p) f v c) w)) 0 0 12 [(0, .ref I), (1, .ref a), (2, .int (nI v)), (3, .int (nI c)), (4, .int (nI (pd f))), (5, .int (tI j))] [] (bw_up A0 (a + 1) (bw_an g N (gmk n (2 ^ n ||| p) f v c j))) := by
  have h16 := hG.p16
  have hpf := hf.le (show M ≤ 200 by omega)
  have hgo := gma_ok hG.2.2.1 (v := v) (hf.less (by omega) (Nat.le_refl (pd f))) hc
  intro j
  induction j with
  | zero =>
    intro hj
    rw [gmk_0]
    have hC := hC0.up 4 (e := bw_an g N (gma n (2 ^ n ||| p) f v c)) rfl
    refine bw_iload 14 dX4_multiplyAndAdd_12 rfl rfl ?_
    refine bw_if_lt 68 17 dX4_multiplyAndAdd_14 rfl rfl (fun c14 => ?_) (fun c14 => ?_)
    · refine bw_aload_n 69 dX4_multiplyAndAdd_68 rfl rfl ?_
      refine bw_iload 71 dX4_multiplyAndAdd_69 rfl rfl ?_
      refine bw_eqi ((tI_s (pd f)).symm) ?_
      refine bw_cVv 74 dX4_multiplyAndAdd_71 rfl vX4_47 (c7_settle g (hC.sub [3, 4] (by decide) rfl) (by omega) (by omega) (fun i => by have := hgo.2 i; omega)) (hC.at 3 rfl) rfl rfl (Nat.le_of_ble_eq_true rfl) ⟨(Nat.le_of_ble_eq_true rfl), (Nat.le_of_ble_eq_true rfl)⟩ (Nat.le_of_ble_eq_true rfl) (Nat.le_of_ble_eq_true rfl) (fun A hP => ?_)
      rw [gtp_pd hgo.1 (by omega)] at hP
      refine bw_vret dX4_multiplyAndAdd_74 rfl (Nat.le_of_ble_eq_true rfl) (Nat.le_of_ble_eq_true rfl) ?_
      exact ⟨rfl, hP⟩
    · exact absurd ((tI_lt0 (m := 0) (by omega)).mpr rfl) c14
  | succ j ih =>
    intro hj
    have hC := hC0.up 4 (e := bw_an g N (gmk n (2 ^ n ||| p) f v c (j + 1))) rfl
    rw [tI_s]
    refine bw_iload 14 dX4_multiplyAndAdd_12 rfl rfl ?_
    refine bw_if_lt 68 17 dX4_multiplyAndAdd_14 rfl rfl (fun c14 => ?_) (fun c14 => ?_)
    · exact absurd c14 (nI_pos (by omega))
    · skip
      refine bw_iload 19 dX4_multiplyAndAdd_17 rfl rfl ?_
      refine bw_if_le 34 22 dX4_multiplyAndAdd_19 rfl rfl (fun c19 => ?_) (fun c19 => ?_)
      · have hj0 : j = 0 := (xn_le0 (by omega)).mp c19
        have hb : c = if 0 < j then f (j - 1) else c := by rw [if_neg (by omega)]
        refine bw_iload_n 35 dX4_multiplyAndAdd_34 rfl rfl ?_
        refine bw_istore 37 dX4_multiplyAndAdd_35 rfl (by decide) ?_
        refine bw_aload_n 38 dX4_multiplyAndAdd_37 rfl rfl ?_
        refine bw_get 41 dX4_multiplyAndAdd_38 rfl lX4_41 (hC.at 3 rfl) rfl ?_
        refine bw_iload 43 dX4_multiplyAndAdd_41 rfl rfl ?_
        refine bw_aload_n 44 dX4_multiplyAndAdd_43 rfl rfl ?_
        refine bw_get 47 dX4_multiplyAndAdd_44 rfl lX4_18 (hC.at 0 rfl) rfl ?_
        refine bw_aload_n 48 dX4_multiplyAndAdd_47 rfl rfl ?_
        refine bw_get 51 dX4_multiplyAndAdd_48 rfl lX4_41 (hC.at 3 rfl) rfl ?_
        refine bw_iload 53 dX4_multiplyAndAdd_51 rfl rfl ?_
        refine bw_ialdN 54 dX4_multiplyAndAdd_53 rfl (hC.at 4 rfl) (by omega) (by omega) ?_
        refine bw_eqi (congrArg nI (gmk_at (Nat.lt_succ_self j))) ?_
        refine bw_iload_n 55 dX4_multiplyAndAdd_54 rfl rfl ?_
        refine bw_cVi 58 dX4_multiplyAndAdd_55 rfl vX4_44 (c3_mul g hG (hC.sub [1, 2] (by decide) rfl) (hf.2 j) hv) (hC.at 1 rfl) rfl rfl (Nat.le_of_ble_eq_true rfl) ⟨(Nat.le_of_ble_eq_true rfl), (Nat.le_of_ble_eq_true rfl)⟩ (Nat.le_of_ble_eq_true rfl) (Nat.le_of_ble_eq_true rfl) ?_
        refine bw_iload 60 dX4_multiplyAndAdd_58 rfl rfl ?_
        refine bw_ixor 61 dX4_multiplyAndAdd_60 rfl ?_
        refine bw_eqi (xn_xor _ _) ?_
        refine bw_iastN 62 dX4_multiplyAndAdd_61 rfl (hC.at 4 rfl) (by omega) (by omega) (G := gmk n (2 ^ n ||| p) f v c j) (gmk_s hb) (fun A hU => ?_)
        have hC := hC.upd 4 rfl hU
        refine bw_iincN (-1) 65 dX4_multiplyAndAdd_62 rfl rfl (by decide) (by decide) ?_
        refine bw_goto 12 dX4_multiplyAndAdd_65 rfl ?_
        refine bw_loc [(0, .ref I), (1, .ref a), (2, .int (nI v)), (3, .int (nI c)), (4, .int (nI (pd f))), (5, .int (tI j))] ⟨rfl, rfl, rfl, rfl, rfl, rfl, trivial⟩ ?_
        rw [hU, bw_up_up]
        exact ih (by omega)
      · have hj0 : 0 < j := Nat.pos_of_ne_zero (fun h => c19 ((xn_le0 (by omega)).mpr h))
        have hb : f (j - 1) = if 0 < j then f (j - 1) else c := by rw [if_pos hj0]
        refine bw_aload_n 23 dX4_multiplyAndAdd_22 rfl rfl ?_
        refine bw_get 26 dX4_multiplyAndAdd_23 rfl lX4_41 (hC.at 3 rfl) rfl ?_
        refine bw_iload 28 dX4_multiplyAndAdd_26 rfl rfl ?_
        refine bw_iconst (1) 29 dX4_multiplyAndAdd_28 (by decide) rfl ?_
        refine bw_eqi (y := nI 1) rfl ?_
        refine bw_isub 30 dX4_multiplyAndAdd_29 rfl ?_
        refine bw_eqi (pk_sub hj0) ?_
        refine bw_ialdN 31 dX4_multiplyAndAdd_30 rfl (hC.at 4 rfl) (by omega) (by omega) ?_
        refine bw_eqi (congrArg nI (gmk_at (show j - 1 < j + 1 by omega))) ?_
        refine bw_goto 35 dX4_multiplyAndAdd_31 rfl ?_
        refine bw_istore 37 dX4_multiplyAndAdd_35 rfl (by decide) ?_
        refine bw_aload_n 38 dX4_multiplyAndAdd_37 rfl rfl ?_
        refine bw_get 41 dX4_multiplyAndAdd_38 rfl lX4_41 (hC.at 3 rfl) rfl ?_
        refine bw_iload 43 dX4_multiplyAndAdd_41 rfl rfl ?_
        refine bw_aload_n 44 dX4_multiplyAndAdd_43 rfl rfl ?_
        refine bw_get 47 dX4_multiplyAndAdd_44 rfl lX4_18 (hC.at 0 rfl) rfl ?_
        refine bw_aload_n 48 dX4_multiplyAndAdd_47 rfl rfl ?_
        refine bw_get 51 dX4_multiplyAndAdd_48 rfl lX4_41 (hC.at 3 rfl) rfl ?_
        refine bw_iload 53 dX4_multiplyAndAdd_51 rfl rfl ?_
        refine bw_ialdN 54 dX4_multiplyAndAdd_53 rfl (hC.at 4 rfl) (by omega) (by omega) ?_
        refine bw_eqi (congrArg nI (gmk_at (Nat.lt_succ_self j))) ?_
        refine bw_iload_n 55 dX4_multiplyAndAdd_54 rfl rfl ?_
        refine bw_cVi 58 dX4_multiplyAndAdd_55 rfl vX4_44 (c3_mul g hG (hC.sub [1, 2] (by decide) rfl) (hf.2 j) hv) (hC.at 1 rfl) rfl rfl (Nat.le_of_ble_eq_true rfl) ⟨(Nat.le_of_ble_eq_true rfl), (Nat.le_of_ble_eq_true rfl)⟩ (Nat.le_of_ble_eq_true rfl) (Nat.le_of_ble_eq_true rfl) ?_
        refine bw_iload 60 dX4_multiplyAndAdd_58 rfl rfl ?_
        refine bw_ixor 61 dX4_multiplyAndAdd_60 rfl ?_
        refine bw_eqi (xn_xor _ _) ?_
        refine bw_iastN 62 dX4_multiplyAndAdd_61 rfl (hC.at 4 rfl) (by omega) (by omega) (G := gmk n (2 ^ n ||| p) f v c j) (gmk_s hb) (fun A hU => ?_)
        have hC := hC.upd 4 rfl hU
        refine bw_iincN (-1) 65 dX4_multiplyAndAdd_62 rfl rfl (by decide) (by decide) ?_
        refine bw_goto 12 dX4_multiplyAndAdd_65 rfl ?_
        refine bw_loc [(0, .ref I), (1, .ref a), (2, .int (nI v)), (3, .int (nI c)), (4, .int (nI (pd f))), (5, .int (tI j))] ⟨rfl, rfl, rfl, rfl, rfl, rfl, trivial⟩ ?_
        rw [hU, bw_up_up]
        exact ih (by omega)
set_option maxHeartbeats 4000000 in
set_option maxRecDepth 100000 in
theorem c4_multiplyAndAdd (g : bw_G) {A : bw_H} {I F ax ay a n p gg N M v c : Nat} {f : Nat → Nat} {w : Value} (hG : GFg n p gg) (hC : bw_has A ((I, iob F ax ay) :: (fcl g n p gg F ++ ppl g a N f w))) (hN : N ≤ 200) (hM : M + 1 ≤ N) (hf : pok n M f) (hv : v < 2 ^ n) (hc : c < 2 ^ n) :
    bw_C g (bw_rm 1 0 0) mX4_multiplyAndAdd [.ref I, .ref a, .int (nI v), .int (nI c)] A (bw_pv (fun A' => A' = bw_pp g A a N (gma n (2 ^ n ||| p) f v c) w)) := by
  refine bw_C.of (by decide) (Nat.le_of_ble_eq_true rfl) rfl ?_
  refine bw_aload_n 1 dX4_multiplyAndAdd_0 rfl rfl ?_
  refine bw_get 4 dX4_multiplyAndAdd_1 rfl lX4_37 (hC.at 3 rfl) rfl ?_
  refine bw_iconst (1) 5 dX4_multiplyAndAdd_4 (by decide) rfl ?_
  refine bw_iadd 6 dX4_multiplyAndAdd_5 rfl ?_
  refine bw_eqi (tI_add (pd f)) ?_
  refine bw_istore 8 dX4_multiplyAndAdd_6 rfl (by decide) ?_
  refine bw_iload 10 dX4_multiplyAndAdd_8 rfl rfl ?_
  refine bw_istore 12 dX4_multiplyAndAdd_10 rfl (by decide) ?_
  have hgo := c4_maa_loop g hG hC hN hM hf hv hc (pd f + 1) (Nat.le_refl _)
  rw [gmk_m (hf.z (by omega)), bw_up_id (hC.at 4 rfl)] at hgo
  refine bw_loc [(0, .ref I), (1, .ref a), (2, .int (nI v)), (3, .int (nI c)), (4, .int (nI (pd f))), (5, .int (tI (pd f + 1)))] ⟨rfl, rfl, rfl, rfl, rfl, congrArg (fun x => some (Value.int x)) (tI_s (pd f)).symm, trivial⟩ hgo
/-- differences of points that are s apart, from s + r on down -/
def gda (n q : Nat) (X : Nat → Nat) (s : Nat) : Nat → (Nat → Nat) → Nat → Nat
  | 0, Y => Y
  | r + 1, Y => gda n q X s r (fun j => if j = s + r then gm n q (Y (s + r) ^^^ Y (s + r - 1)) (ginv n q (X (s + r) ^^^ X r)) else Y j)
/-- r rounds of them -/
def gdo (n q : Nat) (X : Nat → Nat) (count : Nat) : Nat → Nat → (Nat → Nat) → Nat → Nat
  | 0, _, Y => Y
  | r + 1, s, Y => gdo n q X count r (s + 1) (gda n q X s (count - s) Y)
/-- Newton's polynomial -/
def gnw (n q : Nat) (X Y : Nat → Nat) : Nat → (Nat → Nat) → Nat → Nat
  | 0, f => f
  | j + 1, f => gnw n q X Y j (gma n q f (X j) (Y j))
theorem gda_lt {n q : Nat} (hG : GFp n q) {X : Nat → Nat} {s : Nat} : ∀ (r : Nat) {Y : Nat → Nat}, (∀ i, Y i < 2 ^ n) → ∀ i, gda n q X s r Y i < 2 ^ n
  | 0, _, h => h
  | r + 1, Y, h => gda_lt hG r (fun i => by
    split
    · exact hG.lt (xor_lt (h _) (h _))
    · exact h i)
theorem gdo_lt {n q : Nat} (hG : GFp n q) {X : Nat → Nat} {count : Nat} : ∀ (r : Nat) {s : Nat} {Y : Nat → Nat}, (∀ i, Y i < 2 ^ n) → ∀ i, gdo n q X count r s Y i < 2 ^ n
  | 0, _, _, h => h
  | r + 1, _, _, h => gdo_lt hG r (gda_lt hG _ h)
theorem gnw_ok {n q : Nat} (hG : GFp n q) {X Y : Nat → Nat} (hY : ∀ i, Y i < 2 ^ n) : ∀ (j : Nat) {M : Nat} {f : Nat → Nat}, pok n M f → pok n (M + j) (gnw n q X Y j f)
  | 0, _, _, h => h
  | j + 1, M, f, h => by
    have := gnw_ok hG (X := X) hY j (gma_ok hG (v := X j) h (hY j))
    rw [show M + (j + 1) = M + 1 + j by omega]
    exact this
set_option maxHeartbeats 4000000 in
set_option maxRecDepth 100000 in
theorem c4_in (g : bw_G) {A0 : bw_H} {Q : bw_O → bw_H → Prop} {I F ax ay a n p gg N m s count : Nat} {f X Y0 : Nat → Nat} {w : Value} (hG : GFg n p gg) (hC0 : bw_has A0 (ivl g n p gg I F ax ay X Y0 ++ pcl g a N f m w)) (hX : ∀ i, X i < 2 ^ n) (hs : 1 ≤ s) (hct : count ≤ 65) :
    ∀ (r : Nat) (Y : Nat → Nat), (∀ i, Y i < 2 ^ n) → s + r ≤ count →
      bw_W g (bw_rm 2 0 0) mX4_run Q 0 0 72 [(0, .ref I), (1, .int (nI count)), (2, .ref a), (3, .int (nI s))] [] (bw_up A0 ay (bw_an g 65 (gda n (2 ^ n ||| p) X s r Y))) →
      bw_W g (bw_rm 2 0 0) mX4_run Q 0 0 12 [(0, .ref I), (1, .int (nI count)), (2, .ref a), (3, .int (nI s)), (4, .int (tI (s + r)))] [] (bw_up A0 ay (bw_an g 65 Y)) := by
  intro r
  induction r with
  | zero =>
    intro Y hY hr hk
    have hC := hC0.up 4 (e := bw_an g 65 Y) rfl
    refine bw_iload 14 dX4_run_12 rfl rfl ?_
    refine bw_iload_n 15 dX4_run_14 rfl rfl ?_
    refine bw_icmp_lt 72 18 dX4_run_15 rfl rfl (fun c15 => ?_) (fun c15 => ?_)
    · exact bw_loc [(0, .ref I), (1, .int (nI count)), (2, .ref a), (3, .int (nI s))] ⟨rfl, rfl, rfl, rfl, trivial⟩ hk
    · exact absurd ((tI_ltk (m := s) (by omega) (by omega)).mpr (Nat.le_refl s)) c15
  | succ r ih =>
    intro Y hY hr hk
    have hC := hC0.up 4 (e := bw_an g 65 Y) rfl
    rw [show tI (s + (r + 1)) = nI (s + r) from tI_s (s + r)]
    refine bw_iload 14 dX4_run_12 rfl rfl ?_
    refine bw_iload_n 15 dX4_run_14 rfl rfl ?_
    refine bw_icmp_lt 72 18 dX4_run_15 rfl rfl (fun c15 => ?_) (fun c15 => ?_)
    · exact absurd ((nI_ltI (by omega) (by omega)).mp c15) (by omega)
    · skip
      refine bw_aload_n 19 dX4_run_18 rfl rfl ?_
      refine bw_get 22 dX4_run_19 rfl lX4_15 (hC.at 0 rfl) rfl ?_
      refine bw_iload 24 dX4_run_22 rfl rfl ?_
      refine bw_aload_n 25 dX4_run_24 rfl rfl ?_
      refine bw_get 28 dX4_run_25 rfl lX4_18 (hC.at 0 rfl) rfl ?_
      refine bw_aload_n 29 dX4_run_28 rfl rfl ?_
      refine bw_get 32 dX4_run_29 rfl lX4_15 (hC.at 0 rfl) rfl ?_
      refine bw_iload 34 dX4_run_32 rfl rfl ?_
      refine bw_ialdN 35 dX4_run_34 rfl (hC.at 4 rfl) (by omega) (by omega) ?_
      refine bw_aload_n 36 dX4_run_35 rfl rfl ?_
      refine bw_get 39 dX4_run_36 rfl lX4_15 (hC.at 0 rfl) rfl ?_
      refine bw_iload 41 dX4_run_39 rfl rfl ?_
      refine bw_iconst (1) 42 dX4_run_41 (by decide) rfl ?_
      refine bw_eqi (y := nI 1) rfl ?_
      refine bw_isub 43 dX4_run_42 rfl ?_
      refine bw_eqi (pk_sub (show 1 ≤ s + r by omega)) ?_
      refine bw_ialdN 44 dX4_run_43 rfl (hC.at 4 rfl) (by omega) (by omega) ?_
      refine bw_ixor 45 dX4_run_44 rfl ?_
      refine bw_eqi (xn_xor _ _) ?_
      refine bw_aload_n 46 dX4_run_45 rfl rfl ?_
      refine bw_get 49 dX4_run_46 rfl lX4_9 (hC.at 0 rfl) rfl ?_
      refine bw_iload 51 dX4_run_49 rfl rfl ?_
      refine bw_ialdN 52 dX4_run_51 rfl (hC.at 3 rfl) (by omega) (by omega) ?_
      refine bw_aload_n 53 dX4_run_52 rfl rfl ?_
      refine bw_get 56 dX4_run_53 rfl lX4_9 (hC.at 0 rfl) rfl ?_
      refine bw_iload 58 dX4_run_56 rfl rfl ?_
      refine bw_iload_n 59 dX4_run_58 rfl rfl ?_
      refine bw_isub 60 dX4_run_59 rfl ?_
      refine bw_eqi ((pk_sub (Nat.le_add_right s r)).trans (congrArg nI (Nat.add_sub_cancel_left s r))) ?_
      refine bw_ialdN 61 dX4_run_60 rfl (hC.at 3 rfl) (by omega) (by omega) ?_
      refine bw_ixor 62 dX4_run_61 rfl ?_
      refine bw_eqi (xn_xor _ _) ?_
      refine bw_cVi 65 dX4_run_62 rfl vX4_22 (c3_ratio g hG (hC.sub [1, 2] (by decide) rfl) (xor_lt (hY _) (hY _)) (xor_lt (hX _) (hX _))) (hC.at 1 rfl) rfl rfl (Nat.le_of_ble_eq_true rfl) ⟨(Nat.le_of_ble_eq_true rfl), (Nat.le_of_ble_eq_true rfl)⟩ (Nat.le_of_ble_eq_true rfl) (Nat.le_of_ble_eq_true rfl) ?_
      refine bw_iastN 66 dX4_run_65 rfl (hC.at 4 rfl) (by omega) (by omega) (G := _) (rfl) (fun A hU => ?_)
      have hC := hC.upd 4 rfl hU
      refine bw_iincN (-1) 69 dX4_run_66 rfl rfl (by decide) (by decide) ?_
      refine bw_goto 12 dX4_run_69 rfl ?_
      refine bw_loc [(0, .ref I), (1, .int (nI count)), (2, .ref a), (3, .int (nI s)), (4, .int (tI (s + r)))] ⟨rfl, rfl, rfl, rfl, rfl, trivial⟩ ?_
      rw [hU, bw_up_up]
      refine ih _ (fun i => ?_) (by omega) hk
      show (if _ then _ else _) < _
      split
      · exact hG.2.2.1.lt (xor_lt (hY _) (hY _))
      · exact hY i
set_option maxHeartbeats 4000000 in
set_option maxRecDepth 100000 in
theorem c4_out (g : bw_G) {A0 : bw_H} {Q : bw_O → bw_H → Prop} {I F ax ay a n p gg N m count : Nat} {f X Y0 : Nat → Nat} {w : Value} (hG : GFg n p gg) (hC0 : bw_has A0 (ivl g n p gg I F ax ay X Y0 ++ pcl g a N f m w)) (hX : ∀ i, X i < 2 ^ n) (hct : count ≤ 65) :
    ∀ (r s : Nat) (Y : Nat → Nat), (∀ i, Y i < 2 ^ n) → s + r = max count 1 → 1 ≤ s →
      bw_W g (bw_rm 2 0 0) mX4_run Q 0 0 78 [(0, .ref I), (1, .int (nI count)), (2, .ref a)] [] (bw_up A0 ay (bw_an g 65 (gdo n (2 ^ n ||| p) X count r s Y))) →
      bw_W g (bw_rm 2 0 0) mX4_run Q 0 0 2 [(0, .ref I), (1, .int (nI count)), (2, .ref a), (3, .int (nI s))] [] (bw_up A0 ay (bw_an g 65 Y)) := by
  intro r
  induction r with
  | zero =>
    intro s Y hY hr hs hk
    have hC := hC0.up 4 (e := bw_an g 65 Y) rfl
    refine bw_iload_n 3 dX4_run_2 rfl rfl ?_
    refine bw_iload_n 4 dX4_run_3 rfl rfl ?_
    refine bw_icmp_ge 78 7 dX4_run_4 rfl rfl (fun c4 => ?_) (fun c4 => ?_)
    · exact bw_loc [(0, .ref I), (1, .int (nI count)), (2, .ref a)] ⟨rfl, rfl, rfl, trivial⟩ hk
    · exact absurd (nI_le (by omega) (by omega)) c4
  | succ r ih =>
    intro s Y hY hr hs hk
    have hC := hC0.up 4 (e := bw_an g 65 Y) rfl
    refine bw_iload_n 3 dX4_run_2 rfl rfl ?_
    refine bw_iload_n 4 dX4_run_3 rfl rfl ?_
    refine bw_icmp_ge 78 7 dX4_run_4 rfl rfl (fun c4 => ?_) (fun c4 => ?_)
    · exact absurd c4 (nI_ge (by omega) (by omega))
    · skip
      refine bw_iload_n 8 dX4_run_7 rfl rfl ?_
      refine bw_iconst (1) 9 dX4_run_8 (by decide) rfl ?_
      refine bw_isub 10 dX4_run_9 rfl ?_
      refine bw_eqi (tI_sub count) ?_
      refine bw_istore 12 dX4_run_10 rfl (by decide) ?_
      refine bw_loc [(0, .ref I), (1, .int (nI count)), (2, .ref a), (3, .int (nI s)), (4, .int (tI (s + (count - s))))] ⟨rfl, rfl, rfl, rfl, congrArg (fun x => some (Value.int (tI x))) (show count = s + (count - s) by omega), trivial⟩ ?_
      refine c4_in g hG hC0 hX hs hct (count - s) Y hY (by omega) ?_
      refine bw_iincN (1) 75 dX4_run_72 rfl rfl (by decide) (by decide) ?_
      refine bw_goto 2 dX4_run_75 rfl ?_
      refine bw_loc [(0, .ref I), (1, .int (nI count)), (2, .ref a), (3, .int (nI (s + 1)))] ⟨rfl, rfl, rfl, congrArg (fun x => some (Value.int x)) (nI_1 s), trivial⟩ ?_
      exact ih (s + 1) _ (gda_lt hG.2.2.1 _ hY) (by omega) (by omega) hk
/-- what run leaves -/
def runP (g : bw_G) (a ay N : Nat) (f Y : Nat → Nat) (w : Value) (A0 A' : bw_H) : Prop := bw_sm [ay, a, a + 1] A0 A' ∧ bw_has A' ((ay, bw_an g 65 Y) :: ppl g a N f w)
set_option maxHeartbeats 4000000 in
set_option maxRecDepth 100000 in
theorem c4_nw (g : bw_G) {A0 : bw_H} {I F ax ay a n p gg N count : Nat} {X Y : Nat → Nat} {w : Value} (hG : GFg n p gg) (hN : N ≤ 200) (hct : count < N) (hct5 : count ≤ 65) (hX : ∀ i, X i < 2 ^ n) (hY : ∀ i, Y i < 2 ^ n) :
    ∀ (j : Nat) (f : Nat → Nat) (A : bw_H), bw_has A (ivl g n p gg I F ax ay X Y ++ ppl g a N f w) → bw_sm [ay, a, a + 1] A0 A → j ≤ count → pok n (count - j) f →
      bw_W g (bw_rm 2 0 0) mX4_run (bw_pv (runP g a ay N (gnw n (2 ^ n ||| p) X Y j f) Y w A0)) 0 0 86 [(0, .ref I), (1, .int (nI count)), (2, .ref a), (3, .int (tI j))] [] A := by
  intro j
  induction j with
  | zero =>
    intro f A hC hS hj hf
    refine bw_iload_n 87 dX4_run_86 rfl rfl ?_
    refine bw_if_lt 113 90 dX4_run_87 rfl rfl (fun c87 => ?_) (fun c87 => ?_)
    · refine bw_vret dX4_run_113 rfl (Nat.le_of_ble_eq_true rfl) (Nat.le_of_ble_eq_true rfl) ?_
      exact ⟨rfl, hS, hC.sub [4, 5, 6] (by decide) rfl⟩
    · exact absurd ((tI_lt0 (m := 0) (by omega)).mpr rfl) c87
  | succ j ih =>
    intro f A hC hS hj hf
    rw [tI_s]
    refine bw_iload_n 87 dX4_run_86 rfl rfl ?_
    refine bw_if_lt 113 90 dX4_run_87 rfl rfl (fun c87 => ?_) (fun c87 => ?_)
    · exact absurd c87 (nI_pos (by omega))
    · skip
      refine bw_aload_n 91 dX4_run_90 rfl rfl ?_
      refine bw_aload_n 92 dX4_run_91 rfl rfl ?_
      refine bw_aload_n 93 dX4_run_92 rfl rfl ?_
      refine bw_get 96 dX4_run_93 rfl lX4_9 (hC.at 0 rfl) rfl ?_
      refine bw_iload_n 97 dX4_run_96 rfl rfl ?_
      refine bw_ialdN 98 dX4_run_97 rfl (hC.at 3 rfl) (by omega) (by omega) ?_
      refine bw_aload_n 99 dX4_run_98 rfl rfl ?_
      refine bw_get 102 dX4_run_99 rfl lX4_15 (hC.at 0 rfl) rfl ?_
      refine bw_iload_n 103 dX4_run_102 rfl rfl ?_
      refine bw_ialdN 104 dX4_run_103 rfl (hC.at 4 rfl) (by omega) (by omega) ?_
      refine bw_cVv 107 dX4_run_104 rfl vX4_33 (c4_multiplyAndAdd g hG (hC.sub [0, 1, 2, 5, 6] (by decide) rfl) hN (by omega) hf (hX j) (hY j)) (hC.at 0 rfl) rfl rfl (Nat.le_of_ble_eq_true rfl) ⟨(Nat.le_of_ble_eq_true rfl), (Nat.le_of_ble_eq_true rfl)⟩ (Nat.le_of_ble_eq_true rfl) (Nat.le_of_ble_eq_true rfl) (fun A hP => ?_)
      have hC := hC.po 5 6 rfl rfl hP
      have hS := hS.po hP (by simp) (by simp)
      refine bw_iincN (-1) 110 dX4_run_107 rfl rfl (by decide) (by decide) ?_
      refine bw_goto 86 dX4_run_110 rfl ?_
      refine bw_loc [(0, .ref I), (1, .int (nI count)), (2, .ref a), (3, .int (tI j))] ⟨rfl, rfl, rfl, rfl, trivial⟩ ?_
      refine ih _ _ hC hS (by omega) ?_
      rw [show count - j = count - (j + 1) + 1 by omega]
      exact gma_ok hG.2.2.1 hf (hY j)
set_option maxHeartbeats 4000000 in
set_option maxRecDepth 100000 in
theorem c4_run (g : bw_G) {A : bw_H} {I F ax ay a n p gg N m count : Nat} {f X Y : Nat → Nat} {w : Value} (hG : GFg n p gg) (hC : bw_has A (ivl g n p gg I F ax ay X Y ++ pcl g a N f m w)) (hN : N ≤ 200) (hw : pwk N f m) (hct : count < N) (hct5 : count ≤ 65) (hX : ∀ i, X i < 2 ^ n) (hY : ∀ i, Y i < 2 ^ n) :
    bw_C g (bw_rm 2 0 0) mX4_run [.ref I, .int (nI count), .ref a] A (bw_pv (runP g a ay N (gnw n (2 ^ n ||| p) X (gdo n (2 ^ n ||| p) X count (count - 1) 1 Y) count (fun _ => 0)) (gdo n (2 ^ n ||| p) X count (count - 1) 1 Y) w A)) := by
  refine bw_C.of (by decide) (Nat.le_of_ble_eq_true rfl) rfl ?_
  refine bw_iconst (1) 1 dX4_run_0 (by decide) rfl ?_
  refine bw_eqi (y := nI 1) rfl ?_
  refine bw_istore_n 2 dX4_run_1 rfl (by decide) ?_
  refine bw_loc [(0, .ref I), (1, .int (nI count)), (2, .ref a), (3, .int (nI 1))] ⟨rfl, rfl, rfl, rfl, trivial⟩ ?_
  have hgo := fun Q => c4_out g (Q := Q) hG hC hX hct5 (count - 1) 1 Y hY (by omega) (by omega)
  rw [bw_up_id (hC.at 4 rfl)] at hgo
  refine hgo _ ?_
  have hS : bw_sm [ay, a, a + 1] A (bw_up A ay (bw_an g 65 (gdo n (2 ^ n ||| p) X count (count - 1) 1 Y))) := bw_sm.upd bw_sm.rf rfl (by simp)
  have hC := hC.up 4 (e := bw_an g 65 (gdo n (2 ^ n ||| p) X count (count - 1) 1 Y)) rfl
  refine bw_aload_n 79 dX4_run_78 rfl rfl ?_
  refine bw_cVv 82 dX4_run_79 rfl vX4_28 (c7_clearP g (hC.sub [5, 6] (by decide) rfl) hN hw) (hC.at 5 rfl) rfl rfl (Nat.le_of_ble_eq_true rfl) ⟨(Nat.le_of_ble_eq_true rfl), (Nat.le_of_ble_eq_true rfl)⟩ (Nat.le_of_ble_eq_true rfl) (Nat.le_of_ble_eq_true rfl) (fun A hP => ?_)
  have hC := hC.po 5 6 rfl rfl hP
  have hS := hS.po hP (by simp) (by simp)
  refine bw_iload_n 83 dX4_run_82 rfl rfl ?_
  refine bw_iconst (1) 84 dX4_run_83 (by decide) rfl ?_
  refine bw_isub 85 dX4_run_84 rfl ?_
  refine bw_eqi (tI_sub count) ?_
  refine bw_istore_n 86 dX4_run_85 rfl (by decide) ?_
  refine bw_loc [(0, .ref I), (1, .int (nI count)), (2, .ref a), (3, .int (tI count))] ⟨rfl, rfl, rfl, rfl, trivial⟩ ?_
  exact c4_nw g hG hN hct hct5 hX (gdo_lt hG.2.2.1 _ hY) count _ _ hC hS (Nat.le_refl count) (pok.zero n _)
