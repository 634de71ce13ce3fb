/-! Elimination: exchange, free, reduce, solution, copyAppended -/
/-- rows i and k change places in the first j columns -/
def gxc (W : Nat → Nat → Nat) (i k j a b : Nat) : Nat := if b < j then (if a = i then W k b else if a = k then W i b else W a b) else W a b
theorem gxc_at {W : Nat → Nat → Nat} {i k j a : Nat} : gxc W i k j a j = W a j := if_neg (by omega)
theorem gxc_0 {W : Nat → Nat → Nat} {i k : Nat} : gxc W i k 0 = W := by
  funext a b
  exact if_neg (by omega)
theorem gxc_s {W : Nat → Nat → Nat} {i k j : Nat} : ∀ a, (if a = k then (fun b => if b = j then W i j else (if k = i then (fun b => if b = j then W k j else gxc W i k j i b) else gxc W i k j k) b) else (if a = i then (fun b => if b = j then W k j else gxc W i k j i b) else gxc W i k j a)) = gxc W i k (j + 1) a := by
  intro a
  funext b
  by_cases hb : b = j
  · subst hb
    by_cases h1 : a = k
    · rw [if_pos h1]
      show (if b = b then W i b else _) = _
      rw [if_pos rfl]
      unfold gxc
      rw [if_pos (by omega)]
      by_cases h2 : a = i
      · rw [if_pos h2, ← h1, h2]
      · rw [if_neg h2, if_pos h1]
    · rw [if_neg h1]
      by_cases h2 : a = i
      · rw [if_pos h2]
        show (if b = b then W k b else _) = _
        rw [if_pos rfl]
        unfold gxc
        rw [if_pos (by omega), if_pos h2]
      · rw [if_neg h2]
        unfold gxc
        rw [if_neg (by omega), if_pos (by omega), if_neg h2, if_neg h1]
  · have key : ∀ a, gxc W i k j a b = gxc W i k (j + 1) a b := by
      intro a
      unfold gxc
      exact if_iff (by omega)
    by_cases h1 : a = k
    · rw [if_pos h1]
      show (if b = j then W i j else _) = _
      rw [if_neg hb, ← key, h1]
      by_cases h2 : k = i
      · rw [if_pos h2]
        show (if b = j then W k j else _) = _
        rw [if_neg hb, ← h2]
      · rw [if_neg h2]
    · rw [if_neg h1]
      by_cases h2 : a = i
      · rw [if_pos h2]
        show (if b = j then W k j else _) = _
        rw [if_neg hb, key, h2]
      · rw [if_neg h2, key]
set_option maxHeartbeats 4000000 in
set_option maxRecDepth 100000 in
theorem c1_exc_loop (g : bw_G) {A0 : bw_H} {E F ec pr n p gg h wd rk pp i k : Nat} {pv : Nat → Option Nat} {W : Nat → Nat → Nat} (hsep : ∀ a ∈ [E, F, F + 1, ec, pr], a < ec + 1 ∨ ec + 1 + 8 ≤ a) (hw : wd ≤ 16) (hi : i < 8) (hk : k < 8) :
    ∀ j, j ≤ wd → ∀ A : bw_H, bw_has A (evl g n p gg E F ec pr h wd rk pp pv) → bw_rw g A (ec + 1) 8 16 (gxc W i k j) → bw_sm (elL E ec pr) A0 A →
      bw_W g (bw_rm 0 0 0) mX1_exchange (bw_pv (elP g n p gg E F ec pr h wd rk pp pv (gxc W i k wd) A0)) 0 0 2 [(0, .ref E), (1, .int (nI i)), (2, .int (nI k)), (3, .int (nI j))] [] A := by
  refine nat_up wd ?_ ?_
  · intro A hC hR hM
    refine bw_iload_n 3 dX1_exchange_2 rfl rfl ?_
    refine bw_aload_n 4 dX1_exchange_3 rfl rfl ?_
    refine bw_get 7 dX1_exchange_4 rfl lX1_36 (hC.at 0 rfl) rfl ?_
    refine bw_icmp_ge 52 10 dX1_exchange_7 rfl rfl (fun c7 => ?_) (fun c7 => ?_)
    · refine bw_vret dX1_exchange_52 rfl (Nat.le_of_ble_eq_true rfl) (Nat.le_of_ble_eq_true rfl) ?_
      exact ⟨rfl, hM, hC, hR⟩
    · exact absurd (Int32.le_refl _) c7
  · intro j hj ih A hC hR hM
    refine bw_iload_n 3 dX1_exchange_2 rfl rfl ?_
    refine bw_aload_n 4 dX1_exchange_3 rfl rfl ?_
    refine bw_get 7 dX1_exchange_4 rfl lX1_36 (hC.at 0 rfl) rfl ?_
    refine bw_icmp_ge 52 10 dX1_exchange_7 rfl rfl (fun c7 => ?_) (fun c7 => ?_)
    · exact absurd c7 (nI_ge (by omega) (by omega))
    · skip
      refine bw_aload_n 11 dX1_exchange_10 rfl rfl ?_
      refine bw_get 14 dX1_exchange_11 rfl lX1_11 (hC.at 0 rfl) rfl ?_
      refine bw_iload_n 15 dX1_exchange_14 rfl rfl ?_
      refine bw_aaldN 16 dX1_exchange_15 rfl rfl rfl (hC.at 3 rfl) (by exact hi) (by omega) (if_pos hi) ?_
      refine bw_iload_n 17 dX1_exchange_16 rfl rfl ?_
      refine bw_ialdN 18 dX1_exchange_17 rfl (hR i hi) (by omega) (by omega) ?_
      refine bw_eqi (congrArg nI gxc_at) ?_
      refine bw_istore 20 dX1_exchange_18 rfl (by decide) ?_
      refine bw_aload_n 21 dX1_exchange_20 rfl rfl ?_
      refine bw_get 24 dX1_exchange_21 rfl lX1_11 (hC.at 0 rfl) rfl ?_
      refine bw_iload_n 25 dX1_exchange_24 rfl rfl ?_
      refine bw_aaldN 26 dX1_exchange_25 rfl rfl rfl (hC.at 3 rfl) (by exact hi) (by omega) (if_pos hi) ?_
      refine bw_iload_n 27 dX1_exchange_26 rfl rfl ?_
      refine bw_aload_n 28 dX1_exchange_27 rfl rfl ?_
      refine bw_get 31 dX1_exchange_28 rfl lX1_11 (hC.at 0 rfl) rfl ?_
      refine bw_iload_n 32 dX1_exchange_31 rfl rfl ?_
      refine bw_aaldN 33 dX1_exchange_32 rfl rfl rfl (hC.at 3 rfl) (by exact hk) (by omega) (if_pos hk) ?_
      refine bw_iload_n 34 dX1_exchange_33 rfl rfl ?_
      refine bw_ialdN 35 dX1_exchange_34 rfl (hR k hk) (by omega) (by omega) ?_
      refine bw_eqi (congrArg nI gxc_at) ?_
      refine bw_iastN 36 dX1_exchange_35 rfl (hR i hi) (by omega) (by omega) (G := _) (rfl) (fun A hU => ?_)
      have hR := hR.set (w' := fun a => if a = i then (fun b => if b = j then W k j else gxc W i k j i b) else gxc W i k j a) hU (fun _ => rfl)
      have hC := hC.row hU hi hsep
      have hM := hM.upd hU (by simp; omega)
      refine bw_aload_n 37 dX1_exchange_36 rfl rfl ?_
      refine bw_get 40 dX1_exchange_37 rfl lX1_11 (hC.at 0 rfl) rfl ?_
      refine bw_iload_n 41 dX1_exchange_40 rfl rfl ?_
      refine bw_aaldN 42 dX1_exchange_41 rfl rfl rfl (hC.at 3 rfl) (by exact hk) (by omega) (if_pos hk) ?_
      refine bw_iload_n 43 dX1_exchange_42 rfl rfl ?_
      refine bw_iload 45 dX1_exchange_43 rfl rfl ?_
      refine bw_iastN 46 dX1_exchange_45 rfl (hR k hk) (by omega) (by omega) (G := _) (rfl) (fun A hU => ?_)
      have hR := hR.set (w' := gxc W i k (j + 1)) hU gxc_s
      have hC := hC.row hU hk hsep
      have hM := hM.upd hU (by simp; omega)
      refine bw_iincN (1) 49 dX1_exchange_46 rfl rfl (by decide) (by decide) ?_
      refine bw_goto 2 dX1_exchange_49 rfl ?_
      refine bw_loc [(0, .ref E), (1, .int (nI i)), (2, .int (nI k)), (3, .int (nI (j + 1)))] ⟨rfl, rfl, rfl, congrArg (fun x => some (Value.int x)) (nI_1 j), trivial⟩ ?_
      exact ih _ hC hR hM
set_option maxHeartbeats 4000000 in
set_option maxRecDepth 100000 in
theorem c1_exchange (g : bw_G) {A0 : bw_H} {E F ec pr n p gg h wd rk pp i k : Nat} {pv : Nat → Option Nat} {W : Nat → Nat → Nat} (hsep : ∀ a ∈ [E, F, F + 1, ec, pr], a < ec + 1 ∨ ec + 1 + 8 ≤ a) (hw : wd ≤ 16) (hi : i < 8) (hk : k < 8) (hC : bw_has A0 (evl g n p gg E F ec pr h wd rk pp pv)) (hR : bw_rw g A0 (ec + 1) 8 16 W) :
    bw_C g (bw_rm 0 0 0) mX1_exchange [.ref E, .int (nI i), .int (nI k)] A0 (bw_pv (elP g n p gg E F ec pr h wd rk pp pv (gxc W i k wd) A0)) := by
  refine bw_C.of (by decide) (Nat.le_of_ble_eq_true rfl) rfl ?_
  refine bw_iconst (0) 1 dX1_exchange_0 (by decide) rfl ?_
  refine bw_eqi (y := nI 0) rfl ?_
  refine bw_istore_n 2 dX1_exchange_1 rfl (by decide) ?_
  refine bw_loc [(0, .ref E), (1, .int (nI i)), (2, .int (nI k)), (3, .int (nI 0))] ⟨rfl, rfl, rfl, rfl, trivial⟩ ?_
  exact c1_exc_loop g hsep hw hi hk 0 (Nat.zero_le wd) _ hC (by rw [gxc_0]; exact hR) bw_sm.rf
/-- row rk becomes P, and the rows below k lose their multiple of it -/
def gfe (n q : Nat) (W : Nat → Nat → Nat) (P : Nat → Nat) (rk col wd k a : Nat) : Nat → Nat := if a = rk then P else if a < k then gam n q (W a) P 0 0 (W a col) wd else W a
theorem gfe_s {n q : Nat} {W : Nat → Nat → Nat} {P : Nat → Nat} {rk col wd k : Nat} (hk : k ≠ rk) : ∀ a, (if a = k then gam n q (W k) P 0 0 (W k col) wd else gfe n q W P rk col wd k a) = gfe n q W P rk col wd (k + 1) a := by
  intro a
  unfold gfe
  by_cases h1 : a = k
  · subst h1
    rw [if_pos rfl, if_neg hk, if_pos (by omega)]
  · rw [if_neg h1]
    by_cases h2 : a = rk
    · rw [if_pos h2, if_pos h2]
    · rw [if_neg h2, if_neg h2]
      exact if_iff (by omega)
theorem gfe_rk {n q : Nat} {W : Nat → Nat → Nat} {P : Nat → Nat} {rk col wd : Nat} : gfe n q W P rk col wd rk = gfe n q W P rk col wd (rk + 1) := by
  funext a
  unfold gfe
  by_cases h2 : a = rk
  · rw [if_pos h2, if_pos h2]
  · rw [if_neg h2, if_neg h2]
    exact if_iff (by omega)
theorem gfe_at {n q : Nat} {W : Nat → Nat → Nat} {P : Nat → Nat} {rk col wd k : Nat} (hk : k ≠ rk) : gfe n q W P rk col wd k k = W k := by
  unfold gfe
  rw [if_neg hk, if_neg (by omega)]
theorem gfe_pv {n q : Nat} {W : Nat → Nat → Nat} {P : Nat → Nat} {rk col wd k : Nat} : gfe n q W P rk col wd k rk = P := if_pos rfl
theorem gfe_lt {n q : Nat} (hG : GFp n q) {W : Nat → Nat → Nat} {P : Nat → Nat} {rk col wd k : Nat} (hW : ∀ i j, W i j < 2 ^ n) (hP : ∀ j, P j < 2 ^ n) (a b : Nat) : gfe n q W P rk col wd k a b < 2 ^ n := by
  unfold gfe
  split
  · exact hP b
  · split
    · exact gam_lt hG (hW a) (hW a col) b
    · exact hW a b
theorem gxc_lt {n : Nat} {W : Nat → Nat → Nat} {i k j : Nat} (hW : ∀ i j, W i j < 2 ^ n) (a b : Nat) : gxc W i k j a b < 2 ^ n := by
  unfold gxc
  split
  · split
    · exact hW _ _
    · split <;> exact hW _ _
  · exact hW _ _
set_option maxHeartbeats 4000000 in
set_option maxRecDepth 100000 in
theorem c1_free_loop (g : bw_G) {A0 : bw_H} {E F ec pr n p gg h wd rk pp col : Nat} {pv : Nat → Option Nat} {W : Nat → Nat → Nat} {P : Nat → Nat} (hG : GFg n p gg) (hsep : ∀ a ∈ [E, F, F + 1, ec, pr], a < ec + 1 ∨ ec + 1 + 8 ≤ a) (hh : h ≤ 8) (hw : wd ≤ 16) (hcol : col < 16) (hrk : rk < 8) (hW : ∀ i j, W i j < 2 ^ n) (hP0 : ∀ j, P j < 2 ^ n) :
    ∀ k, k ≤ h → ∀ A : bw_H, bw_has A (evl g n p gg E F ec pr h wd rk pp pv) → bw_rw g A (ec + 1) 8 16 (gfe n (2 ^ n ||| p) W P rk col wd k) → bw_sm (elL E ec pr) A0 A →
      bw_W g (bw_rm 2 0 0) mX1_free (bw_pv (elP g n p gg E F ec pr h wd rk pp pv (gfe n (2 ^ n ||| p) W P rk col wd h) A0)) 0 0 34 [(0, .ref E), (1, .int (nI col)), (2, .ref (ec + 1 + rk)), (3, .int (nI k))] [] A := by
  have hsF : ∀ a ∈ [F, F + 1], a < ec + 1 ∨ ec + 1 + 8 ≤ a := fun b hb => hsep b (by simp at hb ⊢; omega)
  refine nat_up h ?_ ?_
  · intro A hC hR hM
    refine bw_iload_n 35 dX1_free_34 rfl rfl ?_
    refine bw_aload_n 36 dX1_free_35 rfl rfl ?_
    refine bw_get 39 dX1_free_36 rfl lX1_30 (hC.at 0 rfl) rfl ?_
    refine bw_icmp_ge 84 42 dX1_free_39 rfl rfl (fun c39 => ?_) (fun c39 => ?_)
    · refine bw_vret dX1_free_84 rfl (Nat.le_of_ble_eq_true rfl) (Nat.le_of_ble_eq_true rfl) ?_
      exact ⟨rfl, hM, hC, hR⟩
    · exact absurd (Int32.le_refl _) c39
  · intro k hk ih A hC hR hM
    refine bw_iload_n 35 dX1_free_34 rfl rfl ?_
    refine bw_aload_n 36 dX1_free_35 rfl rfl ?_
    refine bw_get 39 dX1_free_36 rfl lX1_30 (hC.at 0 rfl) rfl ?_
    refine bw_icmp_ge 84 42 dX1_free_39 rfl rfl (fun c39 => ?_) (fun c39 => ?_)
    · exact absurd c39 (nI_ge (by omega) (by omega))
    · skip
      refine bw_iload_n 43 dX1_free_42 rfl rfl ?_
      refine bw_aload_n 44 dX1_free_43 rfl rfl ?_
      refine bw_get 47 dX1_free_44 rfl lX1_47 (hC.at 0 rfl) rfl ?_
      refine bw_icmp_eq 78 50 dX1_free_47 rfl rfl (fun c47 => ?_) (fun c47 => ?_)
      · have hkr : k = rk := (nI_eq (by omega) (by omega)).mp c47
        have hR : bw_rw g A (ec + 1) 8 16 (gfe n (2 ^ n ||| p) W P rk col wd (k + 1)) := by rw [hkr] at hR ⊢; rw [← gfe_rk]; exact hR
        refine bw_iincN (1) 81 dX1_free_78 rfl rfl (by decide) (by decide) ?_
        refine bw_goto 34 dX1_free_81 rfl ?_
        refine bw_loc [(0, .ref E), (1, .int (nI col)), (2, .ref (ec + 1 + rk)), (3, .int (nI (k + 1)))] ⟨rfl, rfl, rfl, congrArg (fun x => some (Value.int x)) (nI_1 k), trivial⟩ ?_
        exact ih _ hC hR hM
      · have hkr : k ≠ rk := fun he => c47 (by rw [he])
        refine bw_aload_n 51 dX1_free_50 rfl rfl ?_
        refine bw_get 54 dX1_free_51 rfl lX1_20 (hC.at 0 rfl) rfl ?_
        refine bw_aload_n 55 dX1_free_54 rfl rfl ?_
        refine bw_get 58 dX1_free_55 rfl lX1_11 (hC.at 0 rfl) rfl ?_
        refine bw_iload_n 59 dX1_free_58 rfl rfl ?_
        refine bw_aaldN 60 dX1_free_59 rfl rfl rfl (hC.at 3 rfl) (by omega) (by omega) (if_pos (by omega)) ?_
        refine bw_iconst (0) 61 dX1_free_60 (by decide) rfl ?_
        refine bw_eqi (y := nI 0) rfl ?_
        refine bw_aload_n 62 dX1_free_61 rfl rfl ?_
        refine bw_iconst (0) 63 dX1_free_62 (by decide) rfl ?_
        refine bw_eqi (y := nI 0) rfl ?_
        refine bw_aload_n 64 dX1_free_63 rfl rfl ?_
        refine bw_get 67 dX1_free_64 rfl lX1_36 (hC.at 0 rfl) rfl ?_
        refine bw_aload_n 68 dX1_free_67 rfl rfl ?_
        refine bw_get 71 dX1_free_68 rfl lX1_11 (hC.at 0 rfl) rfl ?_
        refine bw_iload_n 72 dX1_free_71 rfl rfl ?_
        refine bw_aaldN 73 dX1_free_72 rfl rfl rfl (hC.at 3 rfl) (by omega) (by omega) (if_pos (by omega)) ?_
        refine bw_iload_n 74 dX1_free_73 rfl rfl ?_
        refine bw_ialdN 75 dX1_free_74 rfl (hR k (by omega)) (by omega) (by omega) ?_
        refine bw_eqi (congrArg (fun f => nI (f col)) (gfe_at hkr)) ?_
        refine bw_cVv 78 dX1_free_75 rfl vX1_78 (c3_addMultiple g (at' := 0) (fr := 0) hG ((hC.sub [1, 2] (by decide) rfl).rwB (gfe_at hkr ▸ hR k (by omega)) (gfe_pv ▸ hR rk hrk) (show k < 8 by omega) hrk hkr hsF) (hW k) hP0 (by omega) (by omega) (by omega) (by omega) (hW k col)) (hC.at 1 rfl) rfl rfl (Nat.le_of_ble_eq_true rfl) ⟨(Nat.le_of_ble_eq_true rfl), (Nat.le_of_ble_eq_true rfl)⟩ (Nat.le_of_ble_eq_true rfl) (Nat.le_of_ble_eq_true rfl) (fun A hP => ?_)
        have hR := hR.set (w' := gfe n (2 ^ n ||| p) W P rk col wd (k + 1)) hP (gfe_s hkr)
        have hC := hC.row hP (show k < 8 by omega) hsep
        have hM := hM.upd hP (by simp; omega)
        refine bw_iincN (1) 81 dX1_free_78 rfl rfl (by decide) (by decide) ?_
        refine bw_goto 34 dX1_free_81 rfl ?_
        refine bw_loc [(0, .ref E), (1, .int (nI col)), (2, .ref (ec + 1 + rk)), (3, .int (nI (k + 1)))] ⟨rfl, rfl, rfl, congrArg (fun x => some (Value.int x)) (nI_1 k), trivial⟩ ?_
        exact ih _ hC hR hM
theorem gfe_0 {n q : Nat} {W : Nat → Nat → Nat} {P : Nat → Nat} {rk col wd : Nat} : ∀ a, (if a = rk then P else W a) = gfe n q W P rk col wd 0 a := by
  intro a
  unfold gfe
  by_cases h : a = rk
  · rw [if_pos h, if_pos h]
  · rw [if_neg h, if_neg h, if_neg (by omega)]
set_option maxHeartbeats 4000000 in
set_option maxRecDepth 100000 in
theorem c1_free (g : bw_G) {A0 : bw_H} {E F ec pr n p gg h wd rk pp col : Nat} {pv : Nat → Option Nat} {W : Nat → Nat → Nat} (hG : GFg n p gg) (hsep : ∀ a ∈ [E, F, F + 1, ec, pr], a < ec + 1 ∨ ec + 1 + 8 ≤ a) (hh : h ≤ 8) (hw : wd ≤ 16) (hcol : col < 16) (hrk : rk < 8) (hW : ∀ i j, W i j < 2 ^ n) (hC : bw_has A0 (evl g n p gg E F ec pr h wd rk pp pv)) (hR : bw_rw g A0 (ec + 1) 8 16 W) :
    bw_C g (bw_rm 2 0 0) mX1_free [.ref E, .int (nI col)] A0 (bw_pv (elP g n p gg E F ec pr h wd rk pp pv (gfe n (2 ^ n ||| p) W (gsc n (2 ^ n ||| p) (W rk) (ginv n (2 ^ n ||| p) (W rk col)) wd) rk col wd h) A0)) := by
  have hsF : ∀ a ∈ [F, F + 1], a < ec + 1 ∨ ec + 1 + 8 ≤ a := fun b hb => hsep b (by simp at hb ⊢; omega)
  have hM : bw_sm (elL E ec pr) A0 A0 := bw_sm.rf
  refine bw_C.of (by decide) (Nat.le_of_ble_eq_true rfl) rfl ?_
  refine bw_aload_n 1 dX1_free_0 rfl rfl ?_
  refine bw_get 4 dX1_free_1 rfl lX1_11 (hC.at 0 rfl) rfl ?_
  refine bw_aload_n 5 dX1_free_4 rfl rfl ?_
  refine bw_get 8 dX1_free_5 rfl lX1_47 (hC.at 0 rfl) rfl ?_
  refine bw_aaldN 9 dX1_free_8 rfl rfl rfl (hC.at 3 rfl) (by exact hrk) (by omega) (if_pos hrk) ?_
  refine bw_astore_n 10 dX1_free_9 rfl (by decide) ?_
  refine bw_aload_n 11 dX1_free_10 rfl rfl ?_
  refine bw_get 14 dX1_free_11 rfl lX1_20 (hC.at 0 rfl) rfl ?_
  refine bw_aload_n 15 dX1_free_14 rfl rfl ?_
  refine bw_aload_n 16 dX1_free_15 rfl rfl ?_
  refine bw_get 19 dX1_free_16 rfl lX1_36 (hC.at 0 rfl) rfl ?_
  refine bw_aload_n 20 dX1_free_19 rfl rfl ?_
  refine bw_get 23 dX1_free_20 rfl lX1_20 (hC.at 0 rfl) rfl ?_
  refine bw_aload_n 24 dX1_free_23 rfl rfl ?_
  refine bw_iload_n 25 dX1_free_24 rfl rfl ?_
  refine bw_ialdN 26 dX1_free_25 rfl (hR rk hrk) (by omega) (by omega) ?_
  refine bw_cVi 29 dX1_free_26 rfl vX1_71 (c3_inverse g hG (hC.sub [1, 2] (by decide) rfl) (hW rk col)) (hC.at 1 rfl) rfl rfl (Nat.le_of_ble_eq_true rfl) ⟨(Nat.le_of_ble_eq_true rfl), (Nat.le_of_ble_eq_true rfl)⟩ (Nat.le_of_ble_eq_true rfl) (Nat.le_of_ble_eq_true rfl) ?_
  refine bw_cVv 32 dX1_free_29 rfl vX1_74 (c3_scale g hG ((hC.sub [1, 2] (by decide) rfl).rwA (hR rk hrk) hrk hsF) (hW rk) hw (by omega) (ginv_lt hG _)) (hC.at 1 rfl) rfl rfl (Nat.le_of_ble_eq_true rfl) ⟨(Nat.le_of_ble_eq_true rfl), (Nat.le_of_ble_eq_true rfl)⟩ (Nat.le_of_ble_eq_true rfl) (Nat.le_of_ble_eq_true rfl) (fun A hP => ?_)
  have hR := hR.set (w' := gfe n (2 ^ n ||| p) W (gsc n (2 ^ n ||| p) (W rk) (ginv n (2 ^ n ||| p) (W rk col)) wd) rk col wd 0) hP gfe_0
  have hC := hC.row hP hrk hsep
  have hM := hM.upd hP (by simp; omega)
  refine bw_iconst (0) 33 dX1_free_32 (by decide) rfl ?_
  refine bw_eqi (y := nI 0) rfl ?_
  refine bw_istore_n 34 dX1_free_33 rfl (by decide) ?_
  refine bw_loc [(0, .ref E), (1, .int (nI col)), (2, .ref (ec + 1 + rk)), (3, .int (nI 0))] ⟨rfl, rfl, rfl, rfl, trivial⟩ ?_
  exact c1_free_loop g hG hsep hh hw hcol hrk hW (gsc_lt hG.2.2.1 (hW rk) _ _) 0 (Nat.zero_le h) _ hC hR hM
/-- columns from j on, r of them, freed: the rows, how many are used, the product, by column the row -/
def gre (n q h wd : Nat) : Nat → Nat → (Nat → Nat → Nat) → Nat → Nat → (Nat → Option Nat) → (Nat → Nat → Nat) × Nat × Nat × (Nat → Option Nat)
  | 0, _, W, rk, pp, pv => (W, rk, pp, pv)
  | r + 1, j, W, rk, pp, pv => match gfr W j (h - rk) rk with
    | none => gre n q h wd r (j + 1) W rk pp (fun i => if i = j then none else pv i)
    | some i => gre n q h wd r (j + 1) (gfe n q (gxc W i rk wd) (gsc n q (gxc W i rk wd rk) (ginv n q (gxc W i rk wd rk j)) wd) rk j wd h) (rk + 1) (gm n q pp (gxc W i rk wd rk j)) (fun i => if i = j then some rk else pv i)
theorem gfr_in {W : Nat → Nat → Nat} {col : Nat} : ∀ {r i x : Nat}, gfr W col r i = some x → i ≤ x ∧ x < i + r ∧ W x col ≠ 0 ∧ ∀ k, i ≤ k → k < x → W k col = 0
  | 0, _, _, h => by cases h
  | r + 1, i, x, h => by
    unfold gfr at h
    by_cases h0 : W i col = 0
    · rw [if_pos h0] at h
      obtain ⟨a, b, c, d⟩ := gfr_in h
      refine ⟨by omega, by omega, c, fun k h1 h2 => ?_⟩
      by_cases h3 : k = i
      · rw [h3]; exact h0
      · exact d k (by omega) h2
    · rw [if_neg h0] at h
      cases h
      exact ⟨Nat.le_refl _, by omega, h0, fun k h1 h2 => by omega⟩
theorem gfr_no {W : Nat → Nat → Nat} {col : Nat} : ∀ {r i : Nat}, gfr W col r i = none → ∀ k, i ≤ k → k < i + r → W k col = 0
  | 0, _, _ => fun k h1 h2 => by omega
  | r + 1, i, h => by
    unfold gfr at h
    by_cases h0 : W i col = 0
    · rw [if_pos h0] at h
      intro k h1 h2
      by_cases h3 : k = i
      · rw [h3]; exact h0
      · exact gfr_no h k (by omega) (by omega)
    · rw [if_neg h0] at h
      cases h
set_option maxHeartbeats 4000000 in
set_option maxRecDepth 100000 in
theorem c1_reduce_loop (g : bw_G) {A0 : bw_H} {E F ec pr n p gg h wd cols : Nat} (hG : GFg n p gg) (hsep : ∀ a ∈ [E, F, F + 1, ec, pr], a < ec + 1 ∨ ec + 1 + 8 ≤ a) (hh : h ≤ 8) (hw : wd ≤ 16) (hcols : cols ≤ 8) :
    ∀ (r j : Nat), j + r = cols → ∀ (W : Nat → Nat → Nat) (rk pp : Nat) (pv : Nat → Option Nat) (A : bw_H), (∀ i j, W i j < 2 ^ n) → pp < 2 ^ n → rk ≤ h → bw_has A (evl g n p gg E F ec pr h wd rk pp pv) → bw_rw g A (ec + 1) 8 16 W → bw_sm (elL E ec pr) A0 A →
      bw_W g (bw_rm 3 0 0) mX1_reduce (bw_pm (fun x A' => x = nI (gre n (2 ^ n ||| p) h wd r j W rk pp pv).2.1 ∧ elP g n p gg E F ec pr h wd (gre n (2 ^ n ||| p) h wd r j W rk pp pv).2.1 (gre n (2 ^ n ||| p) h wd r j W rk pp pv).2.2.1 (gre n (2 ^ n ||| p) h wd r j W rk pp pv).2.2.2 (gre n (2 ^ n ||| p) h wd r j W rk pp pv).1 A0 A')) 0 0 12 [(0, .ref E), (1, .int (nI cols)), (2, .int (nI j))] [] A := by
  have h16 := hG.p16
  have hsE : ∀ b ∈ [E], b < ec + 1 ∨ ec + 1 + 8 ≤ b := fun b hb => hsep b (by simp at hb ⊢; omega)
  have hsP : ∀ b ∈ [pr], b < ec + 1 ∨ ec + 1 + 8 ≤ b := fun b hb => hsep b (by simp at hb ⊢; omega)
  intro r
  induction r with
  | zero =>
    intro j hj W rk pp pv A hW hpp hrk hC hR hM
    have hj : j = cols := by omega
    subst hj
    refine bw_iload_n 13 dX1_reduce_12 rfl rfl ?_
    refine bw_iload_n 14 dX1_reduce_13 rfl rfl ?_
    refine bw_icmp_ge 101 17 dX1_reduce_14 rfl rfl (fun c14 => ?_) (fun c14 => ?_)
    · refine bw_aload_n 102 dX1_reduce_101 rfl rfl ?_
      refine bw_get 105 dX1_reduce_102 rfl lX1_47 (hC.at 0 rfl) rfl ?_
      refine bw_iret dX1_reduce_105 rfl (Nat.le_of_ble_eq_true rfl) (Nat.le_of_ble_eq_true rfl) ?_
      exact ⟨_, rfl, rfl, hM, hC, hR⟩
    · exact absurd (Int32.le_refl _) c14
  | succ r ih =>
    intro j hj W rk pp pv A hW hpp hrk hC hR hM
    cases hg : gfr W j (h - rk) rk with
    | none =>
      have he : gre n (2 ^ n ||| p) h wd (r + 1) j W rk pp pv = gre n (2 ^ n ||| p) h wd r (j + 1) W rk pp (fun i => if i = j then none else pv i) := by
        show (match gfr W j (h - rk) rk with | none => _ | some i => _) = _
        rw [hg]
      rw [he]
      refine bw_iload_n 13 dX1_reduce_12 rfl rfl ?_
      refine bw_iload_n 14 dX1_reduce_13 rfl rfl ?_
      refine bw_icmp_ge 101 17 dX1_reduce_14 rfl rfl (fun c14 => ?_) (fun c14 => ?_)
      · exact absurd c14 (nI_ge (by omega) (by omega))
      · skip
        refine bw_aload_n 18 dX1_reduce_17 rfl rfl ?_
        refine bw_iload_n 19 dX1_reduce_18 rfl rfl ?_
        refine bw_cVi 22 dX1_reduce_19 rfl vX1_53 (c1_rowWithMember g hh (by omega) hrk hW h16 hC hR) (hC.at 0 rfl) rfl rfl (Nat.le_of_ble_eq_true rfl) ⟨(Nat.le_of_ble_eq_true rfl), (Nat.le_of_ble_eq_true rfl)⟩ (Nat.le_of_ble_eq_true rfl) (Nat.le_of_ble_eq_true rfl) ?_
        refine bw_eqi ((congrArg oI hg : _ = (-1 : Int32))) ?_
        refine bw_istore_n 23 dX1_reduce_22 rfl (by decide) ?_
        refine bw_aload_n 24 dX1_reduce_23 rfl rfl ?_
        refine bw_get 27 dX1_reduce_24 rfl lX1_16 (hC.at 0 rfl) rfl ?_
        refine bw_iload_n 28 dX1_reduce_27 rfl rfl ?_
        refine bw_iload_n 29 dX1_reduce_28 rfl rfl ?_
        refine bw_if_ge 36 32 dX1_reduce_29 rfl rfl (fun c29 => ?_) (fun c29 => ?_)
        · exact absurd c29 (by decide)
        · skip
          refine bw_iconst (-1) 33 dX1_reduce_32 (by decide) rfl ?_
          refine bw_eqi (show (-1 : Int32) = oI none from rfl) ?_
          refine bw_goto 40 dX1_reduce_33 rfl ?_
          refine bw_iastO 41 dX1_reduce_40 rfl (hC.at 4 rfl) (by omega) (by omega) (G := _) (rfl) (fun A hU => ?_)
          have hC := hC.upd 4 rfl hU
          have hR := hR.frm (bw_up_sm hU) hsP
          have hM := hM.upd hU (by simp)
          refine bw_iload_n 42 dX1_reduce_41 rfl rfl ?_
          refine bw_if_lt 95 45 dX1_reduce_42 rfl rfl (fun c42 => ?_) (fun c42 => ?_)
          · skip
            refine bw_iincN (1) 98 dX1_reduce_95 rfl rfl (by decide) (by decide) ?_
            refine bw_goto 12 dX1_reduce_98 rfl ?_
            refine bw_loc [(0, .ref E), (1, .int (nI cols)), (2, .int (nI (j + 1)))] ⟨rfl, rfl, congrArg (fun x => some (Value.int x)) (nI_1 j), trivial⟩ ?_
            exact ih (j + 1) (by omega) W rk pp _ _ hW hpp hrk hC hR hM
          · exact absurd (by decide) c42
    | some i =>
      obtain ⟨hi1, hi2, hi3, -⟩ := gfr_in hg
      have hrk8 : rk < 8 := by omega
      have hX := fun a b => gxc_lt (i := i) (k := rk) (j := wd) hW a b
      have he : gre n (2 ^ n ||| p) h wd (r + 1) j W rk pp pv = gre n (2 ^ n ||| p) h wd r (j + 1) (gfe n (2 ^ n ||| p) (gxc W i rk wd) (gsc n (2 ^ n ||| p) (gxc W i rk wd rk) (ginv n (2 ^ n ||| p) (gxc W i rk wd rk j)) wd) rk j wd h) (rk + 1) (gm n (2 ^ n ||| p) pp (gxc W i rk wd rk j)) (fun i => if i = j then some rk else pv i) := by
        show (match gfr W j (h - rk) rk with | none => _ | some i => _) = _
        rw [hg]
      rw [he]
      refine bw_iload_n 13 dX1_reduce_12 rfl rfl ?_
      refine bw_iload_n 14 dX1_reduce_13 rfl rfl ?_
      refine bw_icmp_ge 101 17 dX1_reduce_14 rfl rfl (fun c14 => ?_) (fun c14 => ?_)
      · exact absurd c14 (nI_ge (by omega) (by omega))
      · skip
        refine bw_aload_n 18 dX1_reduce_17 rfl rfl ?_
        refine bw_iload_n 19 dX1_reduce_18 rfl rfl ?_
        refine bw_cVi 22 dX1_reduce_19 rfl vX1_53 (c1_rowWithMember g hh (by omega) hrk hW h16 hC hR) (hC.at 0 rfl) rfl rfl (Nat.le_of_ble_eq_true rfl) ⟨(Nat.le_of_ble_eq_true rfl), (Nat.le_of_ble_eq_true rfl)⟩ (Nat.le_of_ble_eq_true rfl) (Nat.le_of_ble_eq_true rfl) ?_
        refine bw_eqi ((congrArg oI hg : _ = nI i)) ?_
        refine bw_istore_n 23 dX1_reduce_22 rfl (by decide) ?_
        refine bw_aload_n 24 dX1_reduce_23 rfl rfl ?_
        refine bw_get 27 dX1_reduce_24 rfl lX1_16 (hC.at 0 rfl) rfl ?_
        refine bw_iload_n 28 dX1_reduce_27 rfl rfl ?_
        refine bw_iload_n 29 dX1_reduce_28 rfl rfl ?_
        refine bw_if_ge 36 32 dX1_reduce_29 rfl rfl (fun c29 => ?_) (fun c29 => ?_)
        · skip
          refine bw_aload_n 37 dX1_reduce_36 rfl rfl ?_
          refine bw_get 40 dX1_reduce_37 rfl lX1_47 (hC.at 0 rfl) rfl ?_
          refine bw_eqi (show nI rk = oI (some rk) from rfl) ?_
          refine bw_iastO 41 dX1_reduce_40 rfl (hC.at 4 rfl) (by omega) (by omega) (G := _) (rfl) (fun A hU => ?_)
          have hC := hC.upd 4 rfl hU
          have hR := hR.frm (bw_up_sm hU) hsP
          have hM := hM.upd hU (by simp)
          refine bw_iload_n 42 dX1_reduce_41 rfl rfl ?_
          refine bw_if_lt 95 45 dX1_reduce_42 rfl rfl (fun c42 => ?_) (fun c42 => ?_)
          · exact absurd c42 (nI_pos (by omega))
          · skip
            refine bw_aload_n 46 dX1_reduce_45 rfl rfl ?_
            refine bw_iload_n 47 dX1_reduce_46 rfl rfl ?_
            refine bw_aload_n 48 dX1_reduce_47 rfl rfl ?_
            refine bw_get 51 dX1_reduce_48 rfl lX1_47 (hC.at 0 rfl) rfl ?_
            refine bw_cVv 54 dX1_reduce_51 rfl vX1_57 (c1_exchange g hsep hw (by omega) hrk8 hC hR) (hC.at 0 rfl) rfl rfl (Nat.le_of_ble_eq_true rfl) ⟨(Nat.le_of_ble_eq_true rfl), (Nat.le_of_ble_eq_true rfl)⟩ (Nat.le_of_ble_eq_true rfl) (Nat.le_of_ble_eq_true rfl) (fun A hP => ?_)
            have hC := hP.2.1
            have hR := hP.2.2
            have hM := hM.trans hP.1 (fun _ h => h)
            refine bw_aload_n 55 dX1_reduce_54 rfl rfl ?_
            refine bw_aload_n 56 dX1_reduce_55 rfl rfl ?_
            refine bw_get 59 dX1_reduce_56 rfl lX1_20 (hC.at 0 rfl) rfl ?_
            refine bw_aload_n 60 dX1_reduce_59 rfl rfl ?_
            refine bw_get 63 dX1_reduce_60 rfl lX1_50 (hC.at 0 rfl) rfl ?_
            refine bw_aload_n 64 dX1_reduce_63 rfl rfl ?_
            refine bw_get 67 dX1_reduce_64 rfl lX1_11 (hC.at 0 rfl) rfl ?_
            refine bw_aload_n 68 dX1_reduce_67 rfl rfl ?_
            refine bw_get 71 dX1_reduce_68 rfl lX1_47 (hC.at 0 rfl) rfl ?_
            refine bw_aaldN 72 dX1_reduce_71 rfl rfl rfl (hC.at 3 rfl) (by exact hrk8) (by omega) (if_pos hrk8) ?_
            refine bw_iload_n 73 dX1_reduce_72 rfl rfl ?_
            refine bw_ialdN 74 dX1_reduce_73 rfl (hR rk hrk8) (by omega) (by omega) ?_
            refine bw_cVi 77 dX1_reduce_74 rfl vX1_61 (c3_mul g hG (hC.sub [1, 2] (by decide) rfl) hpp (hX rk j)) (hC.at 1 rfl) rfl rfl (Nat.le_of_ble_eq_true rfl) ⟨(Nat.le_of_ble_eq_true rfl), (Nat.le_of_ble_eq_true rfl)⟩ (Nat.le_of_ble_eq_true rfl) (Nat.le_of_ble_eq_true rfl) ?_
            refine bw_putU 80 dX1_reduce_77 rfl pX1_50 (hC.at 0 rfl) rfl rfl (Nat.le_of_ble_eq_true rfl) (fun A hU => ?_)
            have hC := hC.upd 0 rfl hU
            have hR := hR.frm (bw_up_sm hU) hsE
            have hM := hM.upd hU (by simp)
            refine bw_aload_n 81 dX1_reduce_80 rfl rfl ?_
            refine bw_iload_n 82 dX1_reduce_81 rfl rfl ?_
            refine bw_cVv 85 dX1_reduce_82 rfl vX1_67 (c1_free g hG hsep hh hw (by omega) hrk8 hX hC hR) (hC.at 0 rfl) rfl rfl (Nat.le_of_ble_eq_true rfl) ⟨(Nat.le_of_ble_eq_true rfl), (Nat.le_of_ble_eq_true rfl)⟩ (Nat.le_of_ble_eq_true rfl) (Nat.le_of_ble_eq_true rfl) (fun A hP => ?_)
            have hC := hP.2.1
            have hR := hP.2.2
            have hM := hM.trans hP.1 (fun _ h => h)
            refine bw_aload_n 86 dX1_reduce_85 rfl rfl ?_
            refine bw_dup 87 dX1_reduce_86 rfl rfl ?_
            refine bw_get 90 dX1_reduce_87 rfl lX1_47 (hC.at 0 rfl) rfl ?_
            refine bw_iconst (1) 91 dX1_reduce_90 (by decide) rfl ?_
            refine bw_eqi (y := nI 1) rfl ?_
            refine bw_iadd 92 dX1_reduce_91 rfl ?_
            refine bw_eqi (nI_add rk 1) ?_
            refine bw_putU 95 dX1_reduce_92 rfl pX1_47 (hC.at 0 rfl) rfl rfl (Nat.le_of_ble_eq_true rfl) (fun A hU => ?_)
            have hC := hC.upd 0 rfl hU
            have hR := hR.frm (bw_up_sm hU) hsE
            have hM := hM.upd hU (by simp)
            refine bw_iincN (1) 98 dX1_reduce_95 rfl rfl (by decide) (by decide) ?_
            refine bw_goto 12 dX1_reduce_98 rfl ?_
            refine bw_loc [(0, .ref E), (1, .int (nI cols)), (2, .int (nI (j + 1)))] ⟨rfl, rfl, congrArg (fun x => some (Value.int x)) (nI_1 j), trivial⟩ ?_
            exact ih (j + 1) (by omega) _ (rk + 1) _ _ _ (gfe_lt hG.2.2.1 hX (gsc_lt hG.2.2.1 (hX rk) _ _)) (hG.2.2.1.lt hpp) (by omega) hC hR hM
        · exact absurd (nI_pos' (by omega)) c29
set_option maxHeartbeats 4000000 in
set_option maxRecDepth 100000 in
theorem c1_reduce (g : bw_G) {A0 : bw_H} {E F ec pr n p gg h wd rk pp cols : Nat} {pv : Nat → Option Nat} {W : Nat → Nat → Nat} (hG : GFg n p gg) (hsep : ∀ a ∈ [E, F, F + 1, ec, pr], a < ec + 1 ∨ ec + 1 + 8 ≤ a) (hh : h ≤ 8) (hw : wd ≤ 16) (hcols : cols ≤ 8) (hW : ∀ i j, W i j < 2 ^ n) (hC : bw_has A0 (evl g n p gg E F ec pr h wd rk pp pv)) (hR : bw_rw g A0 (ec + 1) 8 16 W) :
    bw_C g (bw_rm 3 0 0) mX1_reduce [.ref E, .int (nI cols)] A0 (bw_pm (fun x A' => x = nI (gre n (2 ^ n ||| p) h wd cols 0 W 0 1 pv).2.1 ∧ elP g n p gg E F ec pr h wd (gre n (2 ^ n ||| p) h wd cols 0 W 0 1 pv).2.1 (gre n (2 ^ n ||| p) h wd cols 0 W 0 1 pv).2.2.1 (gre n (2 ^ n ||| p) h wd cols 0 W 0 1 pv).2.2.2 (gre n (2 ^ n ||| p) h wd cols 0 W 0 1 pv).1 A0 A')) := by
  have hsE : ∀ b ∈ [E], b < ec + 1 ∨ ec + 1 + 8 ≤ b := fun b hb => hsep b (by simp at hb ⊢; omega)
  have hM : bw_sm (elL E ec pr) A0 A0 := bw_sm.rf
  refine bw_C.of (by decide) (Nat.le_of_ble_eq_true rfl) rfl ?_
  refine bw_aload_n 1 dX1_reduce_0 rfl rfl ?_
  refine bw_iconst (0) 2 dX1_reduce_1 (by decide) rfl ?_
  refine bw_eqi (show (0 : Int32) = nI 0 from rfl) ?_
  refine bw_putU 5 dX1_reduce_2 rfl pX1_47 (hC.at 0 rfl) rfl rfl (Nat.le_of_ble_eq_true rfl) (fun A hU => ?_)
  have hC := hC.upd 0 rfl hU
  have hR := hR.frm (bw_up_sm hU) hsE
  have hM := hM.upd hU (by simp)
  refine bw_aload_n 6 dX1_reduce_5 rfl rfl ?_
  refine bw_iconst (1) 7 dX1_reduce_6 (by decide) rfl ?_
  refine bw_eqi (show (1 : Int32) = nI 1 from rfl) ?_
  refine bw_putU 10 dX1_reduce_7 rfl pX1_50 (hC.at 0 rfl) rfl rfl (Nat.le_of_ble_eq_true rfl) (fun A hU => ?_)
  have hC := hC.upd 0 rfl hU
  have hR := hR.frm (bw_up_sm hU) hsE
  have hM := hM.upd hU (by simp)
  refine bw_iconst (0) 11 dX1_reduce_10 (by decide) rfl ?_
  refine bw_eqi (y := nI 0) rfl ?_
  refine bw_istore_n 12 dX1_reduce_11 rfl (by decide) ?_
  refine bw_loc [(0, .ref E), (1, .int (nI cols)), (2, .int (nI 0))] ⟨rfl, rfl, rfl, trivial⟩ ?_
  exact c1_reduce_loop g hG hsep hh hw hcols cols 0 (by omega) W 0 1 pv _ hW hG.2.2.1.one (Nat.zero_le h) hC hR hM
/-- a solution's member -/
def gsl (W : Nat → Nat → Nat) (pv : Nat → Option Nat) (j col : Nat) : Nat := match pv j with
  | none => 0
  | some r => W r col
set_option maxHeartbeats 4000000 in
set_option maxRecDepth 100000 in
theorem c1_solution (g : bw_G) {A : bw_H} {E F ec pr n p gg h wd rk pp j col : Nat} {pv : Nat → Option Nat} {W : Nat → Nat → Nat} (hcol : col < 16) (hj : j < 8) (hr8 : ∀ r, pv j = some r → r < 8) (hC : bw_has A (evl g n p gg E F ec pr h wd rk pp pv)) (hR : bw_rw g A (ec + 1) 8 16 W) :
    bw_C g (bw_rm 0 0 0) mX1_solution [.ref E, .int (nI j), .int (nI col)] A (bw_pi (nI (gsl W pv j col)) A) := by
  refine bw_C.of (by decide) (Nat.le_of_ble_eq_true rfl) rfl ?_
  cases hg : pv j with
  | none =>
    have he : gsl W pv j col = 0 := by unfold gsl; rw [hg]
    rw [he]
    refine bw_aload_n 1 dX1_solution_0 rfl rfl ?_
    refine bw_get 4 dX1_solution_1 rfl lX1_16 (hC.at 0 rfl) rfl ?_
    refine bw_iload_n 5 dX1_solution_4 rfl rfl ?_
    refine bw_ialdO 6 dX1_solution_5 rfl (hC.at 4 rfl) (by omega) (by omega) ?_
    refine bw_eqi ((congrArg oI hg : _ = (-1 : Int32))) ?_
    refine bw_istore_n 7 dX1_solution_6 rfl (by decide) ?_
    refine bw_iload_n 8 dX1_solution_7 rfl rfl ?_
    refine bw_if_ge 15 11 dX1_solution_8 rfl rfl (fun c8 => ?_) (fun c8 => ?_)
    · exact absurd c8 (by decide)
    · skip
      refine bw_iconst (0) 12 dX1_solution_11 (by decide) rfl ?_
      refine bw_eqi (y := nI 0) rfl ?_
      refine bw_goto 23 dX1_solution_12 rfl ?_
      refine bw_iret dX1_solution_23 rfl (Nat.le_of_ble_eq_true rfl) (Nat.le_of_ble_eq_true rfl) ?_
      exact ⟨rfl, rfl⟩
  | some r =>
    have he : gsl W pv j col = W r col := by unfold gsl; rw [hg]
    have hr := hr8 r hg
    rw [he]
    refine bw_aload_n 1 dX1_solution_0 rfl rfl ?_
    refine bw_get 4 dX1_solution_1 rfl lX1_16 (hC.at 0 rfl) rfl ?_
    refine bw_iload_n 5 dX1_solution_4 rfl rfl ?_
    refine bw_ialdO 6 dX1_solution_5 rfl (hC.at 4 rfl) (by omega) (by omega) ?_
    refine bw_eqi ((congrArg oI hg : _ = nI r)) ?_
    refine bw_istore_n 7 dX1_solution_6 rfl (by decide) ?_
    refine bw_iload_n 8 dX1_solution_7 rfl rfl ?_
    refine bw_if_ge 15 11 dX1_solution_8 rfl rfl (fun c8 => ?_) (fun c8 => ?_)
    · skip
      refine bw_aload_n 16 dX1_solution_15 rfl rfl ?_
      refine bw_get 19 dX1_solution_16 rfl lX1_11 (hC.at 0 rfl) rfl ?_
      refine bw_iload_n 20 dX1_solution_19 rfl rfl ?_
      refine bw_aaldN 21 dX1_solution_20 rfl rfl rfl (hC.at 3 rfl) (by exact hr8 r hg) (by omega) (if_pos (hr8 r hg)) ?_
      refine bw_iload_n 22 dX1_solution_21 rfl rfl ?_
      refine bw_ialdN 23 dX1_solution_22 rfl (hR r (hr8 r hg)) (by omega) (by omega) ?_
      refine bw_iret dX1_solution_23 rfl (Nat.le_of_ble_eq_true rfl) (Nat.le_of_ble_eq_true rfl) ?_
      exact ⟨rfl, rfl⟩
    · exact absurd (nI_pos' (by omega)) c8
/-- the first k rows of what was appended -/
def gcp (c : Nat) (W : Nat → Nat → Nat) (f : Nat → Nat) (k t : Nat) : Nat := if t < k * c then W (t / c) (c + t % c) else f t
theorem gcp_0 {c : Nat} {W : Nat → Nat → Nat} {f : Nat → Nat} : gcp c W f 0 = f := by
  funext t
  exact if_neg (by omega)
theorem dm_of {c k t : Nat} (h1 : k * c ≤ t) (h2 : t < k * c + c) : t / c = k ∧ t % c = t - k * c := by
  have hc : 0 < c := by omega
  obtain ⟨s, rfl⟩ : ∃ s, t = k * c + s := ⟨t - k * c, by omega⟩
  have hs : s < c := by omega
  rw [Nat.add_comm (k * c) s, Nat.add_mul_div_right _ _ hc, Nat.add_mul_mod_self_right, Nat.div_eq_of_lt hs, Nat.mod_eq_of_lt hs]
  omega
theorem gcp_s {c : Nat} {W : Nat → Nat → Nat} {f : Nat → Nat} {k : Nat} : (fun t => if k * c ≤ t ∧ t < k * c + c then W k (c + (t - k * c)) else gcp c W f k t) = gcp c W f (k + 1) := by
  funext t
  unfold gcp
  have e : (k + 1) * c = k * c + c := by rw [Nat.add_mul, Nat.one_mul]
  by_cases h : k * c ≤ t ∧ t < k * c + c
  · obtain ⟨h1, h2⟩ := dm_of h.1 h.2
    rw [if_pos h, if_pos (by omega), h1, h2]
  · rw [if_neg h]
    exact if_iff (by omega)
set_option maxHeartbeats 4000000 in
set_option maxRecDepth 100000 in
theorem c1_ca_loop (g : bw_G) {A0 : bw_H} {E F ec pr n p gg h wd rk pp r c M : Nat} {pv : Nat → Option Nat} {W : Nat → Nat → Nat} {f : Nat → Nat} (hC0 : bw_has A0 (evl g n p gg E F ec pr h wd rk pp pv ++ mcl g M r c f)) (hR0 : bw_rw g A0 (ec + 1) 8 16 W) (hsX : ∀ b ∈ [M + 1], b < ec + 1 ∨ ec + 1 + 8 ≤ b) (hr : r ≤ 8) (hc : c ≤ 8) :
    ∀ k, k ≤ r → bw_W g (bw_rm 1 0 0) mX1_copyAppended (bw_pv (fun A' => A' = bw_up A0 (M + 1) (bw_an g (r * c) (gcp c W f r)))) 0 0 2 [(0, .ref E), (1, .ref M), (2, .int (nI k))] [] (bw_up A0 (M + 1) (bw_an g (r * c) (gcp c W f k))) := by
  have hrc : r * c ≤ 64 := Nat.mul_le_mul hr hc
  refine nat_up r ?_ ?_
  · have hC := hC0.up 6 (e := bw_an g (r * c) (gcp c W f r)) rfl
    refine bw_iload_n 3 dX1_copyAppended_2 rfl rfl ?_
    refine bw_aload_n 4 dX1_copyAppended_3 rfl rfl ?_
    refine bw_get 7 dX1_copyAppended_4 rfl lX1_24 (hC.at 5 rfl) rfl ?_
    refine bw_icmp_ge 43 10 dX1_copyAppended_7 rfl rfl (fun c7 => ?_) (fun c7 => ?_)
    · refine bw_vret dX1_copyAppended_43 rfl (Nat.le_of_ble_eq_true rfl) (Nat.le_of_ble_eq_true rfl) ?_
      exact ⟨rfl, rfl⟩
    · exact absurd (Int32.le_refl _) c7
  · intro k hk ih
    have hC := hC0.up 6 (e := bw_an g (r * c) (gcp c W f k)) rfl
    have hR := hR0.frm (bw_up_sm (A' := bw_up A0 (M + 1) (bw_an g (r * c) (gcp c W f k))) rfl) hsX
    have hkr := row_end (c := c) hk
    have hkc : k * c < 2 ^ 31 := by omega
    refine bw_iload_n 3 dX1_copyAppended_2 rfl rfl ?_
    refine bw_aload_n 4 dX1_copyAppended_3 rfl rfl ?_
    refine bw_get 7 dX1_copyAppended_4 rfl lX1_24 (hC.at 5 rfl) rfl ?_
    refine bw_icmp_ge 43 10 dX1_copyAppended_7 rfl rfl (fun c7 => ?_) (fun c7 => ?_)
    · exact absurd c7 (nI_ge (by omega) (by omega))
    · skip
      refine bw_aload_n 11 dX1_copyAppended_10 rfl rfl ?_
      refine bw_get 14 dX1_copyAppended_11 rfl lX1_11 (hC.at 0 rfl) rfl ?_
      refine bw_iload_n 15 dX1_copyAppended_14 rfl rfl ?_
      refine bw_aaldN 16 dX1_copyAppended_15 rfl rfl rfl (hC.at 3 rfl) (by omega) (by omega) (if_pos (by omega)) ?_
      refine bw_aload_n 17 dX1_copyAppended_16 rfl rfl ?_
      refine bw_get 20 dX1_copyAppended_17 rfl lX1_33 (hC.at 5 rfl) rfl ?_
      refine bw_aload_n 21 dX1_copyAppended_20 rfl rfl ?_
      refine bw_get 24 dX1_copyAppended_21 rfl lX1_39 (hC.at 5 rfl) rfl ?_
      refine bw_iload_n 25 dX1_copyAppended_24 rfl rfl ?_
      refine bw_aload_n 26 dX1_copyAppended_25 rfl rfl ?_
      refine bw_get 29 dX1_copyAppended_26 rfl lX1_33 (hC.at 5 rfl) rfl ?_
      refine bw_imul 30 dX1_copyAppended_29 rfl ?_
      refine bw_eqi (pk_mul k c) ?_
      refine bw_aload_n 31 dX1_copyAppended_30 rfl rfl ?_
      refine bw_get 34 dX1_copyAppended_31 rfl lX1_33 (hC.at 5 rfl) rfl ?_
      refine bw_copyU 37 dX1_copyAppended_34 rfl aX1_41 bw_aN bw_aS bw_aI (hR k (by omega)) (hC.at 6 rfl) (by exact nI_pos (by omega)) (by exact nI_pos hkc) (by exact nI_pos (by omega)) (by rw [nI_clamp (by omega)]; omega) (by rw [nI_clamp hkc, nI_clamp (by omega)]; exact hkr) (Nat.le_of_ble_eq_true rfl) (Nat.le_of_ble_eq_true rfl) (fun A hU => ?_)
      rw [cpy_nn (W k) (gcp c W f k) (by omega) hkc (by omega), show (fun i => nI (if k * c ≤ i ∧ i < k * c + c then W k (c + (i - k * c)) else gcp c W f k i)) = fun i => nI (gcp c W f (k + 1) i) from funext fun i => congrArg nI (congrFun gcp_s i)] at hU
      have hC := hC.upd 6 rfl hU
      have hR := hR.frm (bw_up_sm hU) hsX
      refine bw_iincN (1) 40 dX1_copyAppended_37 rfl rfl (by decide) (by decide) ?_
      refine bw_goto 2 dX1_copyAppended_40 rfl ?_
      refine bw_loc [(0, .ref E), (1, .ref M), (2, .int (nI (k + 1)))] ⟨rfl, rfl, congrArg (fun x => some (Value.int x)) (nI_1 k), trivial⟩ ?_
      rw [hU, bw_up_up]
      exact ih
set_option maxHeartbeats 4000000 in
set_option maxRecDepth 100000 in
theorem c1_copyAppended (g : bw_G) {A : bw_H} {E F ec pr n p gg h wd rk pp r c M : Nat} {pv : Nat → Option Nat} {W : Nat → Nat → Nat} {f : Nat → Nat} (hC : bw_has A (evl g n p gg E F ec pr h wd rk pp pv ++ mcl g M r c f)) (hR : bw_rw g A (ec + 1) 8 16 W) (hsX : ∀ b ∈ [M + 1], b < ec + 1 ∨ ec + 1 + 8 ≤ b) (hr : r ≤ 8) (hc : c ≤ 8) :
    bw_C g (bw_rm 1 0 0) mX1_copyAppended [.ref E, .ref M] A (bw_pv (fun A' => A' = bw_up A (M + 1) (bw_an g (r * c) (gcp c W f r)))) := by
  refine bw_C.of (by decide) (Nat.le_of_ble_eq_true rfl) rfl ?_
  refine bw_iconst (0) 1 dX1_copyAppended_0 (by decide) rfl ?_
  refine bw_eqi (y := nI 0) rfl ?_
  refine bw_istore_n 2 dX1_copyAppended_1 rfl (by decide) ?_
  have hgo := c1_ca_loop g hC hR hsX hr hc 0 (Nat.zero_le r)
  rw [gcp_0, bw_up_id (hC.at 6 rfl)] at hgo
  exact bw_loc [(0, .ref E), (1, .ref M), (2, .int (nI 0))] ⟨rfl, rfl, rfl, trivial⟩ hgo
