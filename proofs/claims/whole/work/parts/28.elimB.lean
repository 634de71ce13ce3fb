/-! Elimination: what is appended, rows that change places, columns that are freed -/
theorem bw_has.rwA {A : bw_H} {ws : List (Nat × va_E)} {eb c i : Nat} {e : va_E} (h : bw_has A ws) (hr : A.2 (eb + i) = some e) (hi : i < c) (hs : ∀ a ∈ ws.map Prod.fst, a < eb ∨ eb + c ≤ a) : bw_has A (ws ++ [(eb + i, e)]) := by
  refine h.app ⟨fun q hq => ?_, by simp⟩ (fun p hp q hq he => ?_)
  · rw [List.mem_singleton.mp hq]; exact hr
  · have := hs p.1 (List.mem_map_of_mem hp)
    rw [List.mem_singleton.mp hq] at he
    have he : p.1 = eb + i := he
    omega
theorem bw_has.rwB {A : bw_H} {ws : List (Nat × va_E)} {eb c i k : Nat} {e e' : va_E} (h : bw_has A ws) (hr : A.2 (eb + i) = some e) (hr' : A.2 (eb + k) = some e') (hi : i < c) (hk : k < c) (hik : i ≠ k) (hs : ∀ a ∈ ws.map Prod.fst, a < eb ∨ eb + c ≤ a) : bw_has A (ws ++ [(eb + i, e), (eb + k, e')]) := by
  refine h.app ⟨fun q hq => ?_, by simp; omega⟩ (fun p hp q hq he => ?_)
  · simp only [List.mem_cons, List.not_mem_nil, or_false] at hq
    rcases hq with rfl | rfl
    · exact hr
    · exact hr'
  · have := hs p.1 (List.mem_map_of_mem hp)
    simp only [List.mem_cons, List.not_mem_nil, or_false] at hq
    rcases hq with rfl | rfl
    · have he : p.1 = eb + i := he
      omega
    · have he : p.1 = eb + k := he
      omega
theorem if_iff {α : Type} {P Q : Prop} [Decidable P] [Decidable Q] {x y : α} (h : P ↔ Q) : (if P then x else y) = if Q then x else y := by
  by_cases hp : P
  · rw [if_pos hp, if_pos (h.mp hp)]
  · rw [if_neg hp, if_neg (fun q => hp (h.mpr q))]
/-- the unit matrix behind column wd, up to row i and there up to column j -/
def gai (W : Nat → Nat → Nat) (wd h i j a b : Nat) : Nat := if (a < i ∧ wd ≤ b ∧ b < wd + h) ∨ (a = i ∧ wd ≤ b ∧ b < wd + j) then (if wd + a = b then 1 else 0) else W a b
theorem gai_s {W : Nat → Nat → Nat} {wd h i j v : Nat} (hv : v = if i = j then 1 else 0) : ∀ a, (if a = i then (fun b => if b = wd + j then v else gai W wd h i j i b) else gai W wd h i j a) = gai W wd h i (j + 1) a := by
  intro a
  funext b
  by_cases h1 : a = i
  · subst h1
    rw [if_pos rfl]
    show (if b = wd + j then v else gai W wd h a j a b) = _
    by_cases h2 : b = wd + j
    · subst h2
      rw [if_pos rfl, hv]
      unfold gai
      rw [if_pos (Or.inr ⟨rfl, by omega, by omega⟩)]
      by_cases h3 : a = j
      · rw [if_pos h3, if_pos (by omega)]
      · rw [if_neg h3, if_neg (by omega)]
    · rw [if_neg h2]
      exact if_iff (by omega)
  · rw [if_neg h1]
    exact if_iff (by omega)
theorem gai_r {W : Nat → Nat → Nat} {wd h i : Nat} : gai W wd h i h = gai W wd h (i + 1) 0 := by
  funext a b
  exact if_iff (by omega)
theorem gai_0 {W : Nat → Nat → Nat} {wd h : Nat} : gai W wd h 0 0 = W := by
  funext a b
  unfold gai
  rw [if_neg (by omega)]
set_option maxHeartbeats 4000000 in
set_option maxRecDepth 100000 in
theorem c1_ai_in (g : bw_G) {A0 : bw_H} {Q : bw_O → bw_H → Prop} {E F ec pr n p gg h wd rk pp i : Nat} {pv : Nat → Option Nat} {W : Nat → Nat → Nat} (hsep : ∀ a ∈ [E, F, F + 1, ec, pr], a < ec + 1 ∨ ec + 1 + 8 ≤ a) (hh : h ≤ 8) (hw : wd + h ≤ 16) (hi : i < h)
    (kk : ∀ A : bw_H, bw_has A (evl g n p gg E F ec pr h wd rk pp pv) → bw_rw g A (ec + 1) 8 16 (gai W wd h i h) → bw_sm (elL E ec pr) A0 A → bw_W g (bw_rm 0 0 0) mX1_appendIdentity Q 0 0 49 [(0, .ref E), (1, .int (nI i))] [] A) :
    ∀ j, j ≤ h → ∀ A : bw_H, bw_has A (evl g n p gg E F ec pr h wd rk pp pv) → bw_rw g A (ec + 1) 8 16 (gai W wd h i j) → bw_sm (elL E ec pr) A0 A →
      bw_W g (bw_rm 0 0 0) mX1_appendIdentity Q 0 0 12 [(0, .ref E), (1, .int (nI i)), (2, .int (nI j))] [] A := by
  refine nat_up h ?_ ?_
  · intro A hC hR hM
    refine bw_iload_n 13 dX1_appendIdentity_12 rfl rfl ?_
    refine bw_aload_n 14 dX1_appendIdentity_13 rfl rfl ?_
    refine bw_get 17 dX1_appendIdentity_14 rfl lX1_30 (hC.at 0 rfl) rfl ?_
    refine bw_icmp_ge 49 20 dX1_appendIdentity_17 rfl rfl (fun c17 => ?_) (fun c17 => ?_)
    · exact bw_loc [(0, .ref E), (1, .int (nI i))] ⟨rfl, rfl, trivial⟩ (kk _ hC hR hM)
    · exact absurd (Int32.le_refl _) c17
  · intro j hj ih A hC hR hM
    refine bw_iload_n 13 dX1_appendIdentity_12 rfl rfl ?_
    refine bw_aload_n 14 dX1_appendIdentity_13 rfl rfl ?_
    refine bw_get 17 dX1_appendIdentity_14 rfl lX1_30 (hC.at 0 rfl) rfl ?_
    refine bw_icmp_ge 49 20 dX1_appendIdentity_17 rfl rfl (fun c17 => ?_) (fun c17 => ?_)
    · exact absurd c17 (nI_ge (by omega) (by omega))
    · skip
      refine bw_aload_n 21 dX1_appendIdentity_20 rfl rfl ?_
      refine bw_get 24 dX1_appendIdentity_21 rfl lX1_11 (hC.at 0 rfl) rfl ?_
      refine bw_iload_n 25 dX1_appendIdentity_24 rfl rfl ?_
      refine bw_aaldN 26 dX1_appendIdentity_25 rfl rfl rfl (hC.at 3 rfl) (by omega) (by omega) (if_pos (by omega)) ?_
      refine bw_aload_n 27 dX1_appendIdentity_26 rfl rfl ?_
      refine bw_get 30 dX1_appendIdentity_27 rfl lX1_36 (hC.at 0 rfl) rfl ?_
      refine bw_iload_n 31 dX1_appendIdentity_30 rfl rfl ?_
      refine bw_iadd 32 dX1_appendIdentity_31 rfl ?_
      refine bw_eqi (nI_add wd j) ?_
      refine bw_iload_n 33 dX1_appendIdentity_32 rfl rfl ?_
      refine bw_iload_n 34 dX1_appendIdentity_33 rfl rfl ?_
      refine bw_icmp_ne 41 37 dX1_appendIdentity_34 rfl rfl (fun c34 => ?_) (fun c34 => ?_)
      · have hv : 0 = if i = j then 1 else 0 := by rw [if_neg (fun he => c34 (by rw [he]))]
        refine bw_iconst (0) 42 dX1_appendIdentity_41 (by decide) rfl ?_
        refine bw_eqi (y := nI 0) rfl ?_
        refine bw_iastN 43 dX1_appendIdentity_42 rfl (hR i (by omega)) (by omega) (by omega) (G := _) (rfl) (fun A hU => ?_)
        have hR := hR.set (w' := gai W wd h i (j + 1)) hU (gai_s hv)
        have hC := hC.row hU (show i < 8 by omega) hsep
        have hM := hM.upd hU (by simp; omega)
        refine bw_iincN (1) 46 dX1_appendIdentity_43 rfl rfl (by decide) (by decide) ?_
        refine bw_goto 12 dX1_appendIdentity_46 rfl ?_
        refine bw_loc [(0, .ref E), (1, .int (nI i)), (2, .int (nI (j + 1)))] ⟨rfl, rfl, congrArg (fun x => some (Value.int x)) (nI_1 j), trivial⟩ ?_
        exact ih _ hC hR hM
      · have hv : 1 = if i = j then 1 else 0 := by rw [if_pos ((nI_eq (by omega) (by omega)).mp c34)]
        refine bw_iconst (1) 38 dX1_appendIdentity_37 (by decide) rfl ?_
        refine bw_eqi (y := nI 1) rfl ?_
        refine bw_goto 42 dX1_appendIdentity_38 rfl ?_
        refine bw_iastN 43 dX1_appendIdentity_42 rfl (hR i (by omega)) (by omega) (by omega) (G := _) (rfl) (fun A hU => ?_)
        have hR := hR.set (w' := gai W wd h i (j + 1)) hU (gai_s hv)
        have hC := hC.row hU (show i < 8 by omega) hsep
        have hM := hM.upd hU (by simp; omega)
        refine bw_iincN (1) 46 dX1_appendIdentity_43 rfl rfl (by decide) (by decide) ?_
        refine bw_goto 12 dX1_appendIdentity_46 rfl ?_
        refine bw_loc [(0, .ref E), (1, .int (nI i)), (2, .int (nI (j + 1)))] ⟨rfl, rfl, congrArg (fun x => some (Value.int x)) (nI_1 j), trivial⟩ ?_
        exact ih _ hC hR hM
set_option maxHeartbeats 4000000 in
set_option maxRecDepth 100000 in
theorem c1_ai_out (g : bw_G) {A0 : bw_H} {E F ec pr n p gg h wd rk pp : Nat} {pv : Nat → Option Nat} {W : Nat → Nat → Nat} (hsep : ∀ a ∈ [E, F, F + 1, ec, pr], a < ec + 1 ∨ ec + 1 + 8 ≤ a) (hh : h ≤ 8) (hw : wd + h ≤ 16) :
    ∀ i, i ≤ h → ∀ A : bw_H, bw_has A (evl g n p gg E F ec pr h wd rk pp pv) → bw_rw g A (ec + 1) 8 16 (gai W wd h i 0) → bw_sm (elL E ec pr) A0 A →
      bw_W g (bw_rm 0 0 0) mX1_appendIdentity (bw_pv (elP g n p gg E F ec pr h (wd + h) rk pp pv (gai W wd h h 0) A0)) 0 0 2 [(0, .ref E), (1, .int (nI i))] [] A := by
  have hsE : ∀ b ∈ [E], b < ec + 1 ∨ ec + 1 + 8 ≤ b := fun b hb => hsep b (by simp at hb ⊢; omega)
  refine nat_up h ?_ ?_
  · intro A hC hR hM
    refine bw_iload_n 3 dX1_appendIdentity_2 rfl rfl ?_
    refine bw_aload_n 4 dX1_appendIdentity_3 rfl rfl ?_
    refine bw_get 7 dX1_appendIdentity_4 rfl lX1_30 (hC.at 0 rfl) rfl ?_
    refine bw_icmp_ge 55 10 dX1_appendIdentity_7 rfl rfl (fun c7 => ?_) (fun c7 => ?_)
    · refine bw_aload_n 56 dX1_appendIdentity_55 rfl rfl ?_
      refine bw_dup 57 dX1_appendIdentity_56 rfl rfl ?_
      refine bw_get 60 dX1_appendIdentity_57 rfl lX1_36 (hC.at 0 rfl) rfl ?_
      refine bw_aload_n 61 dX1_appendIdentity_60 rfl rfl ?_
      refine bw_get 64 dX1_appendIdentity_61 rfl lX1_30 (hC.at 0 rfl) rfl ?_
      refine bw_iadd 65 dX1_appendIdentity_64 rfl ?_
      refine bw_eqi (nI_add wd h) ?_
      refine bw_putU 68 dX1_appendIdentity_65 rfl pX1_36 (hC.at 0 rfl) rfl rfl (Nat.le_of_ble_eq_true rfl) (fun A hU => ?_)
      have hC := hC.upd 0 rfl hU
      have hR := hR.frm (bw_up_sm hU) hsE
      have hM := hM.upd hU (by simp)
      refine bw_vret dX1_appendIdentity_68 rfl (Nat.le_of_ble_eq_true rfl) (Nat.le_of_ble_eq_true rfl) ?_
      exact ⟨rfl, hM, hC, hR⟩
    · exact absurd (Int32.le_refl _) c7
  · intro i hi ih A hC hR hM
    refine bw_iload_n 3 dX1_appendIdentity_2 rfl rfl ?_
    refine bw_aload_n 4 dX1_appendIdentity_3 rfl rfl ?_
    refine bw_get 7 dX1_appendIdentity_4 rfl lX1_30 (hC.at 0 rfl) rfl ?_
    refine bw_icmp_ge 55 10 dX1_appendIdentity_7 rfl rfl (fun c7 => ?_) (fun c7 => ?_)
    · exact absurd c7 (nI_ge (by omega) (by omega))
    · skip
      refine bw_iconst (0) 11 dX1_appendIdentity_10 (by decide) rfl ?_
      refine bw_eqi (y := nI 0) rfl ?_
      refine bw_istore_n 12 dX1_appendIdentity_11 rfl (by decide) ?_
      refine bw_loc [(0, .ref E), (1, .int (nI i)), (2, .int (nI 0))] ⟨rfl, rfl, rfl, trivial⟩ ?_
      refine c1_ai_in g hsep hh hw hi (fun A hC hR hM => ?_) 0 (Nat.zero_le h) _ hC hR hM
      refine bw_iincN (1) 52 dX1_appendIdentity_49 rfl rfl (by decide) (by decide) ?_
      refine bw_goto 2 dX1_appendIdentity_52 rfl ?_
      refine bw_loc [(0, .ref E), (1, .int (nI (i + 1)))] ⟨rfl, congrArg (fun x => some (Value.int x)) (nI_1 i), trivial⟩ ?_
      rw [gai_r] at hR
      exact ih _ hC hR hM
set_option maxHeartbeats 4000000 in
set_option maxRecDepth 100000 in
theorem c1_appendIdentity (g : bw_G) {A0 : bw_H} {E F ec pr n p gg h wd rk pp : Nat} {pv : Nat → Option Nat} {W : Nat → Nat → Nat} (hsep : ∀ a ∈ [E, F, F + 1, ec, pr], a < ec + 1 ∨ ec + 1 + 8 ≤ a) (hh : h ≤ 8) (hw : wd + h ≤ 16) (hC : bw_has A0 (evl g n p gg E F ec pr h wd rk pp pv)) (hR : bw_rw g A0 (ec + 1) 8 16 W) :
    bw_C g (bw_rm 0 0 0) mX1_appendIdentity [.ref E] A0 (bw_pv (elP g n p gg E F ec pr h (wd + h) rk pp pv (gai W wd h h 0) A0)) := by
  refine bw_C.of (by decide) (Nat.le_of_ble_eq_true rfl) rfl ?_
  refine bw_iconst (0) 1 dX1_appendIdentity_0 (by decide) rfl ?_
  refine bw_eqi (y := nI 0) rfl ?_
  refine bw_istore_n 2 dX1_appendIdentity_1 rfl (by decide) ?_
  refine bw_loc [(0, .ref E), (1, .int (nI 0))] ⟨rfl, rfl, trivial⟩ ?_
  exact c1_ai_out g hsep hh hw 0 (Nat.zero_le h) _ hC (by rw [gai_0]; exact hR) bw_sm.rf
/-- a column more, up to row k -/
def gac (W : Nat → Nat → Nat) (wd : Nat) (f : Nat → Nat) (k a b : Nat) : Nat := if a < k ∧ b = wd then f a else W a b
theorem gac_s {W : Nat → Nat → Nat} {wd k : Nat} {f : Nat → Nat} : ∀ a, (if a = k then (fun b => if b = wd then f k else gac W wd f k k b) else gac W wd f k a) = gac W wd f (k + 1) a := by
  intro a
  funext b
  by_cases h1 : a = k
  · subst h1
    rw [if_pos rfl]
    show (if b = wd then f a else gac W wd f a a b) = _
    unfold gac
    by_cases h2 : b = wd
    · rw [if_pos h2, if_pos (by omega)]
    · rw [if_neg h2, if_neg (by omega), if_neg (by omega)]
  · rw [if_neg h1]
    unfold gac
    by_cases h2 : a < k ∧ b = wd
    · rw [if_pos h2, if_pos (by omega)]
    · rw [if_neg h2, if_neg (by omega)]
theorem gac_0 {W : Nat → Nat → Nat} {wd : Nat} {f : Nat → Nat} : gac W wd f 0 = W := by
  funext a b
  exact if_neg (by omega)
set_option maxHeartbeats 4000000 in
set_option maxRecDepth 100000 in
theorem c1_ac_loop (g : bw_G) {A0 : bw_H} {E F ec pr n p gg h wd rk pp y ny : Nat} {pv : Nat → Option Nat} {f : Nat → Nat} {W : Nat → Nat → Nat} (hsep : ∀ a ∈ [E, F, F + 1, ec, pr, y], a < ec + 1 ∨ ec + 1 + 8 ≤ a) (hh : h ≤ 8) (hw : wd < 16) (hy : h ≤ ny) (hny : ny < 2 ^ 30) :
    ∀ k, k ≤ h → ∀ A : bw_H, bw_has A (evl g n p gg E F ec pr h wd rk pp pv ++ [(y, bw_an g ny f)]) → bw_rw g A (ec + 1) 8 16 (gac W wd f k) → bw_sm (elL E ec pr) A0 A →
      bw_W g (bw_rm 0 0 0) mX1_appendColumn (bw_pv (elP g n p gg E F ec pr h (wd + 1) rk pp pv (gac W wd f h) A0)) 0 0 2 [(0, .ref E), (1, .ref y), (2, .int (nI k))] [] A := by
  have hsE : ∀ b ∈ [E], b < ec + 1 ∨ ec + 1 + 8 ≤ b := fun b hb => hsep b (by simp at hb ⊢; omega)
  refine nat_up h ?_ ?_
  · intro A hC hR hM
    refine bw_iload_n 3 dX1_appendColumn_2 rfl rfl ?_
    refine bw_aload_n 4 dX1_appendColumn_3 rfl rfl ?_
    refine bw_get 7 dX1_appendColumn_4 rfl lX1_30 (hC.at 0 rfl) rfl ?_
    refine bw_icmp_ge 30 10 dX1_appendColumn_7 rfl rfl (fun c7 => ?_) (fun c7 => ?_)
    · refine bw_aload_n 31 dX1_appendColumn_30 rfl rfl ?_
      refine bw_dup 32 dX1_appendColumn_31 rfl rfl ?_
      refine bw_get 35 dX1_appendColumn_32 rfl lX1_36 (hC.at 0 rfl) rfl ?_
      refine bw_iconst (1) 36 dX1_appendColumn_35 (by decide) rfl ?_
      refine bw_eqi (y := nI 1) rfl ?_
      refine bw_iadd 37 dX1_appendColumn_36 rfl ?_
      refine bw_eqi (nI_add wd 1) ?_
      refine bw_putU 40 dX1_appendColumn_37 rfl pX1_36 (hC.at 0 rfl) rfl rfl (Nat.le_of_ble_eq_true rfl) (fun A hU => ?_)
      have hC := hC.upd 0 rfl hU
      have hR := hR.frm (bw_up_sm hU) hsE
      have hM := hM.upd hU (by simp)
      refine bw_vret dX1_appendColumn_40 rfl (Nat.le_of_ble_eq_true rfl) (Nat.le_of_ble_eq_true rfl) ?_
      exact ⟨rfl, hM, hC.sub [0, 1, 2, 3, 4] (by decide) rfl, hR⟩
    · exact absurd (Int32.le_refl _) c7
  · intro k hk ih A hC hR hM
    refine bw_iload_n 3 dX1_appendColumn_2 rfl rfl ?_
    refine bw_aload_n 4 dX1_appendColumn_3 rfl rfl ?_
    refine bw_get 7 dX1_appendColumn_4 rfl lX1_30 (hC.at 0 rfl) rfl ?_
    refine bw_icmp_ge 30 10 dX1_appendColumn_7 rfl rfl (fun c7 => ?_) (fun c7 => ?_)
    · exact absurd c7 (nI_ge (by omega) (by omega))
    · skip
      refine bw_aload_n 11 dX1_appendColumn_10 rfl rfl ?_
      refine bw_get 14 dX1_appendColumn_11 rfl lX1_11 (hC.at 0 rfl) rfl ?_
      refine bw_iload_n 15 dX1_appendColumn_14 rfl rfl ?_
      refine bw_aaldN 16 dX1_appendColumn_15 rfl rfl rfl (hC.at 3 rfl) (by omega) (by omega) (if_pos (by omega)) ?_
      refine bw_aload_n 17 dX1_appendColumn_16 rfl rfl ?_
      refine bw_get 20 dX1_appendColumn_17 rfl lX1_36 (hC.at 0 rfl) rfl ?_
      refine bw_aload_n 21 dX1_appendColumn_20 rfl rfl ?_
      refine bw_iload_n 22 dX1_appendColumn_21 rfl rfl ?_
      refine bw_ialdN 23 dX1_appendColumn_22 rfl (hC.at 5 rfl) (by omega) (by omega) ?_
      refine bw_iastN 24 dX1_appendColumn_23 rfl (hR k (by omega)) (by omega) (by omega) (G := _) (rfl) (fun A hU => ?_)
      have hR := hR.set (w' := gac W wd f (k + 1)) hU gac_s
      have hC := hC.row hU (show k < 8 by omega) hsep
      have hM := hM.upd hU (by simp; omega)
      refine bw_iincN (1) 27 dX1_appendColumn_24 rfl rfl (by decide) (by decide) ?_
      refine bw_goto 2 dX1_appendColumn_27 rfl ?_
      refine bw_loc [(0, .ref E), (1, .ref y), (2, .int (nI (k + 1)))] ⟨rfl, rfl, congrArg (fun x => some (Value.int x)) (nI_1 k), trivial⟩ ?_
      exact ih _ hC hR hM
set_option maxHeartbeats 4000000 in
set_option maxRecDepth 100000 in
theorem c1_appendColumn (g : bw_G) {A0 : bw_H} {E F ec pr n p gg h wd rk pp y ny : Nat} {pv : Nat → Option Nat} {f : Nat → Nat} {W : Nat → Nat → Nat} (hsep : ∀ a ∈ [E, F, F + 1, ec, pr, y], a < ec + 1 ∨ ec + 1 + 8 ≤ a) (hh : h ≤ 8) (hw : wd < 16) (hy : h ≤ ny) (hny : ny < 2 ^ 30) (hC : bw_has A0 (evl g n p gg E F ec pr h wd rk pp pv ++ [(y, bw_an g ny f)])) (hR : bw_rw g A0 (ec + 1) 8 16 W) :
    bw_C g (bw_rm 0 0 0) mX1_appendColumn [.ref E, .ref y] A0 (bw_pv (elP g n p gg E F ec pr h (wd + 1) rk pp pv (gac W wd f h) A0)) := by
  refine bw_C.of (by decide) (Nat.le_of_ble_eq_true rfl) rfl ?_
  refine bw_iconst (0) 1 dX1_appendColumn_0 (by decide) rfl ?_
  refine bw_eqi (y := nI 0) rfl ?_
  refine bw_istore_n 2 dX1_appendColumn_1 rfl (by decide) ?_
  refine bw_loc [(0, .ref E), (1, .ref y), (2, .int (nI 0))] ⟨rfl, rfl, rfl, trivial⟩ ?_
  exact c1_ac_loop g hsep hh hw hy hny 0 (Nat.zero_le h) _ hC (by rw [gac_0]; exact hR) bw_sm.rf
/-- the first of r rows from i on that has a member in a column -/
def gfr (W : Nat → Nat → Nat) (col : Nat) : Nat → Nat → Option Nat
  | 0, _ => none
  | r + 1, i => if W i col = 0 then gfr W col r (i + 1) else some i
set_option maxHeartbeats 4000000 in
set_option maxRecDepth 100000 in
theorem c1_row_loop (g : bw_G) {A : bw_H} {E F ec pr n p gg h wd rk pp col : Nat} {pv : Nat → Option Nat} {W : Nat → Nat → Nat} (hh : h ≤ 8) (hcol : col < 16) (hW : ∀ i j, W i j < 2 ^ n) (hn : 2 ^ n ≤ 65536) (hC : bw_has A (evl g n p gg E F ec pr h wd rk pp pv)) (hR : bw_rw g A (ec + 1) 8 16 W) :
    ∀ r i, i + r = h → bw_W g (bw_rm 0 0 0) mX1_rowWithMember (bw_pi (oI (gfr W col r i)) A) 0 0 5 [(0, .ref E), (1, .int (nI col)), (2, .int (nI i))] [] A := by
  intro r
  induction r with
  | zero =>
    intro i hi
    have hi : i = h := by omega
    subst hi
    refine bw_iload_n 6 dX1_rowWithMember_5 rfl rfl ?_
    refine bw_aload_n 7 dX1_rowWithMember_6 rfl rfl ?_
    refine bw_get 10 dX1_rowWithMember_7 rfl lX1_30 (hC.at 0 rfl) rfl ?_
    refine bw_icmp_ge 32 13 dX1_rowWithMember_10 rfl rfl (fun c10 => ?_) (fun c10 => ?_)
    · refine bw_iconst (-1) 33 dX1_rowWithMember_32 (by decide) rfl ?_
      refine bw_iret dX1_rowWithMember_33 rfl (Nat.le_of_ble_eq_true rfl) (Nat.le_of_ble_eq_true rfl) ?_
      exact ⟨rfl, rfl⟩
    · exact absurd (Int32.le_refl _) c10
  | succ r ih =>
    intro i hi
    have hWi := hW i col
    refine bw_iload_n 6 dX1_rowWithMember_5 rfl rfl ?_
    refine bw_aload_n 7 dX1_rowWithMember_6 rfl rfl ?_
    refine bw_get 10 dX1_rowWithMember_7 rfl lX1_30 (hC.at 0 rfl) rfl ?_
    refine bw_icmp_ge 32 13 dX1_rowWithMember_10 rfl rfl (fun c10 => ?_) (fun c10 => ?_)
    · exact absurd c10 (nI_ge (by omega) (by omega))
    · skip
      refine bw_aload_n 14 dX1_rowWithMember_13 rfl rfl ?_
      refine bw_get 17 dX1_rowWithMember_14 rfl lX1_11 (hC.at 0 rfl) rfl ?_
      refine bw_iload_n 18 dX1_rowWithMember_17 rfl rfl ?_
      refine bw_aaldN 19 dX1_rowWithMember_18 rfl rfl rfl (hC.at 3 rfl) (by omega) (by omega) (if_pos (by omega)) ?_
      refine bw_iload_n 20 dX1_rowWithMember_19 rfl rfl ?_
      refine bw_ialdN 21 dX1_rowWithMember_20 rfl (hR i (by omega)) (by omega) (by omega) ?_
      refine bw_if_eq 26 24 dX1_rowWithMember_21 rfl rfl (fun c21 => ?_) (fun c21 => ?_)
      · have h0 : W i col = 0 := (xn_eq0 (by omega)).mp c21
        have he : gfr W col (r + 1) i = gfr W col r (i + 1) := if_pos h0
        refine bw_iincN (1) 29 dX1_rowWithMember_26 rfl rfl (by decide) (by decide) ?_
        refine bw_goto 5 dX1_rowWithMember_29 rfl ?_
        rw [he]
        refine bw_loc [(0, .ref E), (1, .int (nI col)), (2, .int (nI (i + 1)))] ⟨rfl, rfl, congrArg (fun x => some (Value.int x)) (nI_1 i), trivial⟩ ?_
        exact ih (i + 1) (by omega)
      · have h0 : ¬ W i col = 0 := fun h => c21 ((xn_eq0 (by omega)).mpr h)
        have he : gfr W col (r + 1) i = some i := if_neg h0
        refine bw_iload_n 25 dX1_rowWithMember_24 rfl rfl ?_
        refine bw_iret dX1_rowWithMember_25 rfl (Nat.le_of_ble_eq_true rfl) (Nat.le_of_ble_eq_true rfl) ?_
        exact ⟨by rw [he]; rfl, rfl⟩
set_option maxHeartbeats 4000000 in
set_option maxRecDepth 100000 in
theorem c1_rowWithMember (g : bw_G) {A : bw_H} {E F ec pr n p gg h wd rk pp col : Nat} {pv : Nat → Option Nat} {W : Nat → Nat → Nat} (hh : h ≤ 8) (hcol : col < 16) (hrk : rk ≤ h) (hW : ∀ i j, W i j < 2 ^ n) (hn : 2 ^ n ≤ 65536) (hC : bw_has A (evl g n p gg E F ec pr h wd rk pp pv)) (hR : bw_rw g A (ec + 1) 8 16 W) :
    bw_C g (bw_rm 0 0 0) mX1_rowWithMember [.ref E, .int (nI col)] A (bw_pi (oI (gfr W col (h - rk) rk)) A) := by
  refine bw_C.of (by decide) (Nat.le_of_ble_eq_true rfl) rfl ?_
  refine bw_aload_n 1 dX1_rowWithMember_0 rfl rfl ?_
  refine bw_get 4 dX1_rowWithMember_1 rfl lX1_47 (hC.at 0 rfl) rfl ?_
  refine bw_istore_n 5 dX1_rowWithMember_4 rfl (by decide) ?_
  refine bw_loc [(0, .ref E), (1, .int (nI col)), (2, .int (nI rk))] ⟨rfl, rfl, rfl, trivial⟩ ?_
  exact c1_row_loop g hh hcol hW hn hC hR (h - rk) rk (by omega)
set_option maxHeartbeats 4000000 in
set_option maxRecDepth 100000 in
theorem c1_over_loop (g : bw_G) {A : bw_H} {E F ec pr n p gg h wd rk pp col : Nat} {pv : Nat → Option Nat} {W : Nat → Nat → Nat} (hh : h ≤ 8) (hcol : col < 16) (hW : ∀ i j, W i j < 2 ^ n) (hn : 2 ^ n ≤ 65536) (hC : bw_has A (evl g n p gg E F ec pr h wd rk pp pv)) (hR : bw_rw g A (ec + 1) 8 16 W) :
    ∀ r i, i + r = h → bw_W g (bw_rm 0 0 0) mX1_leavesOver (bw_pi (if gfr W col r i = none then 0 else 1) A) 0 0 5 [(0, .ref E), (1, .int (nI col)), (2, .int (nI i))] [] A := by
  intro r
  induction r with
  | zero =>
    intro i hi
    have hi : i = h := by omega
    subst hi
    refine bw_iload_n 6 dX1_leavesOver_5 rfl rfl ?_
    refine bw_aload_n 7 dX1_leavesOver_6 rfl rfl ?_
    refine bw_get 10 dX1_leavesOver_7 rfl lX1_30 (hC.at 0 rfl) rfl ?_
    refine bw_icmp_ge 32 13 dX1_leavesOver_10 rfl rfl (fun c10 => ?_) (fun c10 => ?_)
    · refine bw_iconst (0) 33 dX1_leavesOver_32 (by decide) rfl ?_
      refine bw_zret dX1_leavesOver_33 rfl (by first | decide | assumption) (Nat.le_of_ble_eq_true rfl) (Nat.le_of_ble_eq_true rfl) ?_
      exact ⟨rfl, rfl⟩
    · exact absurd (Int32.le_refl _) c10
  | succ r ih =>
    intro i hi
    have hWi := hW i col
    refine bw_iload_n 6 dX1_leavesOver_5 rfl rfl ?_
    refine bw_aload_n 7 dX1_leavesOver_6 rfl rfl ?_
    refine bw_get 10 dX1_leavesOver_7 rfl lX1_30 (hC.at 0 rfl) rfl ?_
    refine bw_icmp_ge 32 13 dX1_leavesOver_10 rfl rfl (fun c10 => ?_) (fun c10 => ?_)
    · exact absurd c10 (nI_ge (by omega) (by omega))
    · skip
      refine bw_aload_n 14 dX1_leavesOver_13 rfl rfl ?_
      refine bw_get 17 dX1_leavesOver_14 rfl lX1_11 (hC.at 0 rfl) rfl ?_
      refine bw_iload_n 18 dX1_leavesOver_17 rfl rfl ?_
      refine bw_aaldN 19 dX1_leavesOver_18 rfl rfl rfl (hC.at 3 rfl) (by omega) (by omega) (if_pos (by omega)) ?_
      refine bw_iload_n 20 dX1_leavesOver_19 rfl rfl ?_
      refine bw_ialdN 21 dX1_leavesOver_20 rfl (hR i (by omega)) (by omega) (by omega) ?_
      refine bw_if_eq 26 24 dX1_leavesOver_21 rfl rfl (fun c21 => ?_) (fun c21 => ?_)
      · have h0 : W i col = 0 := (xn_eq0 (by omega)).mp c21
        have he : gfr W col (r + 1) i = gfr W col r (i + 1) := if_pos h0
        refine bw_iincN (1) 29 dX1_leavesOver_26 rfl rfl (by decide) (by decide) ?_
        refine bw_goto 5 dX1_leavesOver_29 rfl ?_
        rw [he]
        refine bw_loc [(0, .ref E), (1, .int (nI col)), (2, .int (nI (i + 1)))] ⟨rfl, rfl, congrArg (fun x => some (Value.int x)) (nI_1 i), trivial⟩ ?_
        exact ih (i + 1) (by omega)
      · have h0 : ¬ W i col = 0 := fun h => c21 ((xn_eq0 (by omega)).mpr h)
        have he : gfr W col (r + 1) i = some i := if_neg h0
        refine bw_iconst (1) 25 dX1_leavesOver_24 (by decide) rfl ?_
        refine bw_zret dX1_leavesOver_25 rfl (by first | decide | assumption) (Nat.le_of_ble_eq_true rfl) (Nat.le_of_ble_eq_true rfl) ?_
        exact ⟨by rw [he]; rfl, rfl⟩
set_option maxHeartbeats 4000000 in
set_option maxRecDepth 100000 in
theorem c1_leavesOver (g : bw_G) {A : bw_H} {E F ec pr n p gg h wd rk pp col : Nat} {pv : Nat → Option Nat} {W : Nat → Nat → Nat} (hh : h ≤ 8) (hcol : col < 16) (hrk : rk ≤ h) (hW : ∀ i j, W i j < 2 ^ n) (hn : 2 ^ n ≤ 65536) (hC : bw_has A (evl g n p gg E F ec pr h wd rk pp pv)) (hR : bw_rw g A (ec + 1) 8 16 W) :
    bw_C g (bw_rm 0 0 0) mX1_leavesOver [.ref E, .int (nI col)] A (bw_pi (if gfr W col (h - rk) rk = none then 0 else 1) A) := by
  refine bw_C.of (by decide) (Nat.le_of_ble_eq_true rfl) rfl ?_
  refine bw_aload_n 1 dX1_leavesOver_0 rfl rfl ?_
  refine bw_get 4 dX1_leavesOver_1 rfl lX1_47 (hC.at 0 rfl) rfl ?_
  refine bw_istore_n 5 dX1_leavesOver_4 rfl (by decide) ?_
  refine bw_loc [(0, .ref E), (1, .int (nI col)), (2, .int (nI rk))] ⟨rfl, rfl, rfl, trivial⟩ ?_
  exact c1_over_loop g hh hcol hW hn hC hR (h - rk) rk (by omega)
