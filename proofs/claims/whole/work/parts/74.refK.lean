/-! the reference: arrays of coefficients -/
theorem m_high_loop (g : bw_G) {A : bw_H} {X : Nat} {f : Nat → Nat} (hC : bw_has A [(X, bw_an g 200 f)]) (hf : ∀ i, f i < 2 ^ 31) :
    ∀ j, j ≤ 200 → gtp f j = pd f → bw_W g (bw_rm 0 0 0) mX10_high (bw_pi (tI (pd f)) A) 0 0 4 [(0, .ref X), (1, .int (tI j))] [] A := by
  intro j
  induction j with
  | zero =>
    intro _ he
    rw [← he]
    refine bw_iload_n 5 dX10_high_4 rfl rfl ?_
    refine bw_if_lt 20 8 dX10_high_5 rfl rfl (fun c5 => ?_) (fun c5 => ?_)
    · refine bw_iload_n 21 dX10_high_20 rfl rfl ?_
      refine bw_iret dX10_high_21 rfl (Nat.le_of_ble_eq_true rfl) (Nat.le_of_ble_eq_true rfl) ?_
      exact ⟨rfl, rfl⟩
    · exact absurd ((tI_lt0 (by omega)).mpr rfl) c5
  | succ j ih =>
    intro hj he
    refine bw_iload_n 5 dX10_high_4 rfl rfl ?_
    refine bw_if_lt 20 8 dX10_high_5 rfl rfl (fun c5 => ?_) (fun c5 => ?_)
    · exact absurd ((tI_lt0 (by omega)).mp c5) (by omega)
    · skip
      have hts : tI (j + 1) = nI j := tI_s j
      refine bw_aload_n 9 dX10_high_8 rfl rfl ?_
      refine bw_iload_n 10 dX10_high_9 rfl rfl ?_
      refine bw_eqi (hts) ?_
      refine bw_ialdN 11 dX10_high_10 rfl (hC.at 0 rfl) (by omega) (by omega) ?_
      refine bw_if_ne 20 14 dX10_high_11 rfl rfl (fun c11 => ?_) (fun c11 => ?_)
      · have h0 : f j ≠ 0 := fun h => c11 (by rw [h]; rfl)
        rw [gtp_ne h0] at he
        rw [← he]
        refine bw_iload_n 21 dX10_high_20 rfl rfl ?_
        refine bw_iret dX10_high_21 rfl (Nat.le_of_ble_eq_true rfl) (Nat.le_of_ble_eq_true rfl) ?_
        exact ⟨rfl, rfl⟩
      · have h0 : f j = 0 := (xn_eq0 (hf j)).mp c11
        rw [gtp_eq0 h0] at he
        refine bw_iincN (-1) 17 dX10_high_14 rfl rfl (by decide) (by decide) ?_
        refine bw_goto 4 dX10_high_17 rfl ?_
        refine bw_loc _ ?_ (ih (by omega) he)
        exact ⟨rfl, congrArg (fun x => some (Value.int x)) (show tI (j + 1) + -1 = tI j by rw [tI_s]; rfl), trivial⟩
theorem m_high (g : bw_G) {A : bw_H} {X : Nat} {f : Nat → Nat} (hC : bw_has A [(X, bw_an g 200 f)]) (hf : ∀ i, f i < 2 ^ 31) : bw_C g (bw_rm 0 0 0) mX10_high [.ref X] A (bw_pi (tI (pd f)) A) := by
  refine bw_C.of (by decide) (Nat.le_of_ble_eq_true rfl) rfl ?_
  refine bw_sipush (199) 3 dX10_high_0 (by decide) rfl ?_
  refine bw_eqi (y := nI 199) rfl ?_
  refine bw_istore_n 4 dX10_high_3 rfl (by decide) ?_
  refine bw_loc _ ?_ (m_high_loop g hC hf 200 (Nat.le_refl _) rfl)
  exact ⟨rfl, rfl, trivial⟩
theorem m_nothing_loop (g : bw_G) {A0 : bw_H} {X : Nat} {f : Nat → Nat} :
    ∀ (d k : Nat), k + d = 200 → ∀ A : bw_H, bw_has A [(X, bw_an g 200 (gz f k))] → bw_sm [X] A0 A → bw_W g (bw_rm 0 0 0) mX10_nothing (bw_pv (fun A' => bw_sm [X] A0 A' ∧ bw_has A' [(X, bw_an g 200 (gz f 200))])) 0 0 2 [(0, .ref X), (1, .int (nI k))] [] A := by
  intro d
  induction d with
  | zero =>
    intro k hk A hC hS
    have hk : k = 200 := by omega
    subst hk
    refine bw_iload_n 3 dX10_nothing_2 rfl rfl ?_
    refine bw_sipush (200) 6 dX10_nothing_3 (by decide) rfl ?_
    refine bw_eqi (y := nI 200) rfl ?_
    refine bw_icmp_ge 19 9 dX10_nothing_6 rfl rfl (fun c6 => ?_) (fun c6 => ?_)
    · refine bw_vret dX10_nothing_19 rfl (Nat.le_of_ble_eq_true rfl) (Nat.le_of_ble_eq_true rfl) ?_
      exact ⟨rfl, hS, hC⟩
    · exact absurd (Int32.le_refl _) c6
  | succ d ih =>
    intro k hk A hC hS
    refine bw_iload_n 3 dX10_nothing_2 rfl rfl ?_
    refine bw_sipush (200) 6 dX10_nothing_3 (by decide) rfl ?_
    refine bw_eqi (y := nI 200) rfl ?_
    refine bw_icmp_ge 19 9 dX10_nothing_6 rfl rfl (fun c6 => ?_) (fun c6 => ?_)
    · exact absurd c6 (nI_ge (b := 200) (by omega) (by omega))
    · skip
      refine bw_aload_n 10 dX10_nothing_9 rfl rfl ?_
      refine bw_iload_n 11 dX10_nothing_10 rfl rfl ?_
      refine bw_iconst (0) 12 dX10_nothing_11 (by decide) rfl ?_
      refine bw_eqi (y := nI 0) rfl ?_
      refine bw_iastN 13 dX10_nothing_12 rfl (hC.at 0 rfl) (by omega) (by omega) (G := gz f (k + 1)) (gz_s f k) (fun A hU => ?_)
      have hC := hC.upd 0 rfl hU
      have hS := hS.upd hU (by simp)
      clear hU
      refine bw_iincN (1) 16 dX10_nothing_13 rfl rfl (by decide) (by decide) ?_
      refine bw_goto 2 dX10_nothing_16 rfl ?_
      refine bw_loc _ ?_ (ih (k + 1) (by omega) A hC hS)
      exact ⟨rfl, congrArg (fun x => some (Value.int x)) (nI_1 ( k )), trivial⟩
theorem m_nothing0 (g : bw_G) {A : bw_H} {X : Nat} {f : Nat → Nat} (hC : bw_has A [(X, bw_an g 200 f)]) : bw_C g (bw_rm 0 0 0) mX10_nothing [.ref X] A (bw_pv (fun A' => bw_sm [X] A A' ∧ bw_has A' [(X, bw_an g 200 (gz f 200))])) := by
  refine bw_C.of (by decide) (Nat.le_of_ble_eq_true rfl) rfl ?_
  refine bw_iconst (0) 1 dX10_nothing_0 (by decide) rfl ?_
  refine bw_eqi (y := nI 0) rfl ?_
  refine bw_istore_n 2 dX10_nothing_1 rfl (by decide) ?_
  refine bw_loc _ ?_ (m_nothing_loop g 200 0 (by omega) A (by rw [gz_0]; exact hC) bw_sm.rf)
  exact ⟨rfl, rfl, trivial⟩
theorem sm_up {A A' : bw_H} {X : Nat} {e : va_E} (h1 : bw_sm [X] A A') (h2 : bw_has A' [(X, e)]) : A' = bw_up A X e := by
  refine Prod.ext h1.1 (funext (fun b => ?_))
  by_cases h : b = X
  · rw [h]
    show A'.2 X = if X = X then some e else A.2 X
    rw [if_pos rfl]
    exact h2.at 0 rfl
  · show A'.2 b = if b = X then some e else A.2 b
    rw [if_neg h]
    exact h1.2 b (by simpa using h)
theorem m_nothing (g : bw_G) {A : bw_H} {X : Nat} {f : Nat → Nat} (hC : bw_has A [(X, bw_an g 200 f)]) (hz : ∀ i, 200 ≤ i → f i = 0) : bw_C g (bw_rm 0 0 0) mX10_nothing [.ref X] A (bw_pv (fun A' => bw_sm [X] A A' ∧ bw_has A' [(X, bw_an g 200 (fun _ => 0))])) := by
  have := m_nothing0 g hC
  rwa [gz_all hz] at this
theorem m_copy_loop (g : bw_G) {A0 : bw_H} {X Y : Nat} {f h : Nat → Nat} :
    ∀ (d k : Nat), k + d = 200 → ∀ A : bw_H, bw_has A [(X, bw_an g 200 (gup h f k)), (Y, bw_an g 200 h)] → bw_sm [X] A0 A → bw_W g (bw_rm 0 0 0) mX10_copy (bw_pv (fun A' => bw_sm [X] A0 A' ∧ bw_has A' [(X, bw_an g 200 (gup h f 200))])) 0 0 2 [(0, .ref X), (1, .ref Y), (2, .int (nI k))] [] A := by
  intro d
  induction d with
  | zero =>
    intro k hk A hC hS
    have hk : k = 200 := by omega
    subst hk
    refine bw_iload_n 3 dX10_copy_2 rfl rfl ?_
    refine bw_sipush (200) 6 dX10_copy_3 (by decide) rfl ?_
    refine bw_eqi (y := nI 200) rfl ?_
    refine bw_icmp_ge 21 9 dX10_copy_6 rfl rfl (fun c6 => ?_) (fun c6 => ?_)
    · refine bw_vret dX10_copy_21 rfl (Nat.le_of_ble_eq_true rfl) (Nat.le_of_ble_eq_true rfl) ?_
      exact ⟨rfl, hS, hC.sub [0] (by decide) rfl⟩
    · exact absurd (Int32.le_refl _) c6
  | succ d ih =>
    intro k hk A hC hS
    refine bw_iload_n 3 dX10_copy_2 rfl rfl ?_
    refine bw_sipush (200) 6 dX10_copy_3 (by decide) rfl ?_
    refine bw_eqi (y := nI 200) rfl ?_
    refine bw_icmp_ge 21 9 dX10_copy_6 rfl rfl (fun c6 => ?_) (fun c6 => ?_)
    · exact absurd c6 (nI_ge (b := 200) (by omega) (by omega))
    · skip
      refine bw_aload_n 10 dX10_copy_9 rfl rfl ?_
      refine bw_iload_n 11 dX10_copy_10 rfl rfl ?_
      refine bw_aload_n 12 dX10_copy_11 rfl rfl ?_
      refine bw_iload_n 13 dX10_copy_12 rfl rfl ?_
      refine bw_ialdN 14 dX10_copy_13 rfl (hC.at 1 rfl) (by omega) (by omega) ?_
      refine bw_iastN 15 dX10_copy_14 rfl (hC.at 0 rfl) (by omega) (by omega) (G := gup h f (k + 1)) (gup_s) (fun A hU => ?_)
      have hC := hC.upd 0 rfl hU
      have hS := hS.upd hU (by simp)
      clear hU
      refine bw_iincN (1) 18 dX10_copy_15 rfl rfl (by decide) (by decide) ?_
      refine bw_goto 2 dX10_copy_18 rfl ?_
      refine bw_loc _ ?_ (ih (k + 1) (by omega) A hC hS)
      exact ⟨rfl, rfl, congrArg (fun x => some (Value.int x)) (nI_1 ( k )), trivial⟩
theorem m_copy0 (g : bw_G) {A : bw_H} {X Y : Nat} {f h : Nat → Nat} (hC : bw_has A [(X, bw_an g 200 f), (Y, bw_an g 200 h)]) : bw_C g (bw_rm 0 0 0) mX10_copy [.ref X, .ref Y] A (bw_pv (fun A' => bw_sm [X] A A' ∧ bw_has A' [(X, bw_an g 200 (gup h f 200))])) := by
  refine bw_C.of (by decide) (Nat.le_of_ble_eq_true rfl) rfl ?_
  refine bw_iconst (0) 1 dX10_copy_0 (by decide) rfl ?_
  refine bw_eqi (y := nI 0) rfl ?_
  refine bw_istore_n 2 dX10_copy_1 rfl (by decide) ?_
  refine bw_loc _ ?_ (m_copy_loop g 200 0 (by omega) A (by rw [gup_0]; exact hC) bw_sm.rf)
  exact ⟨rfl, rfl, rfl, trivial⟩
theorem gup_all {h f : Nat → Nat} {N : Nat} (h1 : ∀ i, N ≤ i → h i = 0) (h2 : ∀ i, N ≤ i → f i = 0) : gup h f N = h := by
  funext i
  unfold gup
  split
  · rfl
  · rw [h1 i (by omega), h2 i (by omega)]
theorem m_copy (g : bw_G) {A : bw_H} {X Y : Nat} {f h : Nat → Nat} (hC : bw_has A [(X, bw_an g 200 f), (Y, bw_an g 200 h)]) (hz : ∀ i, 200 ≤ i → f i = 0) (hy : ∀ i, 200 ≤ i → h i = 0) : bw_C g (bw_rm 0 0 0) mX10_copy [.ref X, .ref Y] A (bw_pv (fun A' => bw_sm [X] A A' ∧ bw_has A' [(X, bw_an g 200 h)])) := by
  have := m_copy0 g hC
  rwa [gup_all hy hz] at this
/-- the coefficients of polynomial p -/
def gcf (C : Nat → Nat) (p i : Nat) : Nat := if i < 65 then C (65 * p + i) else 0
theorem gcf_s {C : Nat → Nat} {p k : Nat} (hk : k < 65) : (fun i => if i = k then C (65 * p + k) else gcut (gcf C p) k i) = gcut (gcf C p) (k + 1) := by
  funext i
  unfold gcut
  by_cases h : i = k
  · rw [if_pos h, if_pos (by omega), h]
    unfold gcf
    rw [if_pos hk]
  · rw [if_neg h]
    by_cases h2 : i < k
    · rw [if_pos h2, if_pos (by omega)]
    · rw [if_neg h2, if_neg (by omega)]
theorem gcf_65 {C : Nat → Nat} {p : Nat} : gcut (gcf C p) 65 = gcf C p := by
  funext i
  unfold gcut gcf
  split <;> rfl
theorem m_load_loop (g : bw_G) {A0 : bw_H} {M n p gg th rn mn pn rd rs pt sn X k0 : Nat} {C : Nat → Nat} (hk0 : k0 < 40) :
    ∀ (d k : Nat), k + d = 65 → ∀ A : bw_H, bw_has A [(X, bw_an g 200 (gcut (gcf C k0) k)), (M, mdo M n p gg th rn mn pn rd rs pt sn), (M + 9, bw_an g 2600 C)] → bw_sm [X] A0 A → bw_W g (bw_rm 1 0 0) mX10_load (bw_pv (fun A' => bw_sm [X] A0 A' ∧ bw_has A' [(X, bw_an g 200 (gcf C k0))])) 0 0 6 [(0, .ref M), (1, .ref X), (2, .int (nI k0)), (3, .int (nI k))] [] A := by
  intro d
  induction d with
  | zero =>
    intro k hk A hC hS
    have hk : k = 65 := by omega
    subst hk
    refine bw_iload_n 7 dX10_load_6 rfl rfl ?_
    refine bw_bipush (65) 9 dX10_load_7 (by decide) rfl ?_
    refine bw_eqi (y := nI 65) rfl ?_
    refine bw_icmp_ge 32 12 dX10_load_9 rfl rfl (fun c9 => ?_) (fun c9 => ?_)
    · refine bw_vret dX10_load_32 rfl (Nat.le_of_ble_eq_true rfl) (Nat.le_of_ble_eq_true rfl) ?_
      exact ⟨rfl, hS, by rw [← gcf_65]; exact hC.sub [0] (by decide) rfl⟩
    · exact absurd (Int32.le_refl _) c9
  | succ d ih =>
    intro k hk A hC hS
    refine bw_iload_n 7 dX10_load_6 rfl rfl ?_
    refine bw_bipush (65) 9 dX10_load_7 (by decide) rfl ?_
    refine bw_eqi (y := nI 65) rfl ?_
    refine bw_icmp_ge 32 12 dX10_load_9 rfl rfl (fun c9 => ?_) (fun c9 => ?_)
    · exact absurd c9 (nI_ge (b := 65) (by omega) (by omega))
    · skip
      refine bw_aload_n 13 dX10_load_12 rfl rfl ?_
      refine bw_iload_n 14 dX10_load_13 rfl rfl ?_
      refine bw_aload_n 15 dX10_load_14 rfl rfl ?_
      refine bw_get 18 dX10_load_15 rfl lX10_39 (hC.at 1 rfl) rfl ?_
      refine bw_bipush (65) 20 dX10_load_18 (by decide) rfl ?_
      refine bw_eqi (y := nI 65) rfl ?_
      refine bw_iload_n 21 dX10_load_20 rfl rfl ?_
      refine bw_imul 22 dX10_load_21 rfl ?_
      refine bw_eqi (pk_mul 65 k0) ?_
      refine bw_iload_n 23 dX10_load_22 rfl rfl ?_
      refine bw_iadd 24 dX10_load_23 rfl ?_
      refine bw_eqi (nI_add (65 * k0) k) ?_
      refine bw_ialdN 25 dX10_load_24 rfl (hC.at 2 rfl) (by omega) (by omega) ?_
      refine bw_iastN 26 dX10_load_25 rfl (hC.at 0 rfl) (by omega) (by omega) (G := gcut (gcf C k0) (k + 1)) (gcf_s (by omega)) (fun A hU => ?_)
      have hC := hC.upd 0 rfl hU
      have hS := hS.upd hU (by simp)
      clear hU
      refine bw_iincN (1) 29 dX10_load_26 rfl rfl (by decide) (by decide) ?_
      refine bw_goto 6 dX10_load_29 rfl ?_
      refine bw_loc _ ?_ (ih (k + 1) (by omega) A hC hS)
      exact ⟨rfl, rfl, rfl, congrArg (fun x => some (Value.int x)) (nI_1 ( k )), trivial⟩
theorem m_load (g : bw_G) {A : bw_H} {M n p gg th rn mn pn rd rs pt sn X k0 : Nat} {C f : Nat → Nat} (hC : bw_has A [(X, bw_an g 200 f), (M, mdo M n p gg th rn mn pn rd rs pt sn), (M + 9, bw_an g 2600 C)]) (hz : ∀ i, 200 ≤ i → f i = 0) (hk0 : k0 < 40) : bw_C g (bw_rm 1 0 0) mX10_load [.ref M, .ref X, .int (nI k0)] A (bw_pv (fun A' => bw_sm [X] A A' ∧ bw_has A' [(X, bw_an g 200 (gcf C k0))])) := by
  have hS : bw_sm [X] A A := bw_sm.rf
  refine bw_C.of (by decide) (Nat.le_of_ble_eq_true rfl) rfl ?_
  refine bw_aload_n 1 dX10_load_0 rfl rfl ?_
  refine bw_cSv 4 dX10_load_1 rfl sX10_161 (m_nothing g (hC.sub [0] (by decide) rfl) hz) rfl rfl (Nat.le_of_ble_eq_true rfl) ⟨(Nat.le_of_ble_eq_true rfl), (Nat.le_of_ble_eq_true rfl)⟩ (Nat.le_of_ble_eq_true rfl) (Nat.le_of_ble_eq_true rfl) (fun A hP => ?_)
  obtain ⟨hs1, hs2⟩ := hP
  have hU := sm_up hs1 hs2
  have hC := hC.upd 0 rfl hU
  have hS := hS.upd hU (by simp)
  clear hU
  refine bw_iconst (0) 5 dX10_load_4 (by decide) rfl ?_
  refine bw_eqi (y := nI 0) rfl ?_
  refine bw_istore_n 6 dX10_load_5 rfl (by decide) ?_
  refine bw_loc _ ?_ (m_load_loop g hk0 65 0 (by omega) A (by rw [show gcut (gcf C k0) 0 = fun _ => 0 from funext (fun i => if_neg (by omega))]; exact hC) hS)
  exact ⟨rfl, rfl, rfl, rfl, trivial⟩
