/-! the class's calls: through, back, parts -/
/-- the first k are told anew -/
def gup (s X : Nat → Nat) (k i : Nat) : Nat := if i < k then s i else X i
theorem gup_s {s X : Nat → Nat} {k : Nat} : (fun i => if i = k then s k else gup s X k i) = gup s X (k + 1) := by
  funext i
  unfold gup
  by_cases h : i = k
  · rw [if_pos h, if_pos (by omega), h]
  · rw [if_neg h]
    by_cases h2 : i < k
    · rw [if_pos h2, if_pos (by omega)]
    · rw [if_neg h2, if_neg (by omega)]
theorem gup_0 {s X : Nat → Nat} : gup s X 0 = X := by
  funext i
  unfold gup
  rw [if_neg (by omega)]
theorem gup_lt {n k : Nat} {s X : Nat → Nat} (hs : ∀ i, s i < 2 ^ n) (hX : ∀ i, X i < 2 ^ n) (i : Nat) : gup s X k i < 2 ^ n := by
  unfold gup
  split
  · exact hs i
  · exact hX i
/-- the polynomial through ct points -/
def gthr (n q : Nat) (X Y : Nat → Nat) (ct : Nat) : Nat → Nat := gnw n q X (gdo n q X ct (ct - 1) 1 Y) ct (fun _ => 0)
theorem gthr_ok {n q : Nat} (hG : GFp n q) {X Y : Nat → Nat} (hY : ∀ i, Y i < 2 ^ n) (ct : Nat) : pok n ct (gthr n q X Y ct) := by
  have := gnw_ok hG (X := X) (gdo_lt hG (X := X) (count := ct) (ct - 1) (s := 1) hY) ct (pok.zero n 0)
  rwa [Nat.zero_add] at this
/-- what the points' calls leave -/
def thP (g : bw_G) (x n mn pn sn a : Nat) (PA : Nat → Option Nat) (X Y f : Nat → Nat) (A0 : bw_H) (y : Int32) (A' : bw_H) : Prop := kqP g x n 0 mn pn sn a PA f [x, x + 7, x + 1, x + 2, x + 35, x + 36] A0 y A' ∧ bw_has A' [(x + 35, bw_an g 65 X), (x + 36, bw_an g 65 Y)]
set_option maxHeartbeats 4000000 in
set_option maxRecDepth 100000 in
theorem k9_through_loop (g : bw_G) {A0 : bw_H} {x n p gg rn mn pn sn a ct mw cu su : Nat} {PA : Nat → Option Nat} {row X Y fw : Nat → Nat} (hG : GFg n p gg) (hww : pwk 129 fw mw) (hrow : ∀ i, row i < 2 ^ n) (hX : ∀ i, X i < 2 ^ n) (hY : ∀ i, Y i < 2 ^ n) (hct : ct ≤ 65) (hxa : x + 57 ≤ a) (hm : pn < 40) (hcu : cu ≤ 10) (hsu : su ≤ 100) :
    ∀ (d k : Nat), k + d = ct → ∀ A : bw_H, bw_has A ((x, xob x n rn mn pn sn) :: (x + 7, bw_aq g 4 40 PA) :: (x + 5, bw_an g 130 row) :: (pcl g (x + 1) 129 fw mw .null ++ ivl g n p gg (x + 34) (x + 9) (x + 35) (x + 36) (gup (fun i => row (2 * i)) X k) (gup (fun i => row (2 * i + 1)) Y k))) → bw_ff a [x, x + 7, x + 1, x + 2, x + 35, x + 36] A0 A → A.1 = a →
      bw_W g (bw_rm 8 20 200) mX9_through (bw_pm (thP g x n mn pn sn a PA (gup (fun i => row (2 * i)) X ct) (gdo n (2 ^ n ||| p) (gup (fun i => row (2 * i)) X ct) ct (ct - 1) 1 (gup (fun i => row (2 * i + 1)) Y ct)) (gthr n (2 ^ n ||| p) (gup (fun i => row (2 * i)) X ct) (gup (fun i => row (2 * i + 1)) Y ct) ct) A0)) cu su 40 [(0, .ref x), (1, .int (nI ct)), (2, .int (nI k))] [] A := by
  have hs : ∀ i, (fun i => row (2 * i)) i < 2 ^ n := fun i => hrow _
  have ht : ∀ i, (fun i => row (2 * i + 1)) i < 2 ^ n := fun i => hrow _
  have hok := gthr_ok hG.2.2.1 (X := gup (fun i => row (2 * i)) X ct) (gup_lt (k := ct) ht hY) ct
  intro d
  induction d with
  | zero =>
    intro k hk A hC hW hz
    have hk : ct = k := by omega
    subst hk
    refine bw_iload_n 41 dX9_through_40 rfl rfl ?_
    refine bw_iload_n 42 dX9_through_41 rfl rfl ?_
    refine bw_icmp_ge 77 45 dX9_through_42 rfl rfl (fun c42 => ?_) (fun c42 => ?_)
    · refine bw_aload_n 78 dX9_through_77 rfl rfl ?_
      refine bw_get 81 dX9_through_78 rfl lX9_73 (hC.at 0 rfl) rfl ?_
      refine bw_iload_n 82 dX9_through_81 rfl rfl ?_
      refine bw_aload_n 83 dX9_through_82 rfl rfl ?_
      refine bw_get 86 dX9_through_83 rfl lX9_14 (hC.at 0 rfl) rfl ?_
      refine bw_cVv 89 dX9_through_86 rfl vX9_253 (c4_run g hG (hC.sub [5, 6, 7, 8, 9, 3, 4] (by decide) rfl) (by omega) hww (by omega) (by omega) (gup_lt hs hX) (gup_lt ht hY)) (hC.at 5 rfl) rfl rfl (Nat.le_of_ble_eq_true rfl) ⟨(Nat.le_of_ble_eq_true rfl), (Nat.le_of_ble_eq_true rfl)⟩ (by first | exact (show cu ≤ 20 by omega) | exact (show cu + 2 ≤ 20 by omega)) (by first | exact (show su ≤ 200 by omega) | exact (show su + 68 ≤ 200 by omega)) (fun A hP => ?_)
      obtain ⟨hs1, hs3⟩ := hP
      have hC := hC.call [9, 3, 4] ((x + 36, bw_an g 65 (gdo n (2 ^ n ||| p) (gup (fun i => row (2 * i)) X ct) ct (ct - 1) 1 (gup (fun i => row (2 * i + 1)) Y ct))) :: ppl g (x + 1) 129 (gthr n (2 ^ n ||| p) (gup (fun i => row (2 * i)) X ct) (gup (fun i => row (2 * i + 1)) Y ct) ct) .null) (by simp) rfl hs1 hs3.1
      have hW := hW.sm hs1 (by simp <;> omega)
      have hz := hs1.1.trans hz
      refine bw_aload_n 90 dX9_through_89 rfl rfl ?_
      refine bw_iconst (0) 91 dX9_through_90 (by decide) rfl ?_
      refine bw_eqi (y := nI 0) rfl ?_
      refine bw_putU 94 dX9_through_91 rfl pX9_135 (hC.at 0 rfl) rfl rfl (Nat.le_of_ble_eq_true rfl) (fun A hU => ?_)
      have hC := hC.upd 0 rfl hU
      have hW := hW.upd hU (Or.inr (by simp))
      have hz := (congrArg Prod.fst hU).trans hz
      clear hU
      refine bw_aload_n 95 dX9_through_94 rfl rfl ?_
      refine bw_aload_n 96 dX9_through_95 rfl rfl ?_
      refine bw_get 99 dX9_through_96 rfl lX9_14 (hC.at 0 rfl) rfl ?_
      refine bw_cVm 102 dX9_through_99 rfl vX9_243 (c9_keepPolynomial g hG.p16 (hC.sub [0, 1, 3, 4] (by decide) rfl) (by omega) (hok.mono (by omega)) (pd_le (hok.mono (N' := 65) (by omega)).1 (by omega)) hm hz) (hC.at 0 rfl) rfl rfl (Nat.le_of_ble_eq_true rfl) ⟨(Nat.le_of_ble_eq_true rfl), (Nat.le_of_ble_eq_true rfl)⟩ (by first | exact (show cu ≤ 20 by omega) | exact (show cu + 2 ≤ 20 by omega)) (by first | exact (show su ≤ 200 by omega) | exact (show su + 68 ≤ 200 by omega)) (fun x A hP => ?_)
      refine bw_iret dX9_through_102 rfl (by first | exact (show cu ≤ 20 by omega) | exact (show cu + 2 ≤ 20 by omega)) (by first | exact (show su ≤ 200 by omega) | exact (show su + 68 ≤ 200 by omega)) ?_
      exact ⟨_, rfl, kq_of hP (hC.sub [3, 4] (by decide) rfl) hW (by simp) (by omega), hP.2.2.2.ff.has (hC.sub [8, 9] (by decide) rfl) (by simp <;> omega)⟩
    · exact absurd (Int32.le_refl _) c42
  | succ d ih =>
    intro k hk A hC hW hz
    refine bw_iload_n 41 dX9_through_40 rfl rfl ?_
    refine bw_iload_n 42 dX9_through_41 rfl rfl ?_
    refine bw_icmp_ge 77 45 dX9_through_42 rfl rfl (fun c42 => ?_) (fun c42 => ?_)
    · exact absurd c42 (nI_ge (by omega) (by omega))
    · skip
      refine bw_aload_n 46 dX9_through_45 rfl rfl ?_
      refine bw_get 49 dX9_through_46 rfl lX9_73 (hC.at 0 rfl) rfl ?_
      refine bw_iload_n 50 dX9_through_49 rfl rfl ?_
      refine bw_aload_n 51 dX9_through_50 rfl rfl ?_
      refine bw_get 54 dX9_through_51 rfl lX9_21 (hC.at 0 rfl) rfl ?_
      refine bw_iconst (2) 55 dX9_through_54 (by decide) rfl ?_
      refine bw_eqi (y := nI 2) rfl ?_
      refine bw_iload_n 56 dX9_through_55 rfl rfl ?_
      refine bw_imul 57 dX9_through_56 rfl ?_
      refine bw_eqi (pk_mul 2 k) ?_
      refine bw_ialdN 58 dX9_through_57 rfl (hC.at 2 rfl) (by omega) (by omega) ?_
      refine bw_aload_n 59 dX9_through_58 rfl rfl ?_
      refine bw_get 62 dX9_through_59 rfl lX9_21 (hC.at 0 rfl) rfl ?_
      refine bw_iconst (2) 63 dX9_through_62 (by decide) rfl ?_
      refine bw_eqi (y := nI 2) rfl ?_
      refine bw_iload_n 64 dX9_through_63 rfl rfl ?_
      refine bw_imul 65 dX9_through_64 rfl ?_
      refine bw_eqi (pk_mul 2 k) ?_
      refine bw_iconst (1) 66 dX9_through_65 (by decide) rfl ?_
      refine bw_eqi (y := nI 1) rfl ?_
      refine bw_iadd 67 dX9_through_66 rfl ?_
      refine bw_eqi (nI_add (2 * k) 1) ?_
      refine bw_ialdN 68 dX9_through_67 rfl (hC.at 2 rfl) (by omega) (by omega) ?_
      refine bw_cVv 71 dX9_through_68 rfl vX9_249 (c4_take g (hC.sub [5, 8, 9] (by decide) rfl) (by omega)) (hC.at 5 rfl) rfl rfl (Nat.le_of_ble_eq_true rfl) ⟨(Nat.le_of_ble_eq_true rfl), (Nat.le_of_ble_eq_true rfl)⟩ (by first | exact (show cu ≤ 20 by omega) | exact (show cu + 2 ≤ 20 by omega)) (by first | exact (show su ≤ 200 by omega) | exact (show su + 68 ≤ 200 by omega)) (fun A hP => ?_)
      rw [show (fun i => if i = k then row (2 * k) else gup (fun i => row (2 * i)) X k i) = gup (fun i => row (2 * i)) X (k + 1) from gup_s, show (fun i => if i = k then row (2 * k + 1) else gup (fun i => row (2 * i + 1)) Y k i) = gup (fun i => row (2 * i + 1)) Y (k + 1) from gup_s] at hP
      have hC := (hC.upd 8 rfl rfl).upd 9 rfl hP
      have hW := (hW.upd rfl (Or.inr (by simp))).upd hP (Or.inr (by simp))
      have hz := (congrArg Prod.fst hP).trans hz
      refine bw_iincN (1) 74 dX9_through_71 rfl rfl (by decide) (by decide) ?_
      refine bw_goto 40 dX9_through_74 rfl ?_
      refine bw_loc _ ?_ (ih (k + 1) (by omega) A hC hW hz)
      exact ⟨rfl, rfl, congrArg (fun x => some (Value.int x)) (nI_1 ( k )), trivial⟩
set_option maxHeartbeats 4000000 in
set_option maxRecDepth 100000 in
theorem k9_through (g : bw_G) {A0 : bw_H} {x n p gg rn mn pn sn a mw : Nat} {PA : Nat → Option Nat} {row X Y fw : Nat → Nat} (hG : GFg n p gg) (hC : bw_has A0 ((x, xob x n rn mn pn sn) :: (x + 7, bw_aq g 4 40 PA) :: (x + 5, bw_an g 130 row) :: (pcl g (x + 1) 129 fw mw .null ++ ivl g n p gg (x + 34) (x + 9) (x + 35) (x + 36) X Y))) (hww : pwk 129 fw mw) (hrow : ∀ i, row i < 2 ^ n) (hX : ∀ i, X i < 2 ^ n) (hY : ∀ i, Y i < 2 ^ n) (hz : A0.1 = a) (hxa : x + 57 ≤ a) (hrn : rn ≤ 130) (h2 : rn % 2 = 0) (hal0 : ¬ hal row rn 2) (hm : pn < 40) : bw_C g (bw_rm 8 20 200) mX9_through [.ref x] A0 (bw_pm (thP g x n mn pn sn a PA (gup (fun i => row (2 * i)) X (rn / 2)) (gdo n (2 ^ n ||| p) (gup (fun i => row (2 * i)) X (rn / 2)) (rn / 2) (rn / 2 - 1) 1 (gup (fun i => row (2 * i + 1)) Y (rn / 2))) (gthr n (2 ^ n ||| p) (gup (fun i => row (2 * i)) X (rn / 2)) (gup (fun i => row (2 * i + 1)) Y (rn / 2)) (rn / 2)) A0)) := by
  have hW : bw_ff a [x, x + 7, x + 1, x + 2, x + 35, x + 36] A0 A0 := bw_ff.rf
  refine bw_C.of (by decide) (Nat.le_of_ble_eq_true rfl) rfl ?_
  refine bw_aload_n 1 dX9_through_0 rfl rfl ?_
  refine bw_get 4 dX9_through_1 rfl lX9_135 (hC.at 0 rfl) rfl ?_
  refine bw_iconst (2) 5 dX9_through_4 (by decide) rfl ?_
  refine bw_eqi (y := nI 2) rfl ?_
  refine bw_irem 6 dX9_through_5 (by decide) rfl ?_
  refine bw_eqi (pk_rem (a := rn) (d := 2) (by omega) (by omega) (by omega)) ?_
  refine bw_if_ne 17 9 dX9_through_6 rfl rfl (fun c6 => ?_) (fun c6 => ?_)
  · exact absurd (by rw [h2]; rfl) c6
  · refine bw_aload_n 10 dX9_through_9 rfl rfl ?_
    refine bw_iconst (2) 11 dX9_through_10 (by decide) rfl ?_
    refine bw_eqi (y := nI 2) rfl ?_
    refine bw_cVi 14 dX9_through_11 rfl vX9_159 (c9_hasAlike g (step := 2) (z := 0) (hC.sub [0, 2] (by decide) rfl) hG.p16 hrow hrn (by omega) (by omega) (Or.inr ⟨rfl, hal0⟩)) (hC.at 0 rfl) rfl rfl (Nat.le_of_ble_eq_true rfl) ⟨(Nat.le_of_ble_eq_true rfl), (Nat.le_of_ble_eq_true rfl)⟩ (Nat.le_of_ble_eq_true rfl) (Nat.le_of_ble_eq_true rfl) ?_
    refine bw_if_eq 27 17 dX9_through_14 rfl rfl (fun c14 => ?_) (fun c14 => ?_)
    · refine bw_aload_n 28 dX9_through_27 rfl rfl ?_
      refine bw_cVv 31 dX9_through_28 rfl vX9_237 (c9_np g (hC.sub [0] (by decide) rfl) hm) (hC.at 0 rfl) rfl rfl (Nat.le_of_ble_eq_true rfl) ⟨(Nat.le_of_ble_eq_true rfl), (Nat.le_of_ble_eq_true rfl)⟩ (Nat.le_of_ble_eq_true rfl) (Nat.le_of_ble_eq_true rfl) (fun A hP => ?_)
      subst hP
      refine bw_aload_n 32 dX9_through_31 rfl rfl ?_
      refine bw_get 35 dX9_through_32 rfl lX9_135 (hC.at 0 rfl) rfl ?_
      refine bw_iconst (2) 36 dX9_through_35 (by decide) rfl ?_
      refine bw_eqi (y := nI 2) rfl ?_
      refine bw_idiv 37 dX9_through_36 (by decide) rfl ?_
      refine bw_eqi (pk_div (a := rn) (d := 2) (by omega) (by omega) (by omega)) ?_
      refine bw_istore_n 38 dX9_through_37 rfl (by decide) ?_
      refine bw_iconst (0) 39 dX9_through_38 (by decide) rfl ?_
      refine bw_eqi (y := nI 0) rfl ?_
      refine bw_istore_n 40 dX9_through_39 rfl (by decide) ?_
      refine bw_loc _ ?_ (k9_through_loop g hG hww hrow hX hY (ct := rn / 2) (by omega) hxa hm ?_ ?_ (rn / 2) 0 (by omega) A (by rw [gup_0, gup_0]; exact hC) hW hz)
      · exact ⟨rfl, rfl, rfl, trivial⟩
      all_goals exact Nat.le_of_ble_eq_true rfl
    · exact absurd rfl c14
theorem k9_throughY (g : bw_G) {A : bw_H} {x n rn mn pn sn : Nat} {row : Nat → Nat} (hn : 2 ^ n ≤ 65536) (hC : bw_has A [(x, xob x n rn mn pn sn), (x + 5, bw_an g 130 row)]) (hrow : ∀ i, row i < 2 ^ n) (hrn : rn ≤ 130) (h2 : rn % 2 = 0) (hal0 : ¬ hal row rn 2) (hm : pn = 40) : bw_C g (bw_rm 8 20 200) mX9_through [.ref x] A (bw_pz eUO A) := by
  refine bw_C.of (by decide) (Nat.le_of_ble_eq_true rfl) rfl ?_
  refine bw_aload_n 1 dX9_through_0 rfl rfl ?_
  refine bw_get 4 dX9_through_1 rfl lX9_135 (hC.at 0 rfl) rfl ?_
  refine bw_iconst (2) 5 dX9_through_4 (by decide) rfl ?_
  refine bw_eqi (y := nI 2) rfl ?_
  refine bw_irem 6 dX9_through_5 (by decide) rfl ?_
  refine bw_eqi (pk_rem (a := rn) (d := 2) (by omega) (by omega) (by omega)) ?_
  refine bw_if_ne 17 9 dX9_through_6 rfl rfl (fun c6 => ?_) (fun c6 => ?_)
  · exact absurd (by rw [h2]; rfl) c6
  · refine bw_aload_n 10 dX9_through_9 rfl rfl ?_
    refine bw_iconst (2) 11 dX9_through_10 (by decide) rfl ?_
    refine bw_eqi (y := nI 2) rfl ?_
    refine bw_cVi 14 dX9_through_11 rfl vX9_159 (c9_hasAlike g (step := 2) (z := 0) (hC.sub [0, 1] (by decide) rfl) hn hrow hrn (by omega) (by omega) (Or.inr ⟨rfl, hal0⟩)) (hC.at 0 rfl) rfl rfl (Nat.le_of_ble_eq_true rfl) ⟨(Nat.le_of_ble_eq_true rfl), (Nat.le_of_ble_eq_true rfl)⟩ (Nat.le_of_ble_eq_true rfl) (Nat.le_of_ble_eq_true rfl) ?_
    refine bw_if_eq 27 17 dX9_through_14 rfl rfl (fun c14 => ?_) (fun c14 => ?_)
    · refine bw_aload_n 28 dX9_through_27 rfl rfl ?_
      refine bw_cVz 31 dX9_through_28 rfl vX9_237 (c9_npX g (hC.sub [0] (by decide) rfl) hm) (hC.at 0 rfl) rfl rfl (Nat.le_of_ble_eq_true rfl) ⟨(Nat.le_of_ble_eq_true rfl), (Nat.le_of_ble_eq_true rfl)⟩ (Nat.le_of_ble_eq_true rfl) (Nat.le_of_ble_eq_true rfl) rfl ?_
      exact fun m hm => ⟨rfl, m, hm, rfl⟩
    · exact absurd rfl c14
theorem k9_throughX (g : bw_G) {A : bw_H} {x n rn mn pn sn : Nat} {row : Nat → Nat} (hn : 2 ^ n ≤ 65536) (hC : bw_has A [(x, xob x n rn mn pn sn), (x + 5, bw_an g 130 row)]) (hrow : ∀ i, row i < 2 ^ n) (hrn : rn ≤ 130) (h : rn % 2 = 1 ∨ hal row rn 2) : bw_C g (bw_rm 8 20 200) mX9_through [.ref x] A (bw_pz eIS A) := by
  refine bw_C.of (by decide) (Nat.le_of_ble_eq_true rfl) rfl ?_
  refine bw_aload_n 1 dX9_through_0 rfl rfl ?_
  refine bw_get 4 dX9_through_1 rfl lX9_135 (hC.at 0 rfl) rfl ?_
  refine bw_iconst (2) 5 dX9_through_4 (by decide) rfl ?_
  refine bw_eqi (y := nI 2) rfl ?_
  refine bw_irem 6 dX9_through_5 (by decide) rfl ?_
  refine bw_eqi (pk_rem (a := rn) (d := 2) (by omega) (by omega) (by omega)) ?_
  refine bw_if_ne 17 9 dX9_through_6 rfl rfl (fun c6 => ?_) (fun c6 => ?_)
  · skip
    refine bw_throw "the row must have pairs, no two of one x" dX9_through_17 dX9_through_20 dX9_through_21 dX9_through_23 dX9_through_26 tX9_163 (by decide +kernel) rfl (Nat.le_of_ble_eq_true rfl) (Nat.le_of_ble_eq_true rfl) (Nat.le_of_ble_eq_true rfl) (Nat.le_of_ble_eq_true rfl) ?_
    exact fun m hm => ⟨rfl, m, hm, rfl⟩
  · have h2 : rn % 2 = 0 := (xn_eq0 (by omega)).mp c6
    have hha : hal row rn 2 := by
      rcases h with h | h
      · omega
      · exact h
    refine bw_aload_n 10 dX9_through_9 rfl rfl ?_
    refine bw_iconst (2) 11 dX9_through_10 (by decide) rfl ?_
    refine bw_eqi (y := nI 2) rfl ?_
    refine bw_cVi 14 dX9_through_11 rfl vX9_159 (c9_hasAlike g (step := 2) (z := 1) (hC.sub [0, 1] (by decide) rfl) hn hrow hrn (by omega) (by omega) (Or.inl ⟨rfl, hha⟩)) (hC.at 0 rfl) rfl rfl (Nat.le_of_ble_eq_true rfl) ⟨(Nat.le_of_ble_eq_true rfl), (Nat.le_of_ble_eq_true rfl)⟩ (Nat.le_of_ble_eq_true rfl) (Nat.le_of_ble_eq_true rfl) ?_
    refine bw_if_eq 27 17 dX9_through_14 rfl rfl (fun c14 => ?_) (fun c14 => ?_)
    · exact absurd c14 (by decide)
    · skip
      refine bw_throw "the row must have pairs, no two of one x" dX9_through_17 dX9_through_20 dX9_through_21 dX9_through_23 dX9_through_26 tX9_163 (by decide +kernel) rfl (Nat.le_of_ble_eq_true rfl) (Nat.le_of_ble_eq_true rfl) (Nat.le_of_ble_eq_true rfl) (Nat.le_of_ble_eq_true rfl) ?_
      exact fun m hm => ⟨rfl, m, hm, rfl⟩
set_option maxHeartbeats 4000000 in
set_option maxRecDepth 100000 in
theorem k9_back_loop (g : bw_G) {A0 : bw_H} {x n p gg rn mn pn sn a mw cu su : Nat} {PA : Nat → Option Nat} {row S X Y fw : Nat → Nat} (hG : GFg n p gg) (hww : pwk 129 fw mw) (hrow : ∀ i, row i < 2 ^ n) (hSl : ∀ i, S i < 2 ^ n) (hX : ∀ i, X i < 2 ^ n) (hY : ∀ i, Y i < 2 ^ n) (hsn : sn ≤ 64) (hxa : x + 57 ≤ a) (hm : pn < 40) (hcu : cu ≤ 10) (hsu : su ≤ 100) :
    ∀ (d k : Nat), k + d = sn → ∀ A : bw_H, bw_has A ((x, xob x n rn mn pn sn) :: (x + 7, bw_aq g 4 40 PA) :: (x + 5, bw_an g 130 row) :: (x + 8, bw_an g 64 S) :: (pcl g (x + 1) 129 fw mw .null ++ ivl g n p gg (x + 34) (x + 9) (x + 35) (x + 36) (gup S X k) (gup row Y k))) → bw_ff a [x, x + 7, x + 1, x + 2, x + 35, x + 36] A0 A → A.1 = a →
      bw_W g (bw_rm 8 20 200) mX9_back (bw_pm (thP g x n mn pn sn a PA (gup S X sn) (gdo n (2 ^ n ||| p) (gup S X sn) sn (sn - 1) 1 (gup row Y sn)) (gthr n (2 ^ n ||| p) (gup S X sn) (gup row Y sn) sn) A0)) cu su 32 [(0, .ref x), (1, .int (nI k))] [] A := by
  have hok := gthr_ok hG.2.2.1 (X := gup S X sn) (gup_lt (k := sn) hrow hY) sn
  intro d
  induction d with
  | zero =>
    intro k hk A hC hW hz
    have hk : sn = k := by omega
    subst hk
    refine bw_iload_n 33 dX9_back_32 rfl rfl ?_
    refine bw_aload_n 34 dX9_back_33 rfl rfl ?_
    refine bw_get 37 dX9_back_34 rfl lX9_326 (hC.at 0 rfl) rfl ?_
    refine bw_icmp_ge 66 40 dX9_back_37 rfl rfl (fun c37 => ?_) (fun c37 => ?_)
    · refine bw_aload_n 67 dX9_back_66 rfl rfl ?_
      refine bw_get 70 dX9_back_67 rfl lX9_73 (hC.at 0 rfl) rfl ?_
      refine bw_aload_n 71 dX9_back_70 rfl rfl ?_
      refine bw_get 74 dX9_back_71 rfl lX9_326 (hC.at 0 rfl) rfl ?_
      refine bw_aload_n 75 dX9_back_74 rfl rfl ?_
      refine bw_get 78 dX9_back_75 rfl lX9_14 (hC.at 0 rfl) rfl ?_
      refine bw_cVv 81 dX9_back_78 rfl vX9_253 (c4_run g hG (hC.sub [6, 7, 8, 9, 10, 4, 5] (by decide) rfl) (by omega) hww (by omega) (by omega) (gup_lt hSl hX) (gup_lt hrow hY)) (hC.at 6 rfl) rfl rfl (Nat.le_of_ble_eq_true rfl) ⟨(Nat.le_of_ble_eq_true rfl), (Nat.le_of_ble_eq_true rfl)⟩ (by first | exact (show cu ≤ 20 by omega) | exact (show cu + 2 ≤ 20 by omega)) (by first | exact (show su ≤ 200 by omega) | exact (show su + 68 ≤ 200 by omega)) (fun A hP => ?_)
      obtain ⟨hs1, hs3⟩ := hP
      have hC := hC.call [10, 4, 5] ((x + 36, bw_an g 65 (gdo n (2 ^ n ||| p) (gup S X sn) sn (sn - 1) 1 (gup row Y sn))) :: ppl g (x + 1) 129 (gthr n (2 ^ n ||| p) (gup S X sn) (gup row Y sn) sn) .null) (by simp) rfl hs1 hs3.1
      have hW := hW.sm hs1 (by simp <;> omega)
      have hz := hs1.1.trans hz
      refine bw_aload_n 82 dX9_back_81 rfl rfl ?_
      refine bw_iconst (0) 83 dX9_back_82 (by decide) rfl ?_
      refine bw_eqi (y := nI 0) rfl ?_
      refine bw_putU 86 dX9_back_83 rfl pX9_135 (hC.at 0 rfl) rfl rfl (Nat.le_of_ble_eq_true rfl) (fun A hU => ?_)
      have hC := hC.upd 0 rfl hU
      have hW := hW.upd hU (Or.inr (by simp))
      have hz := (congrArg Prod.fst hU).trans hz
      clear hU
      refine bw_aload_n 87 dX9_back_86 rfl rfl ?_
      refine bw_aload_n 88 dX9_back_87 rfl rfl ?_
      refine bw_get 91 dX9_back_88 rfl lX9_14 (hC.at 0 rfl) rfl ?_
      refine bw_cVm 94 dX9_back_91 rfl vX9_243 (c9_keepPolynomial g hG.p16 (hC.sub [0, 1, 4, 5] (by decide) rfl) (by omega) (hok.mono (by omega)) (pd_le (hok.mono (N' := 65) (by omega)).1 (by omega)) hm hz) (hC.at 0 rfl) rfl rfl (Nat.le_of_ble_eq_true rfl) ⟨(Nat.le_of_ble_eq_true rfl), (Nat.le_of_ble_eq_true rfl)⟩ (by first | exact (show cu ≤ 20 by omega) | exact (show cu + 2 ≤ 20 by omega)) (by first | exact (show su ≤ 200 by omega) | exact (show su + 68 ≤ 200 by omega)) (fun x A hP => ?_)
      refine bw_iret dX9_back_94 rfl (by first | exact (show cu ≤ 20 by omega) | exact (show cu + 2 ≤ 20 by omega)) (by first | exact (show su ≤ 200 by omega) | exact (show su + 68 ≤ 200 by omega)) ?_
      exact ⟨_, rfl, kq_of hP (hC.sub [4, 5] (by decide) rfl) hW (by simp) (by omega), hP.2.2.2.ff.has (hC.sub [9, 10] (by decide) rfl) (by simp <;> omega)⟩
    · exact absurd (Int32.le_refl _) c37
  | succ d ih =>
    intro k hk A hC hW hz
    refine bw_iload_n 33 dX9_back_32 rfl rfl ?_
    refine bw_aload_n 34 dX9_back_33 rfl rfl ?_
    refine bw_get 37 dX9_back_34 rfl lX9_326 (hC.at 0 rfl) rfl ?_
    refine bw_icmp_ge 66 40 dX9_back_37 rfl rfl (fun c37 => ?_) (fun c37 => ?_)
    · exact absurd c37 (nI_ge (by omega) (by omega))
    · skip
      refine bw_aload_n 41 dX9_back_40 rfl rfl ?_
      refine bw_get 44 dX9_back_41 rfl lX9_73 (hC.at 0 rfl) rfl ?_
      refine bw_iload_n 45 dX9_back_44 rfl rfl ?_
      refine bw_aload_n 46 dX9_back_45 rfl rfl ?_
      refine bw_get 49 dX9_back_46 rfl lX9_35 (hC.at 0 rfl) rfl ?_
      refine bw_iload_n 50 dX9_back_49 rfl rfl ?_
      refine bw_ialdN 51 dX9_back_50 rfl (hC.at 3 rfl) (by omega) (by omega) ?_
      refine bw_aload_n 52 dX9_back_51 rfl rfl ?_
      refine bw_get 55 dX9_back_52 rfl lX9_21 (hC.at 0 rfl) rfl ?_
      refine bw_iload_n 56 dX9_back_55 rfl rfl ?_
      refine bw_ialdN 57 dX9_back_56 rfl (hC.at 2 rfl) (by omega) (by omega) ?_
      refine bw_cVv 60 dX9_back_57 rfl vX9_249 (c4_take g (hC.sub [6, 9, 10] (by decide) rfl) (by omega)) (hC.at 6 rfl) rfl rfl (Nat.le_of_ble_eq_true rfl) ⟨(Nat.le_of_ble_eq_true rfl), (Nat.le_of_ble_eq_true rfl)⟩ (by first | exact (show cu ≤ 20 by omega) | exact (show cu + 2 ≤ 20 by omega)) (by first | exact (show su ≤ 200 by omega) | exact (show su + 68 ≤ 200 by omega)) (fun A hP => ?_)
      rw [show (fun i => if i = k then S k else gup S X k i) = gup S X (k + 1) from gup_s, show (fun i => if i = k then row k else gup row Y k i) = gup row Y (k + 1) from gup_s] at hP
      have hC := (hC.upd 9 rfl rfl).upd 10 rfl hP
      have hW := (hW.upd rfl (Or.inr (by simp))).upd hP (Or.inr (by simp))
      have hz := (congrArg Prod.fst hP).trans hz
      refine bw_iincN (1) 63 dX9_back_60 rfl rfl (by decide) (by decide) ?_
      refine bw_goto 32 dX9_back_63 rfl ?_
      refine bw_loc _ ?_ (ih (k + 1) (by omega) A hC hW hz)
      exact ⟨rfl, congrArg (fun x => some (Value.int x)) (nI_1 ( k )), trivial⟩
set_option maxHeartbeats 4000000 in
set_option maxRecDepth 100000 in
theorem k9_back (g : bw_G) {A0 : bw_H} {x n p gg rn mn pn sn a mw : Nat} {PA : Nat → Option Nat} {row S X Y fw : Nat → Nat} (hG : GFg n p gg) (hC : bw_has A0 ((x, xob x n rn mn pn sn) :: (x + 7, bw_aq g 4 40 PA) :: (x + 5, bw_an g 130 row) :: (x + 8, bw_an g 64 S) :: (pcl g (x + 1) 129 fw mw .null ++ ivl g n p gg (x + 34) (x + 9) (x + 35) (x + 36) X Y))) (hww : pwk 129 fw mw) (hrow : ∀ i, row i < 2 ^ n) (hSl : ∀ i, S i < 2 ^ n) (hX : ∀ i, X i < 2 ^ n) (hY : ∀ i, Y i < 2 ^ n) (hz : A0.1 = a) (hxa : x + 57 ≤ a) (hsn : sn ≤ 64) (h0 : sn ≠ 0) (hrn : rn = sn) (hm : pn < 40) : bw_C g (bw_rm 8 20 200) mX9_back [.ref x] A0 (bw_pm (thP g x n mn pn sn a PA (gup S X sn) (gdo n (2 ^ n ||| p) (gup S X sn) sn (sn - 1) 1 (gup row Y sn)) (gthr n (2 ^ n ||| p) (gup S X sn) (gup row Y sn) sn) A0)) := by
  have hW : bw_ff a [x, x + 7, x + 1, x + 2, x + 35, x + 36] A0 A0 := bw_ff.rf
  refine bw_C.of (by decide) (Nat.le_of_ble_eq_true rfl) rfl ?_
  refine bw_aload_n 1 dX9_back_0 rfl rfl ?_
  refine bw_cVv 4 dX9_back_1 rfl vX9_332 (c9_nS g (hC.sub [0] (by decide) rfl) h0 hsn) (hC.at 0 rfl) rfl rfl (Nat.le_of_ble_eq_true rfl) ⟨(Nat.le_of_ble_eq_true rfl), (Nat.le_of_ble_eq_true rfl)⟩ (Nat.le_of_ble_eq_true rfl) (Nat.le_of_ble_eq_true rfl) (fun A hP => ?_)
  subst hP
  refine bw_aload_n 5 dX9_back_4 rfl rfl ?_
  refine bw_get 8 dX9_back_5 rfl lX9_135 (hC.at 0 rfl) rfl ?_
  refine bw_aload_n 9 dX9_back_8 rfl rfl ?_
  refine bw_get 12 dX9_back_9 rfl lX9_326 (hC.at 0 rfl) rfl ?_
  refine bw_icmp_eq 26 15 dX9_back_12 rfl rfl (fun c12 => ?_) (fun c12 => ?_)
  · refine bw_aload_n 27 dX9_back_26 rfl rfl ?_
    refine bw_cVv 30 dX9_back_27 rfl vX9_237 (c9_np g (hC.sub [0] (by decide) rfl) hm) (hC.at 0 rfl) rfl rfl (Nat.le_of_ble_eq_true rfl) ⟨(Nat.le_of_ble_eq_true rfl), (Nat.le_of_ble_eq_true rfl)⟩ (Nat.le_of_ble_eq_true rfl) (Nat.le_of_ble_eq_true rfl) (fun A hP => ?_)
    subst hP
    refine bw_iconst (0) 31 dX9_back_30 (by decide) rfl ?_
    refine bw_eqi (y := nI 0) rfl ?_
    refine bw_istore_n 32 dX9_back_31 rfl (by decide) ?_
    refine bw_loc _ ?_ (k9_back_loop g hG hww hrow hSl hX hY hsn hxa hm ?_ ?_ sn 0 (by omega) A (by rw [gup_0, gup_0]; exact hC) hW hz)
    · exact ⟨rfl, rfl, trivial⟩
    all_goals exact Nat.le_of_ble_eq_true rfl
  · exact absurd (by rw [hrn]) c12
theorem k9_backY (g : bw_G) {A : bw_H} {x n rn mn pn sn : Nat} (hC : bw_has A [(x, xob x n rn mn pn sn)]) (hsn : sn ≤ 64) (h0 : sn ≠ 0) (hrn : rn = sn) (hm : pn = 40) : bw_C g (bw_rm 8 20 200) mX9_back [.ref x] A (bw_pz eUO A) := by
  refine bw_C.of (by decide) (Nat.le_of_ble_eq_true rfl) rfl ?_
  refine bw_aload_n 1 dX9_back_0 rfl rfl ?_
  refine bw_cVv 4 dX9_back_1 rfl vX9_332 (c9_nS g (hC.sub [0] (by decide) rfl) h0 hsn) (hC.at 0 rfl) rfl rfl (Nat.le_of_ble_eq_true rfl) ⟨(Nat.le_of_ble_eq_true rfl), (Nat.le_of_ble_eq_true rfl)⟩ (Nat.le_of_ble_eq_true rfl) (Nat.le_of_ble_eq_true rfl) (fun A hP => ?_)
  subst hP
  refine bw_aload_n 5 dX9_back_4 rfl rfl ?_
  refine bw_get 8 dX9_back_5 rfl lX9_135 (hC.at 0 rfl) rfl ?_
  refine bw_aload_n 9 dX9_back_8 rfl rfl ?_
  refine bw_get 12 dX9_back_9 rfl lX9_326 (hC.at 0 rfl) rfl ?_
  refine bw_icmp_eq 26 15 dX9_back_12 rfl rfl (fun c12 => ?_) (fun c12 => ?_)
  · refine bw_aload_n 27 dX9_back_26 rfl rfl ?_
    refine bw_cVz 30 dX9_back_27 rfl vX9_237 (c9_npX g (hC.sub [0] (by decide) rfl) hm) (hC.at 0 rfl) rfl rfl (Nat.le_of_ble_eq_true rfl) ⟨(Nat.le_of_ble_eq_true rfl), (Nat.le_of_ble_eq_true rfl)⟩ (Nat.le_of_ble_eq_true rfl) (Nat.le_of_ble_eq_true rfl) rfl ?_
    exact fun m hm => ⟨rfl, m, hm, rfl⟩
  · exact absurd (by rw [hrn]) c12
theorem k9_backX (g : bw_G) {A : bw_H} {x n rn mn pn sn : Nat} (hC : bw_has A [(x, xob x n rn mn pn sn)]) (hsn : sn ≤ 64) (h130 : rn ≤ 130) (h : sn = 0 ∨ rn ≠ sn) : bw_C g (bw_rm 8 20 200) mX9_back [.ref x] A (bw_pz eIS A) := by
  refine bw_C.of (by decide) (Nat.le_of_ble_eq_true rfl) rfl ?_
  by_cases h0 : sn = 0
  · skip
    refine bw_aload_n 1 dX9_back_0 rfl rfl ?_
    refine bw_cVz 4 dX9_back_1 rfl vX9_332 (c9_nSX g (hC.sub [0] (by decide) rfl) h0) (hC.at 0 rfl) rfl rfl (Nat.le_of_ble_eq_true rfl) ⟨(Nat.le_of_ble_eq_true rfl), (Nat.le_of_ble_eq_true rfl)⟩ (Nat.le_of_ble_eq_true rfl) (Nat.le_of_ble_eq_true rfl) rfl ?_
    exact fun m hm => ⟨rfl, m, hm, rfl⟩
  · skip
    refine bw_aload_n 1 dX9_back_0 rfl rfl ?_
    refine bw_cVv 4 dX9_back_1 rfl vX9_332 (c9_nS g (hC.sub [0] (by decide) rfl) h0 hsn) (hC.at 0 rfl) rfl rfl (Nat.le_of_ble_eq_true rfl) ⟨(Nat.le_of_ble_eq_true rfl), (Nat.le_of_ble_eq_true rfl)⟩ (Nat.le_of_ble_eq_true rfl) (Nat.le_of_ble_eq_true rfl) (fun A hP => ?_)
    subst hP
    refine bw_aload_n 5 dX9_back_4 rfl rfl ?_
    refine bw_get 8 dX9_back_5 rfl lX9_135 (hC.at 0 rfl) rfl ?_
    refine bw_aload_n 9 dX9_back_8 rfl rfl ?_
    refine bw_get 12 dX9_back_9 rfl lX9_326 (hC.at 0 rfl) rfl ?_
    refine bw_icmp_eq 26 15 dX9_back_12 rfl rfl (fun c12 => ?_) (fun c12 => ?_)
    · exact absurd ((nI_eq (by omega) (by omega)).mp c12) (by omega)
    · skip
      refine bw_throwW "the row must have one member for each of the span" dX9_back_15 dX9_back_18 dX9_back_19 dX9_back_22 dX9_back_25 tX9_163 (by decide +kernel) rfl (Nat.le_of_ble_eq_true rfl) (Nat.le_of_ble_eq_true rfl) (Nat.le_of_ble_eq_true rfl) (Nat.le_of_ble_eq_true rfl) ?_
      exact fun m hm => ⟨rfl, m, hm, rfl⟩
