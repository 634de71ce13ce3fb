/-! the class's calls: span, forth -/
/-- the span's first k members -/
def gsp (row S : Nat → Nat) (ct k i : Nat) : Nat := if i < k then gxo row i ct else S i
theorem gsp_s {row S : Nat → Nat} {ct k : Nat} : (fun i => if i = k then gxo row k ct else gsp row S ct k i) = gsp row S ct (k + 1) := by
  funext i
  unfold gsp
  by_cases h : i = k
  · rw [if_pos h, if_pos (by omega), h]
  · rw [if_neg h]
    by_cases h2 : i < k
    · rw [if_pos h2, if_pos (by omega)]
    · rw [if_neg h2, if_neg (by omega)]
theorem gsp_0 {row S : Nat → Nat} {ct : Nat} : gsp row S ct 0 = S := by
  funext i
  unfold gsp
  rw [if_neg (by omega)]
set_option maxHeartbeats 4000000 in
set_option maxRecDepth 100000 in
theorem k9_span_loop (g : bw_G) {A0 : bw_H} {x n rn mn pn cu su : Nat} {row S : Nat → Nat} (hrn : rn ≤ 6) (hcu : cu ≤ 20) (hsu : su ≤ 200) :
    ∀ (d k : Nat), k + d = 2 ^ rn → ∀ A : bw_H, bw_has A [(x, xob x n rn mn pn (2 ^ rn)), (x + 5, bw_an g 130 row), (x + 8, bw_an g 64 (gsp row S rn k))] → bw_sm [x, x + 8] A0 A →
      bw_W g (bw_rm 8 20 200) mX9_span (bw_pm (fun y A' => y = nI (2 ^ rn) ∧ bw_sm [x, x + 8] A0 A' ∧ bw_has A' [(x, xob x n 0 mn pn (2 ^ rn)), (x + 8, bw_an g 64 (gsp row S rn (2 ^ rn)))])) cu su 39 [(0, .ref x), (1, .int (nI k))] [] A := by
  have h64 : 2 ^ rn ≤ 2 ^ 6 := Nat.pow_le_pow_right (by omega) hrn
  intro d
  induction d with
  | zero =>
    intro k hk A hC hS
    have hk : k = 2 ^ rn := by omega
    subst hk
    refine bw_iload_n 40 dX9_span_39 rfl rfl ?_
    refine bw_aload_n 41 dX9_span_40 rfl rfl ?_
    refine bw_get 44 dX9_span_41 rfl lX9_326 (hC.at 0 rfl) rfl ?_
    refine bw_icmp_ge 68 47 dX9_span_44 rfl rfl (fun c44 => ?_) (fun c44 => ?_)
    · refine bw_aload_n 69 dX9_span_68 rfl rfl ?_
      refine bw_iconst (0) 70 dX9_span_69 (by decide) rfl ?_
      refine bw_eqi (y := nI 0) rfl ?_
      refine bw_putU 73 dX9_span_70 rfl pX9_135 (hC.at 0 rfl) rfl rfl (Nat.le_of_ble_eq_true rfl) (fun A hU => ?_)
      have hC := hC.upd 0 rfl hU
      have hS := hS.upd hU (by simp)
      clear hU
      refine bw_aload_n 74 dX9_span_73 rfl rfl ?_
      refine bw_get 77 dX9_span_74 rfl lX9_326 (hC.at 0 rfl) rfl ?_
      refine bw_iret dX9_span_77 rfl (show cu ≤ 20 by omega) (show su ≤ 200 by omega) ?_
      exact ⟨_, rfl, rfl, hS, hC.sub [0, 2] (by decide) rfl⟩
    · exact absurd (Int32.le_refl _) c44
  | succ d ih =>
    intro k hk A hC hS
    refine bw_iload_n 40 dX9_span_39 rfl rfl ?_
    refine bw_aload_n 41 dX9_span_40 rfl rfl ?_
    refine bw_get 44 dX9_span_41 rfl lX9_326 (hC.at 0 rfl) rfl ?_
    refine bw_icmp_ge 68 47 dX9_span_44 rfl rfl (fun c44 => ?_) (fun c44 => ?_)
    · exact absurd c44 (nI_ge (by omega) (by omega))
    · skip
      refine bw_aload_n 48 dX9_span_47 rfl rfl ?_
      refine bw_get 51 dX9_span_48 rfl lX9_35 (hC.at 0 rfl) rfl ?_
      refine bw_iload_n 52 dX9_span_51 rfl rfl ?_
      refine bw_aload_n 53 dX9_span_52 rfl rfl ?_
      refine bw_iload_n 54 dX9_span_53 rfl rfl ?_
      refine bw_aload_n 55 dX9_span_54 rfl rfl ?_
      refine bw_get 58 dX9_span_55 rfl lX9_135 (hC.at 0 rfl) rfl ?_
      refine bw_cVi 61 dX9_span_58 rfl vX9_329 (c9_xorOfChosen g (hC.sub [0, 1] (by decide) rfl) (by omega) hrn) (hC.at 0 rfl) rfl rfl (Nat.le_of_ble_eq_true rfl) ⟨(Nat.le_of_ble_eq_true rfl), (Nat.le_of_ble_eq_true rfl)⟩ (show cu ≤ 20 by omega) (show su ≤ 200 by omega) ?_
      refine bw_iastN 62 dX9_span_61 rfl (hC.at 2 rfl) (by omega) (by omega) (G := gsp row S rn (k + 1)) (gsp_s) (fun A hU => ?_)
      have hC := hC.upd 2 rfl hU
      have hS := hS.upd hU (by simp)
      clear hU
      refine bw_iincN (1) 65 dX9_span_62 rfl rfl (by decide) (by decide) ?_
      refine bw_goto 39 dX9_span_65 rfl ?_
      refine bw_loc _ ?_ (ih (k + 1) (by omega) A hC hS)
      exact ⟨rfl, congrArg (fun x => some (Value.int x)) (nI_1 ( k )), trivial⟩
set_option maxHeartbeats 4000000 in
set_option maxRecDepth 100000 in
theorem k9_span (g : bw_G) {A : bw_H} {x n rn mn pn sn : Nat} {row S : Nat → Nat} (hn : 2 ^ n ≤ 65536) (hC : bw_has A [(x, xob x n rn mn pn sn), (x + 5, bw_an g 130 row), (x + 8, bw_an g 64 S)]) (hrow : ∀ i, row i < 2 ^ n) (hrn : rn ≤ 6) (hx : ¬ hxa row rn) : bw_C g (bw_rm 8 20 200) mX9_span [.ref x] A (bw_pm (fun y A' => y = nI (2 ^ rn) ∧ bw_sm [x, x + 8] A A' ∧ bw_has A' [(x, xob x n 0 mn pn (2 ^ rn)), (x + 8, bw_an g 64 (gsp row S rn (2 ^ rn)))])) := by
  have hS : bw_sm [x, x + 8] A A := bw_sm.rf
  refine bw_C.of (by decide) (Nat.le_of_ble_eq_true rfl) rfl ?_
  refine bw_aload_n 1 dX9_span_0 rfl rfl ?_
  refine bw_get 4 dX9_span_1 rfl lX9_135 (hC.at 0 rfl) rfl ?_
  refine bw_bipush (6) 6 dX9_span_4 (by decide) rfl ?_
  refine bw_eqi (y := nI 6) rfl ?_
  refine bw_icmp_gt 16 9 dX9_span_6 rfl rfl (fun c6 => ?_) (fun c6 => ?_)
  · exact absurd c6 (Int32.not_lt.mpr (nI_le (b := 6) hrn (by omega)))
  · refine bw_aload_n 10 dX9_span_9 rfl rfl ?_
    refine bw_cVi 13 dX9_span_10 rfl vX9_320 (c9_hasXorOfAhead g (z := 0) (hC.sub [0, 1] (by decide) rfl) hn hrow hrn (Or.inr ⟨rfl, hx⟩)) (hC.at 0 rfl) rfl rfl (Nat.le_of_ble_eq_true rfl) ⟨(Nat.le_of_ble_eq_true rfl), (Nat.le_of_ble_eq_true rfl)⟩ (Nat.le_of_ble_eq_true rfl) (Nat.le_of_ble_eq_true rfl) ?_
    refine bw_if_eq 27 16 dX9_span_13 rfl rfl (fun c13 => ?_) (fun c13 => ?_)
    · refine bw_aload_n 28 dX9_span_27 rfl rfl ?_
      refine bw_iconst (1) 29 dX9_span_28 (by decide) rfl ?_
      refine bw_eqi (y := nI 1) rfl ?_
      refine bw_aload_n 30 dX9_span_29 rfl rfl ?_
      refine bw_get 33 dX9_span_30 rfl lX9_135 (hC.at 0 rfl) rfl ?_
      refine bw_ishl 34 dX9_span_33 rfl ?_
      refine bw_eqi ((xn_shl (a := 1) rn (by omega) (by have : 2 ^ rn ≤ 2 ^ 6 := Nat.pow_le_pow_right (by omega) hrn; omega)).trans (by rw [Nat.one_mul])) ?_
      refine bw_putU 37 dX9_span_34 rfl pX9_326 (hC.at 0 rfl) rfl rfl (Nat.le_of_ble_eq_true rfl) (fun A hU => ?_)
      have hC := hC.upd 0 rfl hU
      have hS := hS.upd hU (by simp)
      clear hU
      refine bw_iconst (0) 38 dX9_span_37 (by decide) rfl ?_
      refine bw_eqi (y := nI 0) rfl ?_
      refine bw_istore_n 39 dX9_span_38 rfl (by decide) ?_
      refine bw_loc _ ?_ (k9_span_loop g hrn ?_ ?_ (2 ^ rn) 0 (by omega) A (by rw [gsp_0]; exact hC) hS)
      · exact ⟨rfl, rfl, trivial⟩
      all_goals exact Nat.le_of_ble_eq_true rfl
    · exact absurd rfl c13
theorem k9_spanX (g : bw_G) {A : bw_H} {x n rn mn pn sn : Nat} {row : Nat → Nat} (hn : 2 ^ n ≤ 65536) (hC : bw_has A [(x, xob x n rn mn pn sn), (x + 5, bw_an g 130 row)]) (hrow : ∀ i, row i < 2 ^ n) (h130 : rn ≤ 130) (h : 6 < rn ∨ hxa row rn) : bw_C g (bw_rm 8 20 200) mX9_span [.ref x] A (bw_pz eIS A) := by
  refine bw_C.of (by decide) (Nat.le_of_ble_eq_true rfl) rfl ?_
  refine bw_aload_n 1 dX9_span_0 rfl rfl ?_
  refine bw_get 4 dX9_span_1 rfl lX9_135 (hC.at 0 rfl) rfl ?_
  refine bw_bipush (6) 6 dX9_span_4 (by decide) rfl ?_
  refine bw_eqi (y := nI 6) rfl ?_
  refine bw_icmp_gt 16 9 dX9_span_6 rfl rfl (fun c6 => ?_) (fun c6 => ?_)
  · refine bw_throwW "the row must have at most 6, none an xor of those ahead" dX9_span_16 dX9_span_19 dX9_span_20 dX9_span_23 dX9_span_26 tX9_163 (by decide +kernel) rfl (Nat.le_of_ble_eq_true rfl) (Nat.le_of_ble_eq_true rfl) (Nat.le_of_ble_eq_true rfl) (Nat.le_of_ble_eq_true rfl) ?_
    exact fun m hm => ⟨rfl, m, hm, rfl⟩
  · have hrn : rn ≤ 6 := (nI_leI (b := 6) (by omega) (by omega)).mp (Int32.not_lt.mp c6)
    have hx : hxa row rn := by
      rcases h with h | h
      · omega
      · exact h
    refine bw_aload_n 10 dX9_span_9 rfl rfl ?_
    refine bw_cVi 13 dX9_span_10 rfl vX9_320 (c9_hasXorOfAhead g (z := 1) (hC.sub [0, 1] (by decide) rfl) hn hrow hrn (Or.inl ⟨rfl, hx⟩)) (hC.at 0 rfl) rfl rfl (Nat.le_of_ble_eq_true rfl) ⟨(Nat.le_of_ble_eq_true rfl), (Nat.le_of_ble_eq_true rfl)⟩ (Nat.le_of_ble_eq_true rfl) (Nat.le_of_ble_eq_true rfl) ?_
    refine bw_if_eq 27 16 dX9_span_13 rfl rfl (fun c13 => ?_) (fun c13 => ?_)
    · exact absurd c13 (by decide)
    · refine bw_throwW "the row must have at most 6, none an xor of those ahead" dX9_span_16 dX9_span_19 dX9_span_20 dX9_span_23 dX9_span_26 tX9_163 (by decide +kernel) rfl (Nat.le_of_ble_eq_true rfl) (Nat.le_of_ble_eq_true rfl) (Nat.le_of_ble_eq_true rfl) (Nat.le_of_ble_eq_true rfl) ?_
      exact fun m hm => ⟨rfl, m, hm, rfl⟩
/-- the row's first k are values over the span -/
def gfv (n q : Nat) (f row S : Nat → Nat) (k i : Nat) : Nat := if i < k then gvl n q f (S i) else row i
theorem gfv_s {n q k : Nat} {f row S : Nat → Nat} : (fun i => if i = k then gvl n q f (S k) else gfv n q f row S k i) = gfv n q f row S (k + 1) := by
  funext i
  unfold gfv
  by_cases h : i = k
  · rw [if_pos h, if_pos (by omega), h]
  · rw [if_neg h]
    by_cases h2 : i < k
    · rw [if_pos h2, if_pos (by omega)]
    · rw [if_neg h2, if_neg (by omega)]
theorem gfv_0 {n q : Nat} {f row S : Nat → Nat} : gfv n q f row S 0 = row := by
  funext i
  unfold gfv
  rw [if_neg (by omega)]
set_option maxHeartbeats 4000000 in
set_option maxRecDepth 100000 in
theorem k9_forth_loop (g : bw_G) {A0 : bw_H} {x n p gg rn mn pn sn b cu su : Nat} {f row S : Nat → Nat} {w : Value} (hG : GFg n p gg) (hp : bw_has A0 (ppl g b 65 f w)) (hf : pok n 65 f) (hb : x + 34 ≤ b) (hSl : ∀ i, S i < 2 ^ n) (hsn : sn ≤ 64) (hcu : cu ≤ 20) (hsu : su ≤ 200) :
    ∀ (d k : Nat), k + d = sn → ∀ A : bw_H, bw_has A ((x, xob x n rn mn pn sn) :: (x + 5, bw_an g 130 (gfv n (2 ^ n ||| p) f row S k)) :: (x + 8, bw_an g 64 S) :: fcl g n p gg (x + 9)) → bw_sm [x, x + 5] A0 A →
      bw_W g (bw_rm 8 20 200) mX9_forth (bw_pm (fun y A' => y = nI sn ∧ bw_sm [x, x + 5] A0 A' ∧ bw_has A' [(x, xob x n sn mn pn sn), (x + 5, bw_an g 130 (gfv n (2 ^ n ||| p) f row S sn))])) cu su 12 [(0, .ref x), (2, .ref b), (3, .int (nI k))] [] A := by
  intro d
  induction d with
  | zero =>
    intro k hk A hC hS
    have hk : k = sn := by omega
    subst hk
    refine bw_iload_n 13 dX9_forth_12 rfl rfl ?_
    refine bw_aload_n 14 dX9_forth_13 rfl rfl ?_
    refine bw_get 17 dX9_forth_14 rfl lX9_326 (hC.at 0 rfl) rfl ?_
    refine bw_icmp_ge 43 20 dX9_forth_17 rfl rfl (fun c17 => ?_) (fun c17 => ?_)
    · refine bw_aload_n 44 dX9_forth_43 rfl rfl ?_
      refine bw_aload_n 45 dX9_forth_44 rfl rfl ?_
      refine bw_get 48 dX9_forth_45 rfl lX9_326 (hC.at 0 rfl) rfl ?_
      refine bw_putU 51 dX9_forth_48 rfl pX9_135 (hC.at 0 rfl) rfl rfl (Nat.le_of_ble_eq_true rfl) (fun A hU => ?_)
      have hC := hC.upd 0 rfl hU
      have hS := hS.upd hU (by simp)
      clear hU
      refine bw_aload_n 52 dX9_forth_51 rfl rfl ?_
      refine bw_get 55 dX9_forth_52 rfl lX9_135 (hC.at 0 rfl) rfl ?_
      refine bw_iret dX9_forth_55 rfl (show cu ≤ 20 by omega) (show su ≤ 200 by omega) ?_
      exact ⟨_, rfl, rfl, hS, hC.sub [0, 1] (by decide) rfl⟩
    · exact absurd (Int32.le_refl _) c17
  | succ d ih =>
    intro k hk A hC hS
    refine bw_iload_n 13 dX9_forth_12 rfl rfl ?_
    refine bw_aload_n 14 dX9_forth_13 rfl rfl ?_
    refine bw_get 17 dX9_forth_14 rfl lX9_326 (hC.at 0 rfl) rfl ?_
    refine bw_icmp_ge 43 20 dX9_forth_17 rfl rfl (fun c17 => ?_) (fun c17 => ?_)
    · exact absurd c17 (nI_ge (by omega) (by omega))
    · skip
      refine bw_aload_n 21 dX9_forth_20 rfl rfl ?_
      refine bw_get 24 dX9_forth_21 rfl lX9_21 (hC.at 0 rfl) rfl ?_
      refine bw_iload_n 25 dX9_forth_24 rfl rfl ?_
      refine bw_aload_n 26 dX9_forth_25 rfl rfl ?_
      refine bw_aload_n 27 dX9_forth_26 rfl rfl ?_
      refine bw_aload_n 28 dX9_forth_27 rfl rfl ?_
      refine bw_get 31 dX9_forth_28 rfl lX9_35 (hC.at 0 rfl) rfl ?_
      refine bw_iload_n 32 dX9_forth_31 rfl rfl ?_
      refine bw_ialdN 33 dX9_forth_32 rfl (hC.at 2 rfl) (by omega) (by omega) ?_
      refine bw_cVi 36 dX9_forth_33 rfl vX9_269 (c9_valueOf g hG (bw_has.ap (ws := (x, xob x n rn mn pn sn) :: fcl g n p gg (x + 9)) (hC.sub [0, 3, 4] (by decide) rfl) (hp.frm hS (by simp <;> omega)) (by simp <;> omega)) hf (hSl k)) (hC.at 0 rfl) rfl rfl (Nat.le_of_ble_eq_true rfl) ⟨(Nat.le_of_ble_eq_true rfl), (Nat.le_of_ble_eq_true rfl)⟩ (show cu ≤ 20 by omega) (show su ≤ 200 by omega) ?_
      refine bw_iastN 37 dX9_forth_36 rfl (hC.at 1 rfl) (by omega) (by omega) (G := gfv n (2 ^ n ||| p) f row S (k + 1)) (gfv_s) (fun A hU => ?_)
      have hC := hC.upd 1 rfl hU
      have hS := hS.upd hU (by simp)
      clear hU
      refine bw_iincN (1) 40 dX9_forth_37 rfl rfl (by decide) (by decide) ?_
      refine bw_goto 12 dX9_forth_40 rfl ?_
      refine bw_loc _ ?_ (ih (k + 1) (by omega) A hC hS)
      exact ⟨rfl, rfl, congrArg (fun x => some (Value.int x)) (nI_1 ( k )), trivial⟩
set_option maxHeartbeats 4000000 in
set_option maxRecDepth 100000 in
theorem k9_forth (g : bw_G) {A : bw_H} {x n p gg rn mn pn sn b k : Nat} {PA : Nat → Option Nat} {f row S : Nat → Nat} {w : Value} (hG : GFg n p gg) (hC : bw_has A ((x, xob x n rn mn pn sn) :: (x + 7, bw_aq g 4 40 PA) :: (x + 5, bw_an g 130 row) :: (x + 8, bw_an g 64 S) :: fcl g n p gg (x + 9))) (hp : bw_has A (ppl g b 65 f w)) (hf : pok n 65 f) (hb : x + 34 ≤ b) (hSl : ∀ i, S i < 2 ^ n) (hsn : sn ≤ 64) (h0 : sn ≠ 0) (hk : k < pn) (hm : pn ≤ 40) (ha : PA k = some b) : bw_C g (bw_rm 8 20 200) mX9_forth [.ref x, .int (nI k)] A (bw_pm (fun y A' => y = nI sn ∧ bw_sm [x, x + 5] A A' ∧ bw_has A' [(x, xob x n sn mn pn sn), (x + 5, bw_an g 130 (gfv n (2 ^ n ||| p) f row S sn))])) := by
  refine bw_C.of (by decide) (Nat.le_of_ble_eq_true rfl) rfl ?_
  refine bw_aload_n 1 dX9_forth_0 rfl rfl ?_
  refine bw_iload_n 2 dX9_forth_1 rfl rfl ?_
  refine bw_cVr 5 dX9_forth_2 rfl vX9_257 (c9_pa g (hC.sub [0, 1] (by decide) rfl) hk hm ha) (hC.at 0 rfl) rfl rfl (Nat.le_of_ble_eq_true rfl) ⟨(Nat.le_of_ble_eq_true rfl), (Nat.le_of_ble_eq_true rfl)⟩ (Nat.le_of_ble_eq_true rfl) (Nat.le_of_ble_eq_true rfl) ?_
  refine bw_astore_n 6 dX9_forth_5 rfl (by decide) ?_
  refine bw_aload_n 7 dX9_forth_6 rfl rfl ?_
  refine bw_cVv 10 dX9_forth_7 rfl vX9_332 (c9_nS g (hC.sub [0] (by decide) rfl) h0 hsn) (hC.at 0 rfl) rfl rfl (Nat.le_of_ble_eq_true rfl) ⟨(Nat.le_of_ble_eq_true rfl), (Nat.le_of_ble_eq_true rfl)⟩ (Nat.le_of_ble_eq_true rfl) (Nat.le_of_ble_eq_true rfl) (fun A hP => ?_)
  subst hP
  refine bw_iconst (0) 11 dX9_forth_10 (by decide) rfl ?_
  refine bw_eqi (y := nI 0) rfl ?_
  refine bw_istore_n 12 dX9_forth_11 rfl (by decide) ?_
  refine bw_loc _ ?_ (k9_forth_loop g hG hp hf hb hSl hsn ?_ ?_ sn 0 (by omega) A (by rw [gfv_0]; exact hC.sub [0, 2, 3, 4, 5] (by decide) rfl) bw_sm.rf)
  · exact ⟨rfl, rfl, rfl, trivial⟩
  all_goals exact Nat.le_of_ble_eq_true rfl
theorem k9_forthY (g : bw_G) {A : bw_H} {x n rn mn pn sn b k : Nat} {PA : Nat → Option Nat} (hC : bw_has A [(x, xob x n rn mn pn sn), (x + 7, bw_aq g 4 40 PA)]) (hk : k < pn) (hm : pn ≤ 40) (ha : PA k = some b) (h : sn = 0) : bw_C g (bw_rm 8 20 200) mX9_forth [.ref x, .int (nI k)] A (bw_pz eIS A) := by
  refine bw_C.of (by decide) (Nat.le_of_ble_eq_true rfl) rfl ?_
  refine bw_aload_n 1 dX9_forth_0 rfl rfl ?_
  refine bw_iload_n 2 dX9_forth_1 rfl rfl ?_
  refine bw_cVr 5 dX9_forth_2 rfl vX9_257 (c9_pa g (hC.sub [0, 1] (by decide) rfl) hk hm ha) (hC.at 0 rfl) rfl rfl (Nat.le_of_ble_eq_true rfl) ⟨(Nat.le_of_ble_eq_true rfl), (Nat.le_of_ble_eq_true rfl)⟩ (Nat.le_of_ble_eq_true rfl) (Nat.le_of_ble_eq_true rfl) ?_
  refine bw_astore_n 6 dX9_forth_5 rfl (by decide) ?_
  refine bw_aload_n 7 dX9_forth_6 rfl rfl ?_
  refine bw_cVz 10 dX9_forth_7 rfl vX9_332 (c9_nSX g (hC.sub [0] (by decide) rfl) h) (hC.at 0 rfl) rfl rfl (Nat.le_of_ble_eq_true rfl) ⟨(Nat.le_of_ble_eq_true rfl), (Nat.le_of_ble_eq_true rfl)⟩ (Nat.le_of_ble_eq_true rfl) (Nat.le_of_ble_eq_true rfl) rfl ?_
  exact fun m hm => ⟨rfl, m, hm, rfl⟩
theorem k9_forthX (g : bw_G) {A : bw_H} {x n rn mn pn sn : Nat} {a : Int32} (hC : bw_has A [(x, xob x n rn mn pn sn)]) (h : ¬ kI pn a) : bw_C g (bw_rm 8 20 200) mX9_forth [.ref x, .int a] A (bw_pz eIO A) := by
  refine bw_C.of (by decide) (Nat.le_of_ble_eq_true rfl) rfl ?_
  refine bw_aload_n 1 dX9_forth_0 rfl rfl ?_
  refine bw_iload_n 2 dX9_forth_1 rfl rfl ?_
  refine bw_cVz 5 dX9_forth_2 rfl vX9_257 (c9_paX g hC h) (hC.at 0 rfl) rfl rfl (Nat.le_of_ble_eq_true rfl) ⟨(Nat.le_of_ble_eq_true rfl), (Nat.le_of_ble_eq_true rfl)⟩ (Nat.le_of_ble_eq_true rfl) (Nat.le_of_ble_eq_true rfl) rfl ?_
  exact fun m hm => ⟨rfl, m, hm, rfl⟩
