/-! the class's calls: often, polynomial, multiply -/
/-- how often x + v is taken out -/
def gof (n q v : Nat) : Nat → (Nat → Nat) → Nat → Nat
  | 0, _, c => c
  | r + 1, h, c => if gtk n q v (pd h - 1) h 0 ≠ 0 then c else gof n q v r (fun i => gtk n q v (pd h - 1) h (i + 1)) (c + 1)
theorem gof_le {n q v : Nat} : ∀ (r : Nat) (h : Nat → Nat) (c : Nat), gof n q v r h c ≤ c + r
  | 0, _, c => Nat.le_refl c
  | r + 1, h, c => by
    show (if _ then c else _) ≤ _
    split
    · omega
    · have := gof_le (n := n) (q := q) (v := v) r (fun i => gtk n q v (pd h - 1) h (i + 1)) (c + 1)
      omega
theorem gtk_ok {n q v N r : Nat} (hG : GFp n q) {h : Nat → Nat} (hh : pok n N h) (hN : N ≤ 200) (hp : pd h = r + 1) : pok n N (fun i => gtk n q v (pd h - 1) h (i + 1)) ∧ pd (fun i => gtk n q v (pd h - 1) h (i + 1)) = r := by
  have hl := hh.le hN
  have hz : ∀ i, r ≤ i → gtk n q v (pd h - 1) h (i + 1) = 0 := fun i hi => by
    rw [gtk_up _ (by omega)]
    exact hh.z hN _ (by omega)
  refine ⟨⟨fun i hi => hz i (by omega), fun i => gtk_lt hG _ hh.2 _⟩, pd_eq hz (fun hr => ?_) (by omega)⟩
  rw [gtk_up _ (by omega), show r - 1 + 1 = pd h - 1 by omega]
  exact pd_top (by omega)
set_option maxHeartbeats 4000000 in
set_option maxRecDepth 100000 in
theorem k9_often_loop (g : bw_G) {A0 : bw_H} {x n p gg rn mn pn sn b v D cu su : Nat} {f : Nat → Nat} {w : Value} (hG : GFg n p gg) (hp : bw_has A0 (ppl g b 65 f w)) (hb : x + 34 ≤ b) (hD : pd f = D + 1) (hD65 : D < 65) (hv : v < 2 ^ n) (hcu : cu ≤ 20) (hsu : su ≤ 200) :
    ∀ (r : Nat) (h : Nat → Nat) (k : Nat), k + r = D → pok n 129 h → pd h = r + 1 → ∀ A : bw_H, bw_has A ((x, xob x n rn mn pn sn) :: (ppl g (x + 1) 129 h .null ++ dvl g n p gg (x + 33) (x + 9))) → bw_sm [x + 1, x + 2] A0 A →
      bw_W g (bw_rm 8 20 200) mX9_often (bw_pm (fun y A' => y = nI (gof n (2 ^ n ||| p) v r h k) ∧ bw_sm [x + 1, x + 2] A0 A' ∧ ∃ fw mw, pwk 129 fw mw ∧ bw_has A' (pcl g (x + 1) 129 fw mw .null))) cu su 31 [(0, .ref x), (2, .int (nI v)), (3, .ref b), (4, .int (nI k))] [] A := by
  intro r
  induction r with
  | zero =>
    intro h k hk hh hph A hC hS
    have hkD : D = k := by omega
    subst hkD
    refine bw_iload 33 dX9_often_31 rfl rfl ?_
    refine bw_aload_n 34 dX9_often_33 rfl rfl ?_
    refine bw_get 37 dX9_often_34 rfl lX9_261 (((hp.frm hS (by simp <;> omega)).at 0 rfl)) rfl ?_
    refine bw_eqi (show tI (pd f) = nI D by rw [hD, tI_s]) ?_
    refine bw_icmp_ge 61 40 dX9_often_37 rfl rfl (fun c37 => ?_) (fun c37 => ?_)
    · refine bw_iload 63 dX9_often_61 rfl rfl ?_
      refine bw_iret dX9_often_63 rfl (show cu ≤ 20 by omega) (show su ≤ 200 by omega) ?_
      exact ⟨_, rfl, rfl, hS, h, pd h, hh.pwk (by omega), hC.sub [1, 2] (by decide) rfl⟩
    · exact absurd (Int32.le_refl _) c37
  | succ r ih =>
    intro h k hk hh hph A hC hS
    have hkD : k < D := by omega
    obtain ⟨t1, t2⟩ := gtk_ok (q := 2 ^ n ||| p) (v := v) hG.2.2.1 hh (by omega) hph
    refine bw_iload 33 dX9_often_31 rfl rfl ?_
    refine bw_aload_n 34 dX9_often_33 rfl rfl ?_
    refine bw_get 37 dX9_often_34 rfl lX9_261 (((hp.frm hS (by simp <;> omega)).at 0 rfl)) rfl ?_
    refine bw_eqi (show tI (pd f) = nI D by rw [hD, tI_s]) ?_
    refine bw_icmp_ge 61 40 dX9_often_37 rfl rfl (fun c37 => ?_) (fun c37 => ?_)
    · exact absurd c37 (nI_ge hkD (by omega))
    · skip
      refine bw_aload_n 41 dX9_often_40 rfl rfl ?_
      refine bw_get 44 dX9_often_41 rfl lX9_66 (hC.at 0 rfl) rfl ?_
      refine bw_aload_n 45 dX9_often_44 rfl rfl ?_
      refine bw_get 48 dX9_often_45 rfl lX9_14 (hC.at 0 rfl) rfl ?_
      refine bw_iload_n 49 dX9_often_48 rfl rfl ?_
      refine bw_cVm 52 dX9_often_49 rfl vX9_307 (c0_takeOut g hG (hC.sub [3, 4, 5, 1, 2] (by decide) rfl) (by omega) hh (by omega) hv) (hC.at 3 rfl) rfl rfl (Nat.le_of_ble_eq_true rfl) ⟨(Nat.le_of_ble_eq_true rfl), (Nat.le_of_ble_eq_true rfl)⟩ (show cu ≤ 20 by omega) (show su ≤ 200 by omega) (fun x A hP => ?_)
      skip
      refine bw_if_eq 61 55 dX9_often_52 rfl rfl (fun c52 => ?_) (fun c52 => ?_)
      · obtain ⟨h1, h2, h3⟩ := hP.resolve_right (fun h => by rw [h.2.1] at c52; exact absurd c52 (by decide))
        have hy : nI k = nI (gof n (2 ^ n ||| p) v (r + 1) h k) := by
          show _ = nI (if _ then k else _)
          rw [if_pos h1]
        have hS := hS.po h3 (by simp) (by simp)
        have hC := hC.po 1 2 rfl rfl h3
        refine bw_iload 63 dX9_often_61 rfl rfl ?_
        refine bw_iret dX9_often_63 rfl (show cu ≤ 20 by omega) (show su ≤ 200 by omega) ?_
        exact ⟨_, rfl, hy, hS, _, pd h, ⟨by omega, fun i hi => by rw [gtk_up _ (by omega)]; exact hh.z (by omega) i hi⟩, hC.sub [1, 2] (by decide) rfl⟩
      · obtain ⟨h1, h2, h3⟩ := hP.resolve_left (fun h => c52 h.2.1)
        have hy : gof n (2 ^ n ||| p) v (r + 1) h k = gof n (2 ^ n ||| p) v r (fun i => gtk n (2 ^ n ||| p) v (pd h - 1) h (i + 1)) (k + 1) := by
          show (if _ then k else _) = _
          rw [if_neg (fun hx => hx h1)]
        have hS := hS.po h3 (by simp) (by simp)
        have hC := hC.po 1 2 rfl rfl h3
        refine bw_iincN (1) 58 dX9_often_55 rfl rfl (by decide) (by decide) ?_
        refine bw_goto 31 dX9_often_58 rfl ?_
        rw [hy]
        refine bw_loc _ ?_ (ih _ (k + 1) (by omega) t1 (by omega) A hC hS)
        exact ⟨rfl, rfl, rfl, congrArg (fun x => some (Value.int x)) (nI_1 ( k )), trivial⟩
set_option maxHeartbeats 4000000 in
set_option maxRecDepth 100000 in
theorem k9_often (g : bw_G) {A0 : bw_H} {x n p gg rn mn pn sn b k v mw : Nat} {PA : Nat → Option Nat} {f fw : Nat → Nat} {w : Value} (hG : GFg n p gg) (hC : bw_has A0 ((x, xob x n rn mn pn sn) :: (x + 7, bw_aq g 4 40 PA) :: (pcl g (x + 1) 129 fw mw .null ++ dvl g n p gg (x + 33) (x + 9)))) (hww : pwk 129 fw mw) (hp : bw_has A0 (ppl g b 65 f w)) (hf : pok n 65 f) (h0 : pd f ≠ 0) (hb : x + 34 ≤ b) (hk : k < pn) (hm : pn ≤ 40) (ha : PA k = some b) (hv : v < 2 ^ n) : bw_C g (bw_rm 8 20 200) mX9_often [.ref x, .int (nI k), .int (nI v)] A0 (bw_pm (fun y A' => y = nI (gof n (2 ^ n ||| p) v (pd f - 1) f 0) ∧ bw_sm [x + 1, x + 2] A0 A' ∧ ∃ fw mw, pwk 129 fw mw ∧ bw_has A' (pcl g (x + 1) 129 fw mw .null))) := by
  have h1 := hf.le (by omega)
  have hS : bw_sm [x + 1, x + 2] A0 A0 := bw_sm.rf
  refine bw_C.of (by decide) (Nat.le_of_ble_eq_true rfl) rfl ?_
  refine bw_aload_n 1 dX9_often_0 rfl rfl ?_
  refine bw_iload_n 2 dX9_often_1 rfl rfl ?_
  refine bw_cVr 5 dX9_often_2 rfl vX9_257 (c9_pa g (hC.sub [0, 1] (by decide) rfl) hk hm ha) (hC.at 0 rfl) rfl rfl (Nat.le_of_ble_eq_true rfl) ⟨(Nat.le_of_ble_eq_true rfl), (Nat.le_of_ble_eq_true rfl)⟩ (Nat.le_of_ble_eq_true rfl) (Nat.le_of_ble_eq_true rfl) ?_
  refine bw_astore_n 6 dX9_often_5 rfl (by decide) ?_
  refine bw_aload_n 7 dX9_often_6 rfl rfl ?_
  refine bw_iload_n 8 dX9_often_7 rfl rfl ?_
  refine bw_cVv 11 dX9_often_8 rfl vX9_100 (c9_nm g (hC.sub [0, 5] (by decide) rfl) (mI_nI hG.p16 hv)) (hC.at 0 rfl) rfl rfl (Nat.le_of_ble_eq_true rfl) ⟨(Nat.le_of_ble_eq_true rfl), (Nat.le_of_ble_eq_true rfl)⟩ (Nat.le_of_ble_eq_true rfl) (Nat.le_of_ble_eq_true rfl) (fun A hP => ?_)
  subst hP
  refine bw_aload_n 12 dX9_often_11 rfl rfl ?_
  refine bw_get 15 dX9_often_12 rfl lX9_261 (((hp.frm hS (by simp <;> omega)).at 0 rfl)) rfl ?_
  refine bw_if_ge 20 18 dX9_often_15 rfl rfl (fun c15 => ?_) (fun c15 => ?_)
  · refine bw_aload_n 21 dX9_often_20 rfl rfl ?_
    refine bw_get 24 dX9_often_21 rfl lX9_14 (hC.at 0 rfl) rfl ?_
    refine bw_aload_n 25 dX9_often_24 rfl rfl ?_
    refine bw_cVv 28 dX9_often_25 rfl vX9_273 (c7_copyP g hG.p16 (bw_has.ap (ws := pcl g (x + 1) 129 fw mw .null) (hC.sub [2, 3] (by decide) rfl) (hp.frm hS (by simp <;> omega)) (by simp <;> omega)) (by omega) (by omega) hww hf (by omega)) (hC.at 2 rfl) rfl rfl (Nat.le_of_ble_eq_true rfl) ⟨(Nat.le_of_ble_eq_true rfl), (Nat.le_of_ble_eq_true rfl)⟩ (Nat.le_of_ble_eq_true rfl) (Nat.le_of_ble_eq_true rfl) (fun A hP => ?_)
    have hC := hC.po 2 3 rfl rfl hP
    have hS := hS.po hP (by simp) (by simp)
    refine bw_iconst (0) 29 dX9_often_28 (by decide) rfl ?_
    refine bw_eqi (y := nI 0) rfl ?_
    refine bw_istore 31 dX9_often_29 rfl (by decide) ?_
    refine bw_loc _ ?_ (k9_often_loop g hG hp hb (D := pd f - 1) (by omega) (by omega) hv ?_ ?_ (pd f - 1) f 0 (by omega) (hf.mono (by omega)) (by omega) A (hC.sub [0, 2, 3, 4, 5, 6] (by decide) rfl) hS)
    · exact ⟨rfl, rfl, rfl, rfl, trivial⟩
    all_goals exact Nat.le_of_ble_eq_true rfl
  · exact absurd (Int32.not_lt.mp (fun hx => h0 ((tI_lt0 (by omega)).mp hx))) c15
theorem k9_often0 (g : bw_G) {A : bw_H} {x n p gg rn mn pn sn b k v : Nat} {PA : Nat → Option Nat} {f : Nat → Nat} {w : Value} (hn : 2 ^ n ≤ 65536) (hC : bw_has A [(x, xob x n rn mn pn sn), (x + 7, bw_aq g 4 40 PA), (x + 9, fob n p gg (x + 9))]) (hp : bw_has A (ppl g b 65 f w)) (h0 : pd f = 0) (hk : k < pn) (hm : pn ≤ 40) (ha : PA k = some b) (hv : v < 2 ^ n) : bw_C g (bw_rm 8 20 200) mX9_often [.ref x, .int (nI k), .int (nI v)] A (bw_pi (-1) A) := by
  refine bw_C.of (by decide) (Nat.le_of_ble_eq_true rfl) rfl ?_
  refine bw_aload_n 1 dX9_often_0 rfl rfl ?_
  refine bw_iload_n 2 dX9_often_1 rfl rfl ?_
  refine bw_cVr 5 dX9_often_2 rfl vX9_257 (c9_pa g (hC.sub [0, 1] (by decide) rfl) hk hm ha) (hC.at 0 rfl) rfl rfl (Nat.le_of_ble_eq_true rfl) ⟨(Nat.le_of_ble_eq_true rfl), (Nat.le_of_ble_eq_true rfl)⟩ (Nat.le_of_ble_eq_true rfl) (Nat.le_of_ble_eq_true rfl) ?_
  refine bw_astore_n 6 dX9_often_5 rfl (by decide) ?_
  refine bw_aload_n 7 dX9_often_6 rfl rfl ?_
  refine bw_iload_n 8 dX9_often_7 rfl rfl ?_
  refine bw_cVv 11 dX9_often_8 rfl vX9_100 (c9_nm g (hC.sub [0, 2] (by decide) rfl) (mI_nI hn hv)) (hC.at 0 rfl) rfl rfl (Nat.le_of_ble_eq_true rfl) ⟨(Nat.le_of_ble_eq_true rfl), (Nat.le_of_ble_eq_true rfl)⟩ (Nat.le_of_ble_eq_true rfl) (Nat.le_of_ble_eq_true rfl) (fun A hP => ?_)
  subst hP
  refine bw_aload_n 12 dX9_often_11 rfl rfl ?_
  refine bw_get 15 dX9_often_12 rfl lX9_261 ((hp.at 0 rfl)) rfl ?_
  refine bw_if_ge 20 18 dX9_often_15 rfl rfl (fun c15 => ?_) (fun c15 => ?_)
  · exact absurd ((tI_lt0 (by omega)).mpr h0) (Int32.not_lt.mpr c15)
  · refine bw_iconst (-1) 19 dX9_often_18 (by decide) rfl ?_
    refine bw_iret dX9_often_19 rfl (Nat.le_of_ble_eq_true rfl) (Nat.le_of_ble_eq_true rfl) ?_
    exact ⟨rfl, rfl⟩
theorem k9_oftenY (g : bw_G) {A : bw_H} {x n p gg rn mn pn sn b k : Nat} {v : Int32} {PA : Nat → Option Nat} (hC : bw_has A [(x, xob x n rn mn pn sn), (x + 7, bw_aq g 4 40 PA), (x + 9, fob n p gg (x + 9))]) (hk : k < pn) (hm : pn ≤ 40) (ha : PA k = some b) (h : ¬ mI n v) : bw_C g (bw_rm 8 20 200) mX9_often [.ref x, .int (nI k), .int v] A (bw_pz eIA A) := by
  refine bw_C.of (by decide) (Nat.le_of_ble_eq_true rfl) rfl ?_
  refine bw_aload_n 1 dX9_often_0 rfl rfl ?_
  refine bw_iload_n 2 dX9_often_1 rfl rfl ?_
  refine bw_cVr 5 dX9_often_2 rfl vX9_257 (c9_pa g (hC.sub [0, 1] (by decide) rfl) hk hm ha) (hC.at 0 rfl) rfl rfl (Nat.le_of_ble_eq_true rfl) ⟨(Nat.le_of_ble_eq_true rfl), (Nat.le_of_ble_eq_true rfl)⟩ (Nat.le_of_ble_eq_true rfl) (Nat.le_of_ble_eq_true rfl) ?_
  refine bw_astore_n 6 dX9_often_5 rfl (by decide) ?_
  refine bw_aload_n 7 dX9_often_6 rfl rfl ?_
  refine bw_iload_n 8 dX9_often_7 rfl rfl ?_
  refine bw_cVz 11 dX9_often_8 rfl vX9_100 (c9_nmX g (hC.sub [0, 2] (by decide) rfl) h) (hC.at 0 rfl) rfl rfl (Nat.le_of_ble_eq_true rfl) ⟨(Nat.le_of_ble_eq_true rfl), (Nat.le_of_ble_eq_true rfl)⟩ (Nat.le_of_ble_eq_true rfl) (Nat.le_of_ble_eq_true rfl) rfl ?_
  exact fun m hm => ⟨rfl, m, hm, rfl⟩
theorem k9_oftenX (g : bw_G) {A : bw_H} {x n rn mn pn sn : Nat} {a v : Int32} (hC : bw_has A [(x, xob x n rn mn pn sn)]) (h : ¬ kI pn a) : bw_C g (bw_rm 8 20 200) mX9_often [.ref x, .int a, .int v] A (bw_pz eIO A) := by
  refine bw_C.of (by decide) (Nat.le_of_ble_eq_true rfl) rfl ?_
  refine bw_aload_n 1 dX9_often_0 rfl rfl ?_
  refine bw_iload_n 2 dX9_often_1 rfl rfl ?_
  refine bw_cVz 5 dX9_often_2 rfl vX9_257 (c9_paX g hC h) (hC.at 0 rfl) rfl rfl (Nat.le_of_ble_eq_true rfl) ⟨(Nat.le_of_ble_eq_true rfl), (Nat.le_of_ble_eq_true rfl)⟩ (Nat.le_of_ble_eq_true rfl) (Nat.le_of_ble_eq_true rfl) rfl ?_
  exact fun m hm => ⟨rfl, m, hm, rfl⟩
theorem gtp_ne {f : Nat → Nat} {m : Nat} (h : f m ≠ 0) : gtp f (m + 1) = m + 1 := if_neg h
theorem gtp_eq0 {f : Nat → Nat} {m : Nat} (h : f m = 0) : gtp f (m + 1) = gtp f m := if_pos h
set_option maxHeartbeats 4000000 in
set_option maxRecDepth 100000 in
theorem k9_polynomial_loop (g : bw_G) {A : bw_H} {x n rn mn pn sn cu su : Nat} {row : Nat → Nat} {Q : bw_O → bw_H → Prop} (hn : 2 ^ n ≤ 65536) (hrow : ∀ i, row i < 2 ^ n) (hrn : rn ≤ 130) (hC : bw_has A [(x, xob x n rn mn pn sn), (x + 5, bw_an g 130 row)]) (kk : bw_W g (bw_rm 8 20 200) mX9_polynomial Q cu su 26 [(0, .ref x), (1, .int (tI (gtp row rn)))] [] A) :
    ∀ j, j ≤ rn → gtp row j = gtp row rn → bw_W g (bw_rm 8 20 200) mX9_polynomial Q cu su 7 [(0, .ref x), (1, .int (tI j))] [] A := by
  intro j
  induction j with
  | zero =>
    intro hj he
    refine bw_iload_n 8 dX9_polynomial_7 rfl rfl ?_
    refine bw_if_lt 26 11 dX9_polynomial_8 rfl rfl (fun c8 => ?_) (fun c8 => ?_)
    · have he0 : (0 : Nat) = gtp row rn := he
      rw [← he0] at kk
      exact kk
    · exact absurd ((tI_lt0 (by omega)).mpr rfl) c8
  | succ j ih =>
    intro hj he
    refine bw_iload_n 8 dX9_polynomial_7 rfl rfl ?_
    refine bw_if_lt 26 11 dX9_polynomial_8 rfl rfl (fun c8 => ?_) (fun c8 => ?_)
    · exact absurd ((tI_lt0 (by omega)).mp c8) (by omega)
    · skip
      have hts : tI (j + 1) = nI j := tI_s j
      refine bw_aload_n 12 dX9_polynomial_11 rfl rfl ?_
      refine bw_get 15 dX9_polynomial_12 rfl lX9_21 (hC.at 0 rfl) rfl ?_
      refine bw_iload_n 16 dX9_polynomial_15 rfl rfl ?_
      refine bw_eqi (hts) ?_
      refine bw_ialdN 17 dX9_polynomial_16 rfl (hC.at 1 rfl) (by omega) (by omega) ?_
      refine bw_if_ne 26 20 dX9_polynomial_17 rfl rfl (fun c17 => ?_) (fun c17 => ?_)
      · have h0 : row j ≠ 0 := fun h => c17 (by rw [h]; rfl)
        rw [gtp_ne h0] at he
        rw [← he] at kk
        exact kk
      · have h0 : row j = 0 := (xn_eq0 (by have := hrow j; omega)).mp c17
        rw [gtp_eq0 h0] at he
        refine bw_iincN (-1) 23 dX9_polynomial_20 rfl rfl (by decide) (by decide) ?_
        refine bw_goto 7 dX9_polynomial_23 rfl ?_
        refine bw_loc _ ?_ (ih (by omega) he)
        exact ⟨rfl, congrArg (fun x => some (Value.int x)) (show tI (j + 1) + -1 = tI j by rw [tI_s]; rfl), trivial⟩
theorem gcut_ok {n c : Nat} {f : Nat → Nat} (hf : ∀ i, f i < 2 ^ n) : pok n c (gcut f c) := ⟨fun i hi => if_neg (by omega), fun i => by
  unfold gcut
  split
  · exact hf i
  · exact Nat.two_pow_pos n⟩
set_option maxHeartbeats 4000000 in
set_option maxRecDepth 100000 in
theorem k9_polynomial (g : bw_G) {A0 : bw_H} {x n p gg rn mn pn sn a mw : Nat} {PA : Nat → Option Nat} {row fw : Nat → Nat} (hG : GFg n p gg) (hC : bw_has A0 ((x, xob x n rn mn pn sn) :: (x + 7, bw_aq g 4 40 PA) :: (pcl g (x + 1) 129 fw mw .null ++ [(x + 5, bw_an g 130 row)]))) (hww : pwk 129 fw mw) (hrow : ∀ i, row i < 2 ^ n) (hrn : rn ≤ 130) (hz : A0.1 = a) (hxa : x + 11 ≤ a) (h65 : gtp row rn ≤ 65) (hm : pn < 40) : bw_C g (bw_rm 8 20 200) mX9_polynomial [.ref x] A0 (bw_pm (kqP g x n 0 mn pn sn a PA (gcut row (gtp row rn)) [x, x + 7, x + 1, x + 2] A0)) := by
  have hco : pok n 65 (gcut row (gtp row rn)) := (gcut_ok hrow).mono h65
  have hW : bw_ff a [x, x + 7, x + 1, x + 2] A0 A0 := bw_ff.rf
  refine bw_C.of (by decide) (Nat.le_of_ble_eq_true rfl) rfl ?_
  refine bw_aload_n 1 dX9_polynomial_0 rfl rfl ?_
  refine bw_get 4 dX9_polynomial_1 rfl lX9_135 (hC.at 0 rfl) rfl ?_
  refine bw_iconst (1) 5 dX9_polynomial_4 (by decide) rfl ?_
  refine bw_isub 6 dX9_polynomial_5 rfl ?_
  refine bw_eqi (tI_sub rn) ?_
  refine bw_istore_n 7 dX9_polynomial_6 rfl (by decide) ?_
  refine bw_loc _ ?_ (k9_polynomial_loop g hG.p16 hrow hrn (hC.sub [0, 4] (by decide) rfl) ?_ rn (Nat.le_refl _) rfl)
  · exact ⟨rfl, rfl, trivial⟩
  refine bw_iload_n 27 dX9_polynomial_26 rfl rfl ?_
  refine bw_bipush (64) 29 dX9_polynomial_27 (by decide) rfl ?_
  refine bw_icmp_le 42 32 dX9_polynomial_29 rfl rfl (fun c29 => ?_) (fun c29 => ?_)
  · refine bw_aload_n 43 dX9_polynomial_42 rfl rfl ?_
    refine bw_cVv 46 dX9_polynomial_43 rfl vX9_237 (c9_np g (hC.sub [0] (by decide) rfl) hm) (hC.at 0 rfl) rfl rfl (Nat.le_of_ble_eq_true rfl) ⟨(Nat.le_of_ble_eq_true rfl), (Nat.le_of_ble_eq_true rfl)⟩ (Nat.le_of_ble_eq_true rfl) (Nat.le_of_ble_eq_true rfl) (fun A hP => ?_)
    subst hP
    refine bw_aload_n 47 dX9_polynomial_46 rfl rfl ?_
    refine bw_get 50 dX9_polynomial_47 rfl lX9_14 (hC.at 0 rfl) rfl ?_
    refine bw_aload_n 51 dX9_polynomial_50 rfl rfl ?_
    refine bw_get 54 dX9_polynomial_51 rfl lX9_21 (hC.at 0 rfl) rfl ?_
    refine bw_iload_n 55 dX9_polynomial_54 rfl rfl ?_
    refine bw_iconst (1) 56 dX9_polynomial_55 (by decide) rfl ?_
    refine bw_iadd 57 dX9_polynomial_56 rfl ?_
    refine bw_eqi (tI_add (gtp row rn)) ?_
    refine bw_cVv 60 dX9_polynomial_57 rfl vX9_240 (c7_load g (hC.sub [2, 3, 4] (by decide) rfl) (by omega) hww.1 hww.2 (by omega) (by omega) (fun i => by have := hrow i; have := hG.p16; omega)) (hC.at 2 rfl) rfl rfl (Nat.le_of_ble_eq_true rfl) ⟨(Nat.le_of_ble_eq_true rfl), (Nat.le_of_ble_eq_true rfl)⟩ (Nat.le_of_ble_eq_true rfl) (Nat.le_of_ble_eq_true rfl) (fun A hP => ?_)
    rw [gtp_cut row (by omega)] at hP
    have hW := hW.po hP (Or.inr (by simp)) (Or.inr (by simp))
    have hz := (congrArg Prod.fst hP).trans hz
    have hC := hC.po 2 3 rfl rfl hP
    refine bw_aload_n 61 dX9_polynomial_60 rfl rfl ?_
    refine bw_iconst (0) 62 dX9_polynomial_61 (by decide) rfl ?_
    refine bw_eqi (y := nI 0) rfl ?_
    refine bw_putU 65 dX9_polynomial_62 rfl pX9_135 (hC.at 0 rfl) rfl rfl (Nat.le_of_ble_eq_true rfl) (fun A hU => ?_)
    have hC := hC.upd 0 rfl hU
    have hW := hW.upd hU (Or.inr (by simp))
    have hz := (congrArg Prod.fst hU).trans hz
    clear hU
    refine bw_aload_n 66 dX9_polynomial_65 rfl rfl ?_
    refine bw_aload_n 67 dX9_polynomial_66 rfl rfl ?_
    refine bw_get 70 dX9_polynomial_67 rfl lX9_14 (hC.at 0 rfl) rfl ?_
    refine bw_cVm 73 dX9_polynomial_70 rfl vX9_243 (c9_keepPolynomial g hG.p16 (hC.sub [0, 1, 2, 3] (by decide) rfl) (by omega) (hco.mono (by omega)) (pd_le hco.1 (by omega)) hm hz) (hC.at 0 rfl) rfl rfl (Nat.le_of_ble_eq_true rfl) ⟨(Nat.le_of_ble_eq_true rfl), (Nat.le_of_ble_eq_true rfl)⟩ (Nat.le_of_ble_eq_true rfl) (Nat.le_of_ble_eq_true rfl) (fun x A hP => ?_)
    refine bw_iret dX9_polynomial_73 rfl (Nat.le_of_ble_eq_true rfl) (Nat.le_of_ble_eq_true rfl) ?_
    exact ⟨_, rfl, kq_of hP (hC.sub [2, 3] (by decide) rfl) hW (by simp) (by omega)⟩
  · exact absurd (show tI (gtp row rn) ≤ 64 from (tI_le (b := 65) (by omega) (by omega)).mpr h65) c29
set_option maxHeartbeats 4000000 in
set_option maxRecDepth 100000 in
theorem k9_polynomialX (g : bw_G) {A : bw_H} {x n rn mn pn sn : Nat} {row : Nat → Nat} (hn : 2 ^ n ≤ 65536) (hC : bw_has A [(x, xob x n rn mn pn sn), (x + 5, bw_an g 130 row)]) (hrow : ∀ i, row i < 2 ^ n) (hrn : rn ≤ 130) (hp : pn ≤ 40) (h : 65 < gtp row rn ∨ pn = 40) : bw_C g (bw_rm 8 20 200) mX9_polynomial [.ref x] A (bw_pz eUO A) := by
  refine bw_C.of (by decide) (Nat.le_of_ble_eq_true rfl) rfl ?_
  refine bw_aload_n 1 dX9_polynomial_0 rfl rfl ?_
  refine bw_get 4 dX9_polynomial_1 rfl lX9_135 (hC.at 0 rfl) rfl ?_
  refine bw_iconst (1) 5 dX9_polynomial_4 (by decide) rfl ?_
  refine bw_isub 6 dX9_polynomial_5 rfl ?_
  refine bw_eqi (tI_sub rn) ?_
  refine bw_istore_n 7 dX9_polynomial_6 rfl (by decide) ?_
  refine bw_loc _ ?_ (k9_polynomial_loop g hn hrow hrn hC ?_ rn (Nat.le_refl _) rfl)
  · exact ⟨rfl, rfl, trivial⟩
  refine bw_iload_n 27 dX9_polynomial_26 rfl rfl ?_
  refine bw_bipush (64) 29 dX9_polynomial_27 (by decide) rfl ?_
  refine bw_icmp_le 42 32 dX9_polynomial_29 rfl rfl (fun c29 => ?_) (fun c29 => ?_)
  · have h65 : gtp row rn ≤ 65 := (tI_le (b := 65) (by have := gtp_le row rn; omega) (by omega)).mp c29
    have hm40 : pn = 40 := by omega
    refine bw_aload_n 43 dX9_polynomial_42 rfl rfl ?_
    refine bw_cVz 46 dX9_polynomial_43 rfl vX9_237 (c9_npX g (hC.sub [0] (by decide) rfl) hm40) (hC.at 0 rfl) rfl rfl (Nat.le_of_ble_eq_true rfl) ⟨(Nat.le_of_ble_eq_true rfl), (Nat.le_of_ble_eq_true rfl)⟩ (Nat.le_of_ble_eq_true rfl) (Nat.le_of_ble_eq_true rfl) rfl ?_
    exact fun m hm => ⟨rfl, m, hm, rfl⟩
  · skip
    refine bw_throw "the degree is too high" dX9_polynomial_32 dX9_polynomial_35 dX9_polynomial_36 dX9_polynomial_38 dX9_polynomial_41 tX9_138 (by decide +kernel) rfl (Nat.le_of_ble_eq_true rfl) (Nat.le_of_ble_eq_true rfl) (Nat.le_of_ble_eq_true rfl) (Nat.le_of_ble_eq_true rfl) ?_
    exact fun m hm => ⟨rfl, m, hm, rfl⟩
