/-! the reference: often -/
/-- x + v -/
def gvx (v i : Nat) : Nat := if i = 1 then 1 else if i = 0 then v else 0
theorem gvx_ok {n q v : Nat} (hG : GFp n q) (hv : v < 2 ^ n) : pok n 200 (gvx v) := ⟨fun i hi => by unfold gvx; rw [if_neg (by omega), if_neg (by omega)], fun i => by
  unfold gvx
  split
  · exact hG.one
  · split
    · exact hv
    · exact Nat.two_pow_pos n⟩
theorem gvx_pd {v : Nat} : pd (gvx v) = 2 := pd_eq (fun i hi => by unfold gvx; rw [if_neg (by omega), if_neg (by omega)]) (fun _ => by show (1 : Nat) ≠ 0; decide) (by omega)
theorem gds_tk {n q v : Nat} (hG : GFp n q) {f : Nat → Nat} (hf : ∀ i, f i < 2 ^ n) (r : Nat) : gds n q (gvx v) 1 1 f (1 + r) = fun i => if i = r then f r ^^^ gm n q (f (r + 1)) v else f i := by
  funext i
  unfold gds gam
  rw [hG.mul1 (hf _), show 1 + r - 1 = r by omega, show 1 + r = r + 1 by omega]
  by_cases h1 : i = r + 1
  · rw [if_pos h1, if_neg (by omega), h1]
  · rw [if_neg h1]
    by_cases h2 : i = r
    · rw [if_pos (by omega), if_pos h2, h2, Nat.sub_self]
      rfl
    · rw [if_neg (by omega), if_neg h2]
theorem gdl_tk {n q v : Nat} (hG : GFp n q) (hv : v < 2 ^ n) : ∀ (r : Nat) (f : Nat → Nat), (∀ i, f i < 2 ^ n) → gdl n q (gvx v) 1 1 r f = gtk n q v r f
  | 0, _, _ => rfl
  | r + 1, f, hf => by
    show gdl n q (gvx v) 1 1 r (gds n q (gvx v) 1 1 f (1 + r)) = gtk n q v r (fun i => if i = r then f r ^^^ gm n q (f (r + 1)) v else f i)
    rw [gdl_tk hG hv r _ (gds_lt hG hf), gds_tk hG hf]
theorem gqu_tk {n q v : Nat} (hG : GFp n q) (hv : v < 2 ^ n) {f : Nat → Nat} (hf : ∀ i, f i < 2 ^ n) : gqu n q f (gvx v) = fun i => gtk n q v (pd f - 1) f (i + 1) := by
  unfold gqu
  rw [gvx_pd, show gvx v (2 - 1) = 1 from rfl, gfi_1 hG, gdl_tk hG hv _ f hf]
theorem gho_tk {n q v : Nat} {f : Nat → Nat} : ∀ (j y : Nat) (F : Nat → Nat), F j = y → (∀ i, i < j → F i = f i) → gho n q f v j y = gtk n q v j F 0
  | 0, y, F, h1, _ => h1.symm
  | j + 1, y, F, h1, h2 => by
    show gho n q f v j (gm n q y v ^^^ f j) = gtk n q v j (fun i => if i = j then F j ^^^ gm n q (F (j + 1)) v else F i) 0
    refine gho_tk j _ _ ?_ (fun i hi => ?_)
    · show (if j = j then _ else _) = _
      rw [if_pos rfl, h1, h2 j (by omega), Nat.xor_comm]
    · show (if i = j then _ else _) = _
      rw [if_neg (by omega), h2 i (by omega)]
theorem gvl_tk {n q v : Nat} {f : Nat → Nat} (h0 : pd f ≠ 0) : gtk n q v (pd f - 1) f 0 = gvl n q f v := by
  unfold gvl
  obtain ⟨m, hm⟩ : ∃ m, pd f = m + 1 := ⟨pd f - 1, by omega⟩
  rw [hm]
  show _ = gho n q f v m (gm n q 0 v ^^^ f m)
  rw [gm_0, Nat.zero_xor]
  exact (gho_tk m _ f rfl (fun _ _ => rfl)).symm
set_option maxHeartbeats 4000000 in
theorem m_often_loop (g : bw_G) {A0 : bw_H} {M n p gg rn mn pn rd rs pt sn v : Nat} (hG : GFg n p gg) (hv : v < 2 ^ n) :
    ∀ (r c : Nat) (f f2 f3 : Nat → Nat), pok n 200 f → pd f = r + 1 → (∀ i, 200 ≤ i → f2 i = 0) → (∀ i, 200 ≤ i → f3 i = 0) → ∀ A : bw_H, bw_has A [(M, mdo M n p gg 0 rn mn pn rd rs pt sn), (M + 10, bw_an g 200 f), (M + 11, bw_an g 200 f2), (M + 12, bw_an g 200 f3)] → bw_sm (M :: [M + 10, M + 11, M + 12]) A0 A →
      bw_W g (bw_rm 8 0 0) mX10_often (bw_pm (fun y A' => maR M [M + 10, M + 11, M + 12] (mdo M n p gg 0 rn mn pn rd rs pt sn) (nI (gof n (2 ^ n ||| p) v r f c)) A0 y A' ∧ ∀ X ∈ [M + 10, M + 11, M + 12], mzz g A' X)) 0 0 56 [(0, .ref M), (2, .int (nI v)), (3, .int (nI c))] [] A := by
  have h16 := hG.p16
  intro r
  induction r with
  | zero =>
    intro c f f2 f3 hf hr z2 z3 A hC hS
    have hne : gvl n (2 ^ n ||| p) f v ≠ 0 := by
      rw [← gvl_tk (by omega), hr]
      have := pd_top (f := f) (by omega)
      rw [hr] at this
      exact this
    refine bw_aload_n 57 dX10_often_56 rfl rfl ?_
    refine bw_aload_n 58 dX10_often_57 rfl rfl ?_
    refine bw_get 61 dX10_often_58 rfl lX10_42 (hC.at 0 rfl) rfl ?_
    refine bw_iload_n 62 dX10_often_61 rfl rfl ?_
    refine bw_cVi 65 dX10_often_62 rfl vX10_172 (m_atX g hG (hC.sub [0, 1] (by decide) rfl) hf.2 hv) (hC.at 0 rfl) rfl rfl (Nat.le_of_ble_eq_true rfl) ⟨(Nat.le_of_ble_eq_true rfl), (Nat.le_of_ble_eq_true rfl)⟩ (Nat.le_of_ble_eq_true rfl) (Nat.le_of_ble_eq_true rfl) ?_
    refine bw_if_ne 118 68 dX10_often_65 rfl rfl (fun c65 => ?_) (fun c65 => ?_)
    · refine bw_iload_n 119 dX10_often_118 rfl rfl ?_
      refine bw_iret dX10_often_119 rfl (Nat.le_of_ble_eq_true rfl) (Nat.le_of_ble_eq_true rfl) ?_
      exact ⟨_, rfl, ⟨rfl, hS, hC.at 0 rfl⟩, mz3 (hC.at 1 rfl) (hC.at 2 rfl) (hC.at 3 rfl) hf.1 z2 z3⟩
    · exact absurd ((xn_eq0 (by have := gvl_lt hG.2.2.1 hf v; omega)).mp c65) hne
  | succ r ih =>
    intro c f f2 f3 hf hr z2 z3 A hC hS
    by_cases hz : gvl n (2 ^ n ||| p) f v = 0
    · have hy : gof n (2 ^ n ||| p) v (r + 1) f c = gof n (2 ^ n ||| p) v r (gqu n (2 ^ n ||| p) f (gvx v)) (c + 1) := by
        rw [gqu_tk hG.2.2.1 hv hf.2]
        show (if _ then c else _) = _
        rw [gvl_tk (by omega), if_neg (by simpa using hz)]
      rw [hy]
      have hq := (gqu_ok (h := gvx v) hG.2.2.1 hf (by omega)).mono (show 200 - (pd (gvx v) - 1) ≤ 200 by omega)
      have hqd : pd (gqu n (2 ^ n ||| p) f (gvx v)) = r + 1 := by
        rw [gqu_pd hG (show 200 ≤ 200 by omega) hf (gvx_ok hG.2.2.1 hv).2 (by rw [gvx_pd]; decide) (by rw [gvx_pd]; omega), gvx_pd]
        omega
      have hrs := (grs_ok (h := gvx v) hG.2.2.1 hf).mono (show pd (gvx v) - 1 ≤ 200 by rw [gvx_pd]; omega)
      refine bw_aload_n 57 dX10_often_56 rfl rfl ?_
      refine bw_aload_n 58 dX10_often_57 rfl rfl ?_
      refine bw_get 61 dX10_often_58 rfl lX10_42 (hC.at 0 rfl) rfl ?_
      refine bw_iload_n 62 dX10_often_61 rfl rfl ?_
      refine bw_cVi 65 dX10_often_62 rfl vX10_172 (m_atX g hG (hC.sub [0, 1] (by decide) rfl) hf.2 hv) (hC.at 0 rfl) rfl rfl (Nat.le_of_ble_eq_true rfl) ⟨(Nat.le_of_ble_eq_true rfl), (Nat.le_of_ble_eq_true rfl)⟩ (Nat.le_of_ble_eq_true rfl) (Nat.le_of_ble_eq_true rfl) ?_
      refine bw_if_ne 118 68 dX10_often_65 rfl rfl (fun c65 => ?_) (fun c65 => ?_)
      · exact absurd (by rw [hz]; rfl) c65
      · skip
        refine bw_aload_n 69 dX10_often_68 rfl rfl ?_
        refine bw_get 72 dX10_often_69 rfl lX10_45 (hC.at 0 rfl) rfl ?_
        refine bw_cSv 75 dX10_often_72 rfl sX10_161 (m_nothing g (hC.sub [2] (by decide) rfl) z2) rfl rfl (Nat.le_of_ble_eq_true rfl) ⟨(Nat.le_of_ble_eq_true rfl), (Nat.le_of_ble_eq_true rfl)⟩ (Nat.le_of_ble_eq_true rfl) (Nat.le_of_ble_eq_true rfl) (fun A hP => ?_)
        obtain ⟨hs1, hs2⟩ := hP
        have hU := sm_up hs1 hs2
        have hC := hC.upd 2 rfl hU
        have hS := hS.upd hU (by simp)
        clear hU
        refine bw_aload_n 76 dX10_often_75 rfl rfl ?_
        refine bw_get 79 dX10_often_76 rfl lX10_45 (hC.at 0 rfl) rfl ?_
        refine bw_iconst (0) 80 dX10_often_79 (by decide) rfl ?_
        refine bw_eqi (y := nI 0) rfl ?_
        refine bw_iload_n 81 dX10_often_80 rfl rfl ?_
        refine bw_iastN 82 dX10_often_81 rfl (hC.at 2 rfl) (by omega) (by omega) (G := _) (rfl) (fun A hU => ?_)
        have hC := hC.upd 2 rfl hU
        have hS := hS.upd hU (by simp)
        clear hU
        refine bw_aload_n 83 dX10_often_82 rfl rfl ?_
        refine bw_get 86 dX10_often_83 rfl lX10_45 (hC.at 0 rfl) rfl ?_
        refine bw_iconst (1) 87 dX10_often_86 (by decide) rfl ?_
        refine bw_eqi (y := nI 1) rfl ?_
        refine bw_iconst (1) 88 dX10_often_87 (by decide) rfl ?_
        refine bw_eqi (y := nI 1) rfl ?_
        refine bw_iastN 89 dX10_often_88 rfl (hC.at 2 rfl) (by omega) (by omega) (G := gvx v) (rfl) (fun A hU => ?_)
        have hC := hC.upd 2 rfl hU
        have hS := hS.upd hU (by simp)
        clear hU
        refine bw_aload_n 90 dX10_often_89 rfl rfl ?_
        refine bw_aload_n 91 dX10_often_90 rfl rfl ?_
        refine bw_get 94 dX10_often_91 rfl lX10_42 (hC.at 0 rfl) rfl ?_
        refine bw_aload_n 95 dX10_often_94 rfl rfl ?_
        refine bw_get 98 dX10_often_95 rfl lX10_45 (hC.at 0 rfl) rfl ?_
        refine bw_cVv 101 dX10_often_98 rfl vX10_189 (m_split g hG (hC.sub [0, 1, 2, 3] (by decide) rfl) hf (gvx_ok hG.2.2.1 hv) z3 (by rw [gvx_pd]; decide)) (hC.at 0 rfl) rfl rfl (Nat.le_of_ble_eq_true rfl) ⟨(Nat.le_of_ble_eq_true rfl), (Nat.le_of_ble_eq_true rfl)⟩ (Nat.le_of_ble_eq_true rfl) (Nat.le_of_ble_eq_true rfl) (fun A hP => ?_)
        obtain ⟨hs1, hs2⟩ := hP
        have hC := (hC.up 1 rfl).upd 3 rfl (sm_up2 hs1 hs2)
        have hS := hS.trans hs1 (by simp <;> omega)
        refine bw_aload_n 102 dX10_often_101 rfl rfl ?_
        refine bw_get 105 dX10_often_102 rfl lX10_42 (hC.at 0 rfl) rfl ?_
        refine bw_aload_n 106 dX10_often_105 rfl rfl ?_
        refine bw_get 109 dX10_often_106 rfl lX10_48 (hC.at 0 rfl) rfl ?_
        refine bw_cSv 112 dX10_often_109 rfl sX10_193 (m_copy g (hC.sub [1, 3] (by decide) rfl) hrs.1 hq.1) rfl rfl (Nat.le_of_ble_eq_true rfl) ⟨(Nat.le_of_ble_eq_true rfl), (Nat.le_of_ble_eq_true rfl)⟩ (Nat.le_of_ble_eq_true rfl) (Nat.le_of_ble_eq_true rfl) (fun A hP => ?_)
        obtain ⟨hs1, hs2⟩ := hP
        have hU := sm_up hs1 hs2
        have hC := hC.upd 1 rfl hU
        have hS := hS.upd hU (by simp)
        clear hU
        refine bw_iincN (1) 115 dX10_often_112 rfl rfl (by decide) (by decide) ?_
        refine bw_goto 56 dX10_often_115 rfl ?_
        refine bw_loc _ ?_ (ih (c + 1) _ _ _ hq hqd (gvx_ok hG.2.2.1 hv).1 hq.1 A hC hS)
        exact ⟨rfl, rfl, congrArg (fun x => some (Value.int x)) (nI_1 ( c )), trivial⟩
    · have hy : gof n (2 ^ n ||| p) v (r + 1) f c = c := by
        show (if _ then c else _) = _
        rw [gvl_tk (by omega), if_pos hz]
      rw [hy]
      refine bw_aload_n 57 dX10_often_56 rfl rfl ?_
      refine bw_aload_n 58 dX10_often_57 rfl rfl ?_
      refine bw_get 61 dX10_often_58 rfl lX10_42 (hC.at 0 rfl) rfl ?_
      refine bw_iload_n 62 dX10_often_61 rfl rfl ?_
      refine bw_cVi 65 dX10_often_62 rfl vX10_172 (m_atX g hG (hC.sub [0, 1] (by decide) rfl) hf.2 hv) (hC.at 0 rfl) rfl rfl (Nat.le_of_ble_eq_true rfl) ⟨(Nat.le_of_ble_eq_true rfl), (Nat.le_of_ble_eq_true rfl)⟩ (Nat.le_of_ble_eq_true rfl) (Nat.le_of_ble_eq_true rfl) ?_
      refine bw_if_ne 118 68 dX10_often_65 rfl rfl (fun c65 => ?_) (fun c65 => ?_)
      · skip
        refine bw_iload_n 119 dX10_often_118 rfl rfl ?_
        refine bw_iret dX10_often_119 rfl (Nat.le_of_ble_eq_true rfl) (Nat.le_of_ble_eq_true rfl) ?_
        exact ⟨_, rfl, ⟨rfl, hS, hC.at 0 rfl⟩, mz3 (hC.at 1 rfl) (hC.at 2 rfl) (hC.at 3 rfl) hf.1 z2 z3⟩
      · exact absurd ((xn_eq0 (by have := gvl_lt hG.2.2.1 hf v; omega)).mp c65) hz
set_option maxHeartbeats 4000000 in
theorem m_often (g : bw_G) {A : bw_H} {M n p gg th rn mn pn rd rs pt sn a v : Nat} {dd C f1 f2 f3 : Nat → Nat} (hG : GFg n p gg) (hC : bw_has A ((M, mdo M n p gg th rn mn pn rd rs pt sn) :: (mpc g M dd C ++ [(M + 10, bw_an g 200 f1), (M + 11, bw_an g 200 f2), (M + 12, bw_an g 200 f3)]))) (hCl : ∀ i, C i < 2 ^ n) (hz1 : ∀ i, 200 ≤ i → f1 i = 0) (hz2 : ∀ i, 200 ≤ i → f2 i = 0) (hz3 : ∀ i, 200 ≤ i → f3 i = 0) (hp : pn ≤ 40) (ha : a < pn) (hv : v < 2 ^ n) (hda : dd a = pd (gcf C a)) (h0 : pd (gcf C a) ≠ 0) : bw_C g (bw_rm 8 0 0) mX10_often [.ref M, .int (nI a), .int (nI v)] A (bw_pm (fun y A' => maR M [M + 10, M + 11, M + 12] (mdo M n p gg 0 rn mn pn rd rs pt sn) (nI (gof n (2 ^ n ||| p) v (pd (gcf C a) - 1) (gcf C a) 0)) A y A' ∧ ∀ X ∈ [M + 10, M + 11, M + 12], mzz g A' X)) := by
  have hfa := gcf_ok hCl a
  have hpf := hfa.le (by omega)
  have hS : bw_sm (M :: [M + 10, M + 11, M + 12]) A A := bw_sm.rf
  refine bw_C.of (by decide) (Nat.le_of_ble_eq_true rfl) rfl ?_
  refine bw_aload_n 1 dX10_often_0 rfl rfl ?_
  refine bw_iconst (0) 2 dX10_often_1 (by decide) rfl ?_
  refine bw_eqi (y := nI 0) rfl ?_
  refine bw_putU 5 dX10_often_2 rfl pX10_1 (hC.at 0 rfl) rfl rfl (Nat.le_of_ble_eq_true rfl) (fun A hU => ?_)
  have hC := hC.upd 0 rfl hU
  have hS := hS.upd hU (by simp)
  clear hU
  refine bw_aload_n 6 dX10_often_5 rfl rfl ?_
  refine bw_iload_n 7 dX10_often_6 rfl rfl ?_
  refine bw_cVi 10 dX10_often_7 rfl vX10_182 (m_isPolynomial g (hC.sub [0] (by decide) rfl) (kI_nI (by omega) ha)) (hC.at 0 rfl) rfl rfl (Nat.le_of_ble_eq_true rfl) ⟨(Nat.le_of_ble_eq_true rfl), (Nat.le_of_ble_eq_true rfl)⟩ (Nat.le_of_ble_eq_true rfl) (Nat.le_of_ble_eq_true rfl) ?_
  refine bw_if_ne 19 13 dX10_often_10 rfl rfl (fun c10 => ?_) (fun c10 => ?_)
  · refine bw_aload_n 20 dX10_often_19 rfl rfl ?_
    refine bw_iload_n 21 dX10_often_20 rfl rfl ?_
    refine bw_cVi 24 dX10_often_21 rfl vX10_115 (m_isMember g (hC.sub [0] (by decide) rfl) (mI_nI hG.p16 hv)) (hC.at 0 rfl) rfl rfl (Nat.le_of_ble_eq_true rfl) ⟨(Nat.le_of_ble_eq_true rfl), (Nat.le_of_ble_eq_true rfl)⟩ (Nat.le_of_ble_eq_true rfl) (Nat.le_of_ble_eq_true rfl) ?_
    refine bw_if_ne 33 27 dX10_often_24 rfl rfl (fun c24 => ?_) (fun c24 => ?_)
    · refine bw_aload_n 34 dX10_often_33 rfl rfl ?_
      refine bw_get 37 dX10_often_34 rfl lX10_36 (hC.at 0 rfl) rfl ?_
      refine bw_iload_n 38 dX10_often_37 rfl rfl ?_
      refine bw_ialdO 39 dX10_often_38 rfl (hC.at 1 rfl) (by omega) (by omega) ?_
      refine bw_eqi ((tO_I (dd a)).symm) ?_
      refine bw_iconst (-1) 40 dX10_often_39 (by decide) rfl ?_
      refine bw_icmp_ne 45 43 dX10_often_40 rfl rfl (fun c40 => ?_) (fun c40 => ?_)
      · refine bw_aload_n 46 dX10_often_45 rfl rfl ?_
        refine bw_aload_n 47 dX10_often_46 rfl rfl ?_
        refine bw_get 50 dX10_often_47 rfl lX10_42 (hC.at 0 rfl) rfl ?_
        refine bw_iload_n 51 dX10_often_50 rfl rfl ?_
        refine bw_cVv 54 dX10_often_51 rfl vX10_185 (m_load g (hC.sub [3, 0, 2] (by decide) rfl) hz1 (by omega)) (hC.at 0 rfl) rfl rfl (Nat.le_of_ble_eq_true rfl) ⟨(Nat.le_of_ble_eq_true rfl), (Nat.le_of_ble_eq_true rfl)⟩ (Nat.le_of_ble_eq_true rfl) (Nat.le_of_ble_eq_true rfl) (fun A hP => ?_)
        obtain ⟨hs1, hs2⟩ := hP
        have hU := sm_up hs1 hs2
        have hC := hC.upd 3 rfl hU
        have hS := hS.upd hU (by simp)
        clear hU
        refine bw_iconst (0) 55 dX10_often_54 (by decide) rfl ?_
        refine bw_eqi (y := nI 0) rfl ?_
        refine bw_istore_n 56 dX10_often_55 rfl (by decide) ?_
        refine bw_loc _ ?_ (m_often_loop g hG hv (pd (gcf C a) - 1) 0 _ _ _ (hfa.mono (by omega)) (by omega) hz2 hz3 A (hC.sub [0, 3, 4, 5] (by decide) rfl) hS)
        exact ⟨rfl, rfl, rfl, trivial⟩
      · exact absurd (tI_inj (b := 0) (by omega) (by omega) (c40.trans tI_0.symm)) (by omega)
    · exact absurd c24 (by decide)
  · exact absurd c10 (by decide)
theorem m_often0 (g : bw_G) {A : bw_H} {M n p gg th rn mn pn rd rs pt sn a v : Nat} {dd : Nat → Nat} (hn : 2 ^ n ≤ 65536) (hC : bw_has A [(M, mdo M n p gg th rn mn pn rd rs pt sn), (M + 8, bw_ao g 40 (fun i => tO (dd i)))]) (hp : pn ≤ 40) (ha : a < pn) (hv : v < 2 ^ n) (h0 : dd a = 0) : bw_C g (bw_rm 8 0 0) mX10_often [.ref M, .int (nI a), .int (nI v)] A (bw_pm (maR M [] (mdo M n p gg 0 rn mn pn rd rs pt sn) (-1) A)) := by
  have hS : bw_sm [M] A A := bw_sm.rf
  refine bw_C.of (by decide) (Nat.le_of_ble_eq_true rfl) rfl ?_
  refine bw_aload_n 1 dX10_often_0 rfl rfl ?_
  refine bw_iconst (0) 2 dX10_often_1 (by decide) rfl ?_
  refine bw_eqi (y := nI 0) rfl ?_
  refine bw_putU 5 dX10_often_2 rfl pX10_1 (hC.at 0 rfl) rfl rfl (Nat.le_of_ble_eq_true rfl) (fun A hU => ?_)
  have hC := hC.upd 0 rfl hU
  have hS := hS.upd hU (by simp)
  clear hU
  refine bw_aload_n 6 dX10_often_5 rfl rfl ?_
  refine bw_iload_n 7 dX10_often_6 rfl rfl ?_
  refine bw_cVi 10 dX10_often_7 rfl vX10_182 (m_isPolynomial g (hC.sub [0] (by decide) rfl) (kI_nI (by omega) ha)) (hC.at 0 rfl) rfl rfl (Nat.le_of_ble_eq_true rfl) ⟨(Nat.le_of_ble_eq_true rfl), (Nat.le_of_ble_eq_true rfl)⟩ (Nat.le_of_ble_eq_true rfl) (Nat.le_of_ble_eq_true rfl) ?_
  refine bw_if_ne 19 13 dX10_often_10 rfl rfl (fun c10 => ?_) (fun c10 => ?_)
  · refine bw_aload_n 20 dX10_often_19 rfl rfl ?_
    refine bw_iload_n 21 dX10_often_20 rfl rfl ?_
    refine bw_cVi 24 dX10_often_21 rfl vX10_115 (m_isMember g (hC.sub [0] (by decide) rfl) (mI_nI hn hv)) (hC.at 0 rfl) rfl rfl (Nat.le_of_ble_eq_true rfl) ⟨(Nat.le_of_ble_eq_true rfl), (Nat.le_of_ble_eq_true rfl)⟩ (Nat.le_of_ble_eq_true rfl) (Nat.le_of_ble_eq_true rfl) ?_
    refine bw_if_ne 33 27 dX10_often_24 rfl rfl (fun c24 => ?_) (fun c24 => ?_)
    · refine bw_aload_n 34 dX10_often_33 rfl rfl ?_
      refine bw_get 37 dX10_often_34 rfl lX10_36 (hC.at 0 rfl) rfl ?_
      refine bw_iload_n 38 dX10_often_37 rfl rfl ?_
      refine bw_ialdO 39 dX10_often_38 rfl (hC.at 1 rfl) (by omega) (by omega) ?_
      refine bw_eqi ((tO_I (dd a)).symm) ?_
      refine bw_iconst (-1) 40 dX10_often_39 (by decide) rfl ?_
      refine bw_icmp_ne 45 43 dX10_often_40 rfl rfl (fun c40 => ?_) (fun c40 => ?_)
      · exact absurd (by rw [h0]; rfl) c40
      · refine bw_iconst (-1) 44 dX10_often_43 (by decide) rfl ?_
        refine bw_iret dX10_often_44 rfl (Nat.le_of_ble_eq_true rfl) (Nat.le_of_ble_eq_true rfl) ?_
        exact ⟨_, rfl, rfl, hS, hC.at 0 rfl⟩
    · exact absurd c24 (by decide)
  · exact absurd c10 (by decide)
theorem m_oftenY (g : bw_G) {A : bw_H} {M n p gg th rn mn pn rd rs pt sn k : Nat} {v : Int32} (hC : bw_has A [(M, mdo M n p gg th rn mn pn rd rs pt sn)]) (hm : pn ≤ 40) (hk : k < pn) (h : ¬ mI n v) : bw_C g (bw_rm 8 0 0) mX10_often [.ref M, .int (nI k), .int v] A (bw_pm (maR M [] (mdo M n p gg 2 rn mn pn rd rs pt sn) (nI 0) A)) := by
  have hS : bw_sm [M] A A := bw_sm.rf
  refine bw_C.of (by decide) (Nat.le_of_ble_eq_true rfl) rfl ?_
  refine bw_aload_n 1 dX10_often_0 rfl rfl ?_
  refine bw_iconst (0) 2 dX10_often_1 (by decide) rfl ?_
  refine bw_eqi (y := nI 0) rfl ?_
  refine bw_putU 5 dX10_often_2 rfl pX10_1 (hC.at 0 rfl) rfl rfl (Nat.le_of_ble_eq_true rfl) (fun A hU => ?_)
  have hC := hC.upd 0 rfl hU
  have hS := hS.upd hU (by simp)
  clear hU
  refine bw_aload_n 6 dX10_often_5 rfl rfl ?_
  refine bw_iload_n 7 dX10_often_6 rfl rfl ?_
  refine bw_cVi 10 dX10_often_7 rfl vX10_182 (m_isPolynomial g hC (kI_nI (by omega) hk)) (hC.at 0 rfl) rfl rfl (Nat.le_of_ble_eq_true rfl) ⟨(Nat.le_of_ble_eq_true rfl), (Nat.le_of_ble_eq_true rfl)⟩ (Nat.le_of_ble_eq_true rfl) (Nat.le_of_ble_eq_true rfl) ?_
  refine bw_if_ne 19 13 dX10_often_10 rfl rfl (fun c10 => ?_) (fun c10 => ?_)
  · refine bw_aload_n 20 dX10_often_19 rfl rfl ?_
    refine bw_iload_n 21 dX10_often_20 rfl rfl ?_
    refine bw_cVi 24 dX10_often_21 rfl vX10_115 (m_isMemberX g hC h) (hC.at 0 rfl) rfl rfl (Nat.le_of_ble_eq_true rfl) ⟨(Nat.le_of_ble_eq_true rfl), (Nat.le_of_ble_eq_true rfl)⟩ (Nat.le_of_ble_eq_true rfl) (Nat.le_of_ble_eq_true rfl) ?_
    refine bw_if_ne 33 27 dX10_often_24 rfl rfl (fun c24 => ?_) (fun c24 => ?_)
    · exact absurd rfl c24
    · refine bw_aload_n 28 dX10_often_27 rfl rfl ?_
      refine bw_iconst (2) 29 dX10_often_28 (by decide) rfl ?_
      refine bw_eqi (y := nI 2) rfl ?_
      refine bw_cVm 32 dX10_often_29 rfl vX10_118 (m_fail g hC) (hC.at 0 rfl) rfl rfl (Nat.le_of_ble_eq_true rfl) ⟨(Nat.le_of_ble_eq_true rfl), (Nat.le_of_ble_eq_true rfl)⟩ (Nat.le_of_ble_eq_true rfl) (Nat.le_of_ble_eq_true rfl) (fun x A hP => ?_)
      obtain ⟨h4, h5⟩ := hP
      subst h4
      have hC := hC.upd 0 rfl h5
      have hS := hS.upd h5 (by simp)
      refine bw_iret dX10_often_32 rfl (Nat.le_of_ble_eq_true rfl) (Nat.le_of_ble_eq_true rfl) ?_
      exact ⟨_, rfl, rfl, hS, hC.at 0 rfl⟩
  · exact absurd c10 (by decide)
theorem m_oftenX (g : bw_G) {A : bw_H} {M n p gg th rn mn pn rd rs pt sn : Nat} {a v : Int32} (hC : bw_has A [(M, mdo M n p gg th rn mn pn rd rs pt sn)]) (h : ¬ kI pn a) : bw_C g (bw_rm 8 0 0) mX10_often [.ref M, .int a, .int v] A (bw_pm (maR M [] (mdo M n p gg 1 rn mn pn rd rs pt sn) (nI 0) A)) := by
  have hS : bw_sm [M] A A := bw_sm.rf
  refine bw_C.of (by decide) (Nat.le_of_ble_eq_true rfl) rfl ?_
  refine bw_aload_n 1 dX10_often_0 rfl rfl ?_
  refine bw_iconst (0) 2 dX10_often_1 (by decide) rfl ?_
  refine bw_eqi (y := nI 0) rfl ?_
  refine bw_putU 5 dX10_often_2 rfl pX10_1 (hC.at 0 rfl) rfl rfl (Nat.le_of_ble_eq_true rfl) (fun A hU => ?_)
  have hC := hC.upd 0 rfl hU
  have hS := hS.upd hU (by simp)
  clear hU
  refine bw_aload_n 6 dX10_often_5 rfl rfl ?_
  refine bw_iload_n 7 dX10_often_6 rfl rfl ?_
  refine bw_cVi 10 dX10_often_7 rfl vX10_182 (m_isPolynomialX g hC h) (hC.at 0 rfl) rfl rfl (Nat.le_of_ble_eq_true rfl) ⟨(Nat.le_of_ble_eq_true rfl), (Nat.le_of_ble_eq_true rfl)⟩ (Nat.le_of_ble_eq_true rfl) (Nat.le_of_ble_eq_true rfl) ?_
  refine bw_if_ne 19 13 dX10_often_10 rfl rfl (fun c10 => ?_) (fun c10 => ?_)
  · exact absurd rfl c10
  · refine bw_aload_n 14 dX10_often_13 rfl rfl ?_
    refine bw_iconst (1) 15 dX10_often_14 (by decide) rfl ?_
    refine bw_eqi (y := nI 1) rfl ?_
    refine bw_cVm 18 dX10_often_15 rfl vX10_118 (m_fail g hC) (hC.at 0 rfl) rfl rfl (Nat.le_of_ble_eq_true rfl) ⟨(Nat.le_of_ble_eq_true rfl), (Nat.le_of_ble_eq_true rfl)⟩ (Nat.le_of_ble_eq_true rfl) (Nat.le_of_ble_eq_true rfl) (fun x A hP => ?_)
    obtain ⟨h4, h5⟩ := hP
    subst h4
    have hC := hC.upd 0 rfl h5
    have hS := hS.upd h5 (by simp)
    refine bw_iret dX10_often_18 rfl (Nat.le_of_ble_eq_true rfl) (Nat.le_of_ble_eq_true rfl) ?_
    exact ⟨_, rfl, rfl, hS, hC.at 0 rfl⟩
