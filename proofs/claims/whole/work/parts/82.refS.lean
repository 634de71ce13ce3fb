/-! the reference: divisor, common -/
/-- what divisor leaves -/
def mdv (g : bw_G) (M X Y : Nat) (F : Nat → Nat) (A0 A' : bw_H) : Prop := bw_sm [X, Y, M + 12, M + 13] A0 A' ∧ A'.2 X = some (bw_an g 200 F) ∧ mzz g A' Y ∧ mzz g A' (M + 12) ∧ mzz g A' (M + 13)
set_option maxHeartbeats 4000000 in
theorem m_divisor_sc (g : bw_G) {A0 : bw_H} {M n p gg th rn mn pn rd rs pt sn X Y b : Nat} {f h o t : Nat → Nat} (hG : GFg n p gg) (hf : pok n 200 f) (hb : b < 2 ^ n) (zh : ∀ i, 200 ≤ i → h i = 0) (zo : ∀ i, 200 ≤ i → o i = 0) (zt : ∀ i, 200 ≤ i → t i = 0) :
    ∀ (d k : Nat), k + d = pd f → ∀ A : bw_H, bw_has A [(M, mdo M n p gg th rn mn pn rd rs pt sn), (X, bw_an g 200 (gsc n (2 ^ n ||| p) f b k)), (Y, bw_an g 200 h), (M + 12, bw_an g 200 o), (M + 13, bw_an g 200 t)] → bw_sm [X, Y, M + 12, M + 13] A0 A →
      bw_W g (bw_rm 4 0 0) mX10_divisor (bw_pv (mdv g M X Y (gsc n (2 ^ n ||| p) f b (pd f)) A0)) 0 0 62 [(0, .ref M), (1, .ref X), (3, .int (tI (pd f))), (4, .int (nI b)), (5, .int (nI k))] [] A := by
  have h16 := hG.p16
  have hpf := hf.le (by omega)
  intro d
  induction d with
  | zero =>
    intro k hk A hC hS
    have hk : k = pd f := by omega
    subst hk
    refine bw_iload 64 dX10_divisor_62 rfl rfl ?_
    refine bw_iload_n 65 dX10_divisor_64 rfl rfl ?_
    refine bw_icmp_gt 88 68 dX10_divisor_65 rfl rfl (fun c65 => ?_) (fun c65 => ?_)
    · refine bw_vret dX10_divisor_88 rfl (Nat.le_of_ble_eq_true rfl) (Nat.le_of_ble_eq_true rfl) ?_
      exact ⟨rfl, hS, hC.at 1 rfl, ⟨_, zh, hC.at 2 rfl⟩, ⟨_, zo, hC.at 3 rfl⟩, ⟨_, zt, hC.at 4 rfl⟩⟩
    · exact absurd ((tI_ltk (by omega) (by omega)).mpr (Nat.le_refl _)) c65
  | succ d ih =>
    intro k hk A hC hS
    refine bw_iload 64 dX10_divisor_62 rfl rfl ?_
    refine bw_iload_n 65 dX10_divisor_64 rfl rfl ?_
    refine bw_icmp_gt 88 68 dX10_divisor_65 rfl rfl (fun c65 => ?_) (fun c65 => ?_)
    · exact absurd ((tI_ltk (by omega) (by omega)).mp c65) (by omega)
    · skip
      refine bw_aload_n 69 dX10_divisor_68 rfl rfl ?_
      refine bw_iload 71 dX10_divisor_69 rfl rfl ?_
      refine bw_aload_n 72 dX10_divisor_71 rfl rfl ?_
      refine bw_aload_n 73 dX10_divisor_72 rfl rfl ?_
      refine bw_iload 75 dX10_divisor_73 rfl rfl ?_
      refine bw_ialdN 76 dX10_divisor_75 rfl (hC.at 1 rfl) (by omega) (by omega) ?_
      refine bw_eqi (congrArg nI (gsc_at n (2 ^ n ||| p) f b k)) ?_
      refine bw_iload 78 dX10_divisor_76 rfl rfl ?_
      refine bw_cVi 81 dX10_divisor_78 rfl vX10_102 (m_mul g hG (hC.sub [0] (by decide) rfl) (hf.2 k) hb) (hC.at 0 rfl) rfl rfl (Nat.le_of_ble_eq_true rfl) ⟨(Nat.le_of_ble_eq_true rfl), (Nat.le_of_ble_eq_true rfl)⟩ (Nat.le_of_ble_eq_true rfl) (Nat.le_of_ble_eq_true rfl) ?_
      refine bw_iastN 82 dX10_divisor_81 rfl (hC.at 1 rfl) (by omega) (by omega) (G := gsc n (2 ^ n ||| p) f b (k + 1)) (gsc_s n (2 ^ n ||| p) f b k) (fun A hU => ?_)
      have hC := hC.upd 1 rfl hU
      have hS := hS.upd hU (by simp)
      clear hU
      refine bw_iincN (1) 85 dX10_divisor_82 rfl rfl (by decide) (by decide) ?_
      refine bw_goto 62 dX10_divisor_85 rfl ?_
      refine bw_loc _ ?_ (ih (k + 1) (by omega) A hC hS)
      exact ⟨rfl, rfl, rfl, rfl, congrArg (fun x => some (Value.int x)) (nI_1 ( k )), trivial⟩
set_option maxHeartbeats 4000000 in
theorem m_divisor_fin (g : bw_G) {A0 A : bw_H} {M n p gg th rn mn pn rd rs pt sn X Y : Nat} {f h o t : Nat → Nat} (hG : GFg n p gg) (hC : bw_has A [(M, mdo M n p gg th rn mn pn rd rs pt sn), (X, bw_an g 200 f), (Y, bw_an g 200 h), (M + 12, bw_an g 200 o), (M + 13, bw_an g 200 t)]) (hS : bw_sm [X, Y, M + 12, M + 13] A0 A) (hf : pok n 200 f) (zh : ∀ i, 200 ≤ i → h i = 0) (zo : ∀ i, 200 ≤ i → o i = 0) (zt : ∀ i, 200 ≤ i → t i = 0) :
      bw_W g (bw_rm 4 0 0) mX10_divisor (bw_pv (mdv g M X Y (gmon n (2 ^ n ||| p) f) A0)) 0 0 37 [(0, .ref M), (1, .ref X), (2, .ref Y)] [] A := by
  have h16 := hG.p16
  have hpf := hf.le (by omega)
  by_cases hz : pd f = 0
  · skip
    refine bw_aload_n 38 dX10_divisor_37 rfl rfl ?_
    refine bw_cSi 41 dX10_divisor_38 rfl sX10_165 (m_high g (hC.sub [1] (by decide) rfl) (fun i => by have := hf.2 i; omega)) rfl rfl (Nat.le_of_ble_eq_true rfl) ⟨(Nat.le_of_ble_eq_true rfl), (Nat.le_of_ble_eq_true rfl)⟩ (Nat.le_of_ble_eq_true rfl) (Nat.le_of_ble_eq_true rfl) ?_
    refine bw_istore_n 42 dX10_divisor_41 rfl (by decide) ?_
    refine bw_iload_n 43 dX10_divisor_42 rfl rfl ?_
    refine bw_if_ge 50 46 dX10_divisor_43 rfl rfl (fun c43 => ?_) (fun c43 => ?_)
    · exact absurd c43 (by rw [hz]; decide)
    · refine bw_iconst (0) 47 dX10_divisor_46 (by decide) rfl ?_
      refine bw_eqi (y := nI 0) rfl ?_
      refine bw_goto 57 dX10_divisor_47 rfl ?_
      refine bw_istore 59 dX10_divisor_57 rfl (by decide) ?_
      refine bw_iconst (0) 60 dX10_divisor_59 (by decide) rfl ?_
      refine bw_eqi (y := nI 0) rfl ?_
      refine bw_istore 62 dX10_divisor_60 rfl (by decide) ?_
      have := m_divisor_sc g (Y := Y) hG hf (Nat.two_pow_pos n) zh zo zt (pd f) 0 (by omega) A (by rw [gsc_0]; exact hC) hS
      rw [show gsc n (2 ^ n ||| p) f 0 (pd f) = gmon n (2 ^ n ||| p) f by unfold gmon; rw [hz, gsc_0, gsc_0]] at this
      refine bw_loc _ ?_ this
      exact ⟨rfl, rfl, rfl, rfl, rfl, trivial⟩
  · skip
    refine bw_aload_n 38 dX10_divisor_37 rfl rfl ?_
    refine bw_cSi 41 dX10_divisor_38 rfl sX10_165 (m_high g (hC.sub [1] (by decide) rfl) (fun i => by have := hf.2 i; omega)) rfl rfl (Nat.le_of_ble_eq_true rfl) ⟨(Nat.le_of_ble_eq_true rfl), (Nat.le_of_ble_eq_true rfl)⟩ (Nat.le_of_ble_eq_true rfl) (Nat.le_of_ble_eq_true rfl) ?_
    refine bw_eqi (show tI (pd f) = nI (pd f - 1) by rw [← tI_s, show pd f - 1 + 1 = pd f by omega]) ?_
    refine bw_istore_n 42 dX10_divisor_41 rfl (by decide) ?_
    refine bw_iload_n 43 dX10_divisor_42 rfl rfl ?_
    refine bw_if_ge 50 46 dX10_divisor_43 rfl rfl (fun c43 => ?_) (fun c43 => ?_)
    · skip
      refine bw_aload_n 51 dX10_divisor_50 rfl rfl ?_
      refine bw_aload_n 52 dX10_divisor_51 rfl rfl ?_
      refine bw_iload_n 53 dX10_divisor_52 rfl rfl ?_
      refine bw_ialdN 54 dX10_divisor_53 rfl (hC.at 1 rfl) (by omega) (by omega) ?_
      refine bw_cVi 57 dX10_divisor_54 rfl vX10_121 (m_inverse g hG (hC.sub [0] (by decide) rfl) (hf.2 _)) (hC.at 0 rfl) rfl rfl (Nat.le_of_ble_eq_true rfl) ⟨(Nat.le_of_ble_eq_true rfl), (Nat.le_of_ble_eq_true rfl)⟩ (Nat.le_of_ble_eq_true rfl) (Nat.le_of_ble_eq_true rfl) ?_
      refine bw_istore 59 dX10_divisor_57 rfl (by decide) ?_
      refine bw_iconst (0) 60 dX10_divisor_59 (by decide) rfl ?_
      refine bw_eqi (y := nI 0) rfl ?_
      refine bw_istore 62 dX10_divisor_60 rfl (by decide) ?_
      refine bw_loc _ ?_ (m_divisor_sc g (Y := Y) hG hf (ginv_lt hG _) zh zo zt (pd f) 0 (by omega) A (by rw [gsc_0]; exact hC) hS)
      exact ⟨rfl, rfl, congrArg (fun x => some (Value.int x)) (show nI (pd f - 1) = tI (pd f) by rw [← tI_s, show pd f - 1 + 1 = pd f by omega]), rfl, rfl, trivial⟩
    · exact absurd (Int32.not_lt.mp (nI_pos (by omega))) c43
set_option maxHeartbeats 4000000 in
theorem m_divisor_loop (g : bw_G) {A0 : bw_H} {M n p gg th rn mn pn rd rs pt sn X Y : Nat} (hG : GFg n p gg) :
    ∀ (r : Nat) (f h o t : Nat → Nat), pok n 200 f → pok n 200 h → pd h < r → (∀ i, 200 ≤ i → o i = 0) → (∀ i, 200 ≤ i → t i = 0) → ∀ A : bw_H, bw_has A [(M, mdo M n p gg th rn mn pn rd rs pt sn), (X, bw_an g 200 f), (Y, bw_an g 200 h), (M + 12, bw_an g 200 o), (M + 13, bw_an g 200 t)] → bw_sm [X, Y, M + 12, M + 13] A0 A →
      bw_W g (bw_rm 4 0 0) mX10_divisor (bw_pv (mdv g M X Y (gmon n (2 ^ n ||| p) (geu n (2 ^ n ||| p) r f h)) A0)) 0 0 0 [(0, .ref M), (1, .ref X), (2, .ref Y)] [] A := by
  have h16 := hG.p16
  intro r
  induction r with
  | zero => intro f h o t hf hh hr; omega
  | succ r ih =>
    intro f h o t hf hh hr zo zt A hC hS
    have hph := hh.le (by omega)
    by_cases hz : pd h = 0
    · rw [show geu n (2 ^ n ||| p) (r + 1) f h = f from if_pos hz]
      refine bw_aload_n 1 dX10_divisor_0 rfl rfl ?_
      refine bw_cSi 4 dX10_divisor_1 rfl sX10_165 (m_high g (hC.sub [2] (by decide) rfl) (fun i => by have := hh.2 i; omega)) rfl rfl (Nat.le_of_ble_eq_true rfl) ⟨(Nat.le_of_ble_eq_true rfl), (Nat.le_of_ble_eq_true rfl)⟩ (Nat.le_of_ble_eq_true rfl) (Nat.le_of_ble_eq_true rfl) ?_
      refine bw_if_lt 37 7 dX10_divisor_4 rfl rfl (fun c4 => ?_) (fun c4 => ?_)
      · exact m_divisor_fin g hG hC hS hf hh.1 zo zt
      · exact absurd ((tI_lt0 (by omega)).mpr hz) c4
    · rw [show geu n (2 ^ n ||| p) (r + 1) f h = geu n (2 ^ n ||| p) r h (grs n (2 ^ n ||| p) f h) from if_neg hz]
      have hr1 := (grs_ok (h := h) hG.2.2.1 hf).mono (show pd h - 1 ≤ 200 by omega)
      have hq1 := (gqu_ok (h := h) hG.2.2.1 hf (by omega)).mono (show 200 - (pd h - 1) ≤ 200 by omega)
      have hpr := grs_pd hG.2.2.1 hf (show pd h ≤ 200 by omega) hz
      refine bw_aload_n 1 dX10_divisor_0 rfl rfl ?_
      refine bw_cSi 4 dX10_divisor_1 rfl sX10_165 (m_high g (hC.sub [2] (by decide) rfl) (fun i => by have := hh.2 i; omega)) rfl rfl (Nat.le_of_ble_eq_true rfl) ⟨(Nat.le_of_ble_eq_true rfl), (Nat.le_of_ble_eq_true rfl)⟩ (Nat.le_of_ble_eq_true rfl) (Nat.le_of_ble_eq_true rfl) ?_
      refine bw_if_lt 37 7 dX10_divisor_4 rfl rfl (fun c4 => ?_) (fun c4 => ?_)
      · exact absurd ((tI_lt0 (by omega)).mp c4) hz
      · skip
        refine bw_aload_n 8 dX10_divisor_7 rfl rfl ?_
        refine bw_aload_n 9 dX10_divisor_8 rfl rfl ?_
        refine bw_aload_n 10 dX10_divisor_9 rfl rfl ?_
        refine bw_cVv 13 dX10_divisor_10 rfl vX10_189 (m_split g hG (hC.sub [0, 1, 2, 3] (by decide) rfl) hf hh zo hz) (hC.at 0 rfl) rfl rfl (Nat.le_of_ble_eq_true rfl) ⟨(Nat.le_of_ble_eq_true rfl), (Nat.le_of_ble_eq_true rfl)⟩ (Nat.le_of_ble_eq_true rfl) (Nat.le_of_ble_eq_true rfl) (fun A hP => ?_)
        obtain ⟨hs1, hs2⟩ := hP
        have hC := (hC.up 1 rfl).upd 3 rfl (sm_up2 hs1 hs2)
        have hS := hS.trans hs1 (by simp <;> omega)
        refine bw_aload_n 14 dX10_divisor_13 rfl rfl ?_
        refine bw_get 17 dX10_divisor_14 rfl lX10_51 (hC.at 0 rfl) rfl ?_
        refine bw_aload_n 18 dX10_divisor_17 rfl rfl ?_
        refine bw_cSv 21 dX10_divisor_18 rfl sX10_193 (m_copy g (hC.sub [4, 1] (by decide) rfl) zt hr1.1) rfl rfl (Nat.le_of_ble_eq_true rfl) ⟨(Nat.le_of_ble_eq_true rfl), (Nat.le_of_ble_eq_true rfl)⟩ (Nat.le_of_ble_eq_true rfl) (Nat.le_of_ble_eq_true rfl) (fun A hP => ?_)
        obtain ⟨hs1, hs2⟩ := hP
        have hU := sm_up hs1 hs2
        have hC := hC.upd 4 rfl hU
        have hS := hS.upd hU (by simp)
        clear hU
        refine bw_aload_n 22 dX10_divisor_21 rfl rfl ?_
        refine bw_aload_n 23 dX10_divisor_22 rfl rfl ?_
        refine bw_cSv 26 dX10_divisor_23 rfl sX10_193 (m_copy g (hC.sub [1, 2] (by decide) rfl) hr1.1 hh.1) rfl rfl (Nat.le_of_ble_eq_true rfl) ⟨(Nat.le_of_ble_eq_true rfl), (Nat.le_of_ble_eq_true rfl)⟩ (Nat.le_of_ble_eq_true rfl) (Nat.le_of_ble_eq_true rfl) (fun A hP => ?_)
        obtain ⟨hs1, hs2⟩ := hP
        have hU := sm_up hs1 hs2
        have hC := hC.upd 1 rfl hU
        have hS := hS.upd hU (by simp)
        clear hU
        refine bw_aload_n 27 dX10_divisor_26 rfl rfl ?_
        refine bw_aload_n 28 dX10_divisor_27 rfl rfl ?_
        refine bw_get 31 dX10_divisor_28 rfl lX10_51 (hC.at 0 rfl) rfl ?_
        refine bw_cSv 34 dX10_divisor_31 rfl sX10_193 (m_copy g (hC.sub [2, 4] (by decide) rfl) hh.1 hr1.1) rfl rfl (Nat.le_of_ble_eq_true rfl) ⟨(Nat.le_of_ble_eq_true rfl), (Nat.le_of_ble_eq_true rfl)⟩ (Nat.le_of_ble_eq_true rfl) (Nat.le_of_ble_eq_true rfl) (fun A hP => ?_)
        obtain ⟨hs1, hs2⟩ := hP
        have hU := sm_up hs1 hs2
        have hC := hC.upd 2 rfl hU
        have hS := hS.upd hU (by simp)
        clear hU
        refine bw_goto 0 dX10_divisor_34 rfl ?_
        exact ih _ _ _ _ hh hr1 (by omega) hq1.1 hr1.1 A hC hS
theorem geu_m {n q N : Nat} (hG : GFp n q) (hN : N ≤ 200) : ∀ (r s : Nat) {f h : Nat → Nat}, pok n N f → pok n N h → pd h < r → pd h < s → geu n q r f h = geu n q s f h
  | 0, _, _, _, _, _, h1, _ => absurd h1 (by omega)
  | _ + 1, 0, _, _, _, _, _, h2 => absurd h2 (by omega)
  | r + 1, s + 1, f, h, hf, hh, h1, h2 => by
    show (if pd h = 0 then f else geu n q r h (grs n q f h)) = (if pd h = 0 then f else geu n q s h (grs n q f h))
    have hph := hh.le hN
    by_cases hz : pd h = 0
    · rw [if_pos hz, if_pos hz]
    · rw [if_neg hz, if_neg hz]
      have hpr := grs_pd hG hf (show pd h ≤ 200 by omega) hz
      exact geu_m hG hN r s hh ((grs_ok (h := h) hG hf).mono (show pd h - 1 ≤ N by omega)) (by omega) (by omega)
theorem m_divisor (g : bw_G) {A : bw_H} {M n p gg th rn mn pn rd rs pt sn X Y : Nat} {f h o t : Nat → Nat} (hG : GFg n p gg) (hC : bw_has A [(M, mdo M n p gg th rn mn pn rd rs pt sn), (X, bw_an g 200 f), (Y, bw_an g 200 h), (M + 12, bw_an g 200 o), (M + 13, bw_an g 200 t)]) (hf : pok n 200 f) (hh : pok n 200 h) (zo : ∀ i, 200 ≤ i → o i = 0) (zt : ∀ i, 200 ≤ i → t i = 0) : bw_C g (bw_rm 4 0 0) mX10_divisor [.ref M, .ref X, .ref Y] A (bw_pv (mdv g M X Y (ggcd n (2 ^ n ||| p) f h) A)) := by
  have hph := hh.le (by omega)
  refine bw_C.of (by decide) (Nat.le_of_ble_eq_true rfl) rfl ?_
  exact m_divisor_loop g hG 258 f h o t hf hh (by omega) zo zt A hC bw_sm.rf
theorem mz4 {g : bw_G} {A : bw_H} {X Y Z V : Nat} {f h k l : Nat → Nat} (h1 : A.2 X = some (bw_an g 200 f)) (h2 : A.2 Y = some (bw_an g 200 h)) (h3 : A.2 Z = some (bw_an g 200 k)) (h4 : A.2 V = some (bw_an g 200 l)) (z1 : ∀ i, 200 ≤ i → f i = 0) (z2 : ∀ i, 200 ≤ i → h i = 0) (z3 : ∀ i, 200 ≤ i → k i = 0) (z4 : ∀ i, 200 ≤ i → l i = 0) : ∀ W ∈ [X, Y, Z, V], mzz g A W := by
  intro W hW
  rcases List.mem_cons.mp hW with e | hW
  · rw [e]; exact ⟨f, z1, h1⟩
  · exact mz3 h2 h3 h4 z2 z3 z4 W hW
theorem sm_up4 {A A' : bw_H} {X Y Z V : Nat} {e1 e2 e3 e4 : va_E} (h1 : bw_sm [X, Y, Z, V] A A') (hd : [X, Y, Z, V].Nodup) (k1 : A'.2 X = some e1) (k2 : A'.2 Y = some e2) (k3 : A'.2 Z = some e3) (k4 : A'.2 V = some e4) : A' = bw_up (bw_up (bw_up (bw_up A X e1) Y e2) Z e3) V e4 := by
  simp only [List.nodup_cons, List.mem_cons, List.not_mem_nil, or_false, not_or, not_false_eq_true, List.nodup_nil, and_true] at hd
  refine Prod.ext h1.1 (funext (fun b => ?_))
  by_cases v : b = V
  · rw [v, bw_up_eq]; exact k4
  · rw [bw_up_ne v]
    by_cases z : b = Z
    · rw [z, bw_up_eq]; exact k3
    · rw [bw_up_ne z]
      by_cases y : b = Y
      · rw [y, bw_up_eq]; exact k2
      · rw [bw_up_ne y]
        by_cases x : b = X
        · rw [x, bw_up_eq]; exact k1
        · rw [bw_up_ne x]
          exact h1.2 b (by simp [x, y, z, v])
set_option maxHeartbeats 4000000 in
theorem m_common (g : bw_G) {A : bw_H} {M n p gg th rn mn pn rd rs pt sn a b : Nat} {dd C f1 f2 f3 f4 : Nat → Nat} (hG : GFg n p gg) (hC : bw_has A ((M, mdo M n p gg th rn mn pn rd rs pt sn) :: (mpc g M dd C ++ [(M + 10, bw_an g 200 f1), (M + 11, bw_an g 200 f2), (M + 12, bw_an g 200 f3), (M + 13, bw_an g 200 f4)]))) (hCl : ∀ i, C i < 2 ^ n) (hz1 : ∀ i, 200 ≤ i → f1 i = 0) (hz2 : ∀ i, 200 ≤ i → f2 i = 0) (hz3 : ∀ i, 200 ≤ i → f3 i = 0) (hz4 : ∀ i, 200 ≤ i → f4 i = 0) (hp : pn < 40) (ha : a < pn) (hb : b < pn) : bw_C g (bw_rm 8 0 0) mX10_common [.ref M, .int (nI a), .int (nI b)] A (bw_pm (mKP g M [M + 10, M + 11, M + 12, M + 13] (mdo M n p gg 0 rn mn (pn + 1) rd rs pt sn) (nI pn) (fun i => if i = pn then pd (ggcd n (2 ^ n ||| p) (gcf C a) (gcf C b)) else dd i) (gck (ggcd n (2 ^ n ||| p) (gcf C a) (gcf C b)) C pn 65) A)) := by
  have h16 := hG.p16
  have hfa := (gcf_ok hCl a).mono (show 65 ≤ 200 by omega)
  have hfb := (gcf_ok hCl b).mono (show 65 ≤ 200 by omega)
  have hgl := ggcd_ok hG.2.2.1 (show 200 ≤ 200 by omega) hfa hfb
  have hS : bw_sm (M :: ([M + 10, M + 11, M + 12, M + 13] ++ mpl M)) A A := bw_sm.rf
  refine bw_C.of (by decide) (Nat.le_of_ble_eq_true rfl) rfl ?_
  refine bw_aload_n 1 dX10_common_0 rfl rfl ?_
  refine bw_iconst (0) 2 dX10_common_1 (by decide) rfl ?_
  refine bw_eqi (y := nI 0) rfl ?_
  refine bw_putU 5 dX10_common_2 rfl pX10_1 (hC.at 0 rfl) rfl rfl (Nat.le_of_ble_eq_true rfl) (fun A hU => ?_)
  have hC := hC.upd 0 rfl hU
  have hS := hS.upd hU (by simp)
  clear hU
  refine bw_aload_n 6 dX10_common_5 rfl rfl ?_
  refine bw_iload_n 7 dX10_common_6 rfl rfl ?_
  refine bw_cVi 10 dX10_common_7 rfl vX10_182 (m_isPolynomial g (hC.sub [0] (by decide) rfl) (kI_nI (by omega) ha)) (hC.at 0 rfl) rfl rfl (Nat.le_of_ble_eq_true rfl) ⟨(Nat.le_of_ble_eq_true rfl), (Nat.le_of_ble_eq_true rfl)⟩ (Nat.le_of_ble_eq_true rfl) (Nat.le_of_ble_eq_true rfl) ?_
  refine bw_if_eq 21 13 dX10_common_10 rfl rfl (fun c10 => ?_) (fun c10 => ?_)
  · exact absurd c10 (by decide)
  · refine bw_aload_n 14 dX10_common_13 rfl rfl ?_
    refine bw_iload_n 15 dX10_common_14 rfl rfl ?_
    refine bw_cVi 18 dX10_common_15 rfl vX10_182 (m_isPolynomial g (hC.sub [0] (by decide) rfl) (kI_nI (by omega) hb)) (hC.at 0 rfl) rfl rfl (Nat.le_of_ble_eq_true rfl) ⟨(Nat.le_of_ble_eq_true rfl), (Nat.le_of_ble_eq_true rfl)⟩ (Nat.le_of_ble_eq_true rfl) (Nat.le_of_ble_eq_true rfl) ?_
    refine bw_if_ne 27 21 dX10_common_18 rfl rfl (fun c18 => ?_) (fun c18 => ?_)
    · refine bw_aload_n 28 dX10_common_27 rfl rfl ?_
      refine bw_get 31 dX10_common_28 rfl lX10_158 (hC.at 0 rfl) rfl ?_
      refine bw_bipush (40) 33 dX10_common_31 (by decide) rfl ?_
      refine bw_eqi (y := nI 40) rfl ?_
      refine bw_icmp_ne 42 36 dX10_common_33 rfl rfl (fun c33 => ?_) (fun c33 => ?_)
      · refine bw_aload_n 43 dX10_common_42 rfl rfl ?_
        refine bw_aload_n 44 dX10_common_43 rfl rfl ?_
        refine bw_get 47 dX10_common_44 rfl lX10_42 (hC.at 0 rfl) rfl ?_
        refine bw_iload_n 48 dX10_common_47 rfl rfl ?_
        refine bw_cVv 51 dX10_common_48 rfl vX10_185 (m_load g (hC.sub [3, 0, 2] (by decide) rfl) hz1 (by omega)) (hC.at 0 rfl) rfl rfl (Nat.le_of_ble_eq_true rfl) ⟨(Nat.le_of_ble_eq_true rfl), (Nat.le_of_ble_eq_true rfl)⟩ (Nat.le_of_ble_eq_true rfl) (Nat.le_of_ble_eq_true rfl) (fun A hP => ?_)
        obtain ⟨hs1, hs2⟩ := hP
        have hU := sm_up hs1 hs2
        have hC := hC.upd 3 rfl hU
        have hS := hS.upd hU (by simp)
        clear hU
        refine bw_aload_n 52 dX10_common_51 rfl rfl ?_
        refine bw_aload_n 53 dX10_common_52 rfl rfl ?_
        refine bw_get 56 dX10_common_53 rfl lX10_45 (hC.at 0 rfl) rfl ?_
        refine bw_iload_n 57 dX10_common_56 rfl rfl ?_
        refine bw_cVv 60 dX10_common_57 rfl vX10_185 (m_load g (hC.sub [4, 0, 2] (by decide) rfl) hz2 (by omega)) (hC.at 0 rfl) rfl rfl (Nat.le_of_ble_eq_true rfl) ⟨(Nat.le_of_ble_eq_true rfl), (Nat.le_of_ble_eq_true rfl)⟩ (Nat.le_of_ble_eq_true rfl) (Nat.le_of_ble_eq_true rfl) (fun A hP => ?_)
        obtain ⟨hs1, hs2⟩ := hP
        have hU := sm_up hs1 hs2
        have hC := hC.upd 4 rfl hU
        have hS := hS.upd hU (by simp)
        clear hU
        refine bw_aload_n 61 dX10_common_60 rfl rfl ?_
        refine bw_aload_n 62 dX10_common_61 rfl rfl ?_
        refine bw_get 65 dX10_common_62 rfl lX10_42 (hC.at 0 rfl) rfl ?_
        refine bw_aload_n 66 dX10_common_65 rfl rfl ?_
        refine bw_get 69 dX10_common_66 rfl lX10_45 (hC.at 0 rfl) rfl ?_
        refine bw_cVv 72 dX10_common_69 rfl vX10_196 (m_divisor g hG (hC.sub [0, 3, 4, 5, 6] (by decide) rfl) hfa hfb hz3 hz4) (hC.at 0 rfl) rfl rfl (Nat.le_of_ble_eq_true rfl) ⟨(Nat.le_of_ble_eq_true rfl), (Nat.le_of_ble_eq_true rfl)⟩ (Nat.le_of_ble_eq_true rfl) (Nat.le_of_ble_eq_true rfl) (fun A hP => ?_)
        obtain ⟨hs1, hs2, ⟨e2, y2, k2⟩, ⟨e3, y3, k3⟩, ⟨e4, y4, k4⟩⟩ := hP
        have hC := (((hC.up 3 rfl).up 4 rfl).up 5 rfl).upd 6 rfl (sm_up4 hs1 (hC.sub [3, 4, 5, 6] (by decide) rfl).2 hs2 k2 k3 k4)
        have hS := hS.trans hs1 (by simp <;> omega)
        refine bw_aload_n 73 dX10_common_72 rfl rfl ?_
        refine bw_aload_n 74 dX10_common_73 rfl rfl ?_
        refine bw_get 77 dX10_common_74 rfl lX10_42 (hC.at 0 rfl) rfl ?_
        refine bw_cVm 80 dX10_common_77 rfl vX10_169 (m_kept g (hC.sub [0, 1, 2, 3] (by decide) rfl) (fun i => by have := hgl.2 i; omega) hp) (hC.at 0 rfl) rfl rfl (Nat.le_of_ble_eq_true rfl) ⟨(Nat.le_of_ble_eq_true rfl), (Nat.le_of_ble_eq_true rfl)⟩ (Nat.le_of_ble_eq_true rfl) (Nat.le_of_ble_eq_true rfl) (fun x A hP => ?_)
        obtain ⟨⟨h4, h5, h6⟩, h7⟩ := hP
        subst h4
        have hW := (hC.sub [3, 4, 5, 6] (by decide) rfl).frm h5 (by simp <;> omega)
        have hS := hS.trans h5 (by simp <;> omega)
        refine bw_iret dX10_common_80 rfl (Nat.le_of_ble_eq_true rfl) (Nat.le_of_ble_eq_true rfl) ?_
        exact ⟨_, rfl, rfl, hS, h6, h7, mz4 (hW.at 0 rfl) (hW.at 1 rfl) (hW.at 2 rfl) (hW.at 3 rfl) hgl.1 y2 y3 y4⟩
      · exact absurd ((nI_eq (b := 40) (by omega) (by omega)).mp c33) (by omega)
    · exact absurd c18 (by decide)
theorem m_commonY (g : bw_G) {A : bw_H} {M n p gg th rn mn rd rs pt sn a b : Nat} (hC : bw_has A [(M, mdo M n p gg th rn mn 40 rd rs pt sn)]) (ha : a < 40) (hb : b < 40) : bw_C g (bw_rm 8 0 0) mX10_common [.ref M, .int (nI a), .int (nI b)] A (bw_pm (maR M [] (mdo M n p gg 2 rn mn 40 rd rs pt sn) (nI 0) A)) := by
  have hS : bw_sm [M] A A := bw_sm.rf
  refine bw_C.of (by decide) (Nat.le_of_ble_eq_true rfl) rfl ?_
  refine bw_aload_n 1 dX10_common_0 rfl rfl ?_
  refine bw_iconst (0) 2 dX10_common_1 (by decide) rfl ?_
  refine bw_eqi (y := nI 0) rfl ?_
  refine bw_putU 5 dX10_common_2 rfl pX10_1 (hC.at 0 rfl) rfl rfl (Nat.le_of_ble_eq_true rfl) (fun A hU => ?_)
  have hC := hC.upd 0 rfl hU
  have hS := hS.upd hU (by simp)
  clear hU
  refine bw_aload_n 6 dX10_common_5 rfl rfl ?_
  refine bw_iload_n 7 dX10_common_6 rfl rfl ?_
  refine bw_cVi 10 dX10_common_7 rfl vX10_182 (m_isPolynomial g hC (kI_nI (by omega) ha)) (hC.at 0 rfl) rfl rfl (Nat.le_of_ble_eq_true rfl) ⟨(Nat.le_of_ble_eq_true rfl), (Nat.le_of_ble_eq_true rfl)⟩ (Nat.le_of_ble_eq_true rfl) (Nat.le_of_ble_eq_true rfl) ?_
  refine bw_if_eq 21 13 dX10_common_10 rfl rfl (fun c10 => ?_) (fun c10 => ?_)
  · exact absurd c10 (by decide)
  · refine bw_aload_n 14 dX10_common_13 rfl rfl ?_
    refine bw_iload_n 15 dX10_common_14 rfl rfl ?_
    refine bw_cVi 18 dX10_common_15 rfl vX10_182 (m_isPolynomial g hC (kI_nI (by omega) hb)) (hC.at 0 rfl) rfl rfl (Nat.le_of_ble_eq_true rfl) ⟨(Nat.le_of_ble_eq_true rfl), (Nat.le_of_ble_eq_true rfl)⟩ (Nat.le_of_ble_eq_true rfl) (Nat.le_of_ble_eq_true rfl) ?_
    refine bw_if_ne 27 21 dX10_common_18 rfl rfl (fun c18 => ?_) (fun c18 => ?_)
    · refine bw_aload_n 28 dX10_common_27 rfl rfl ?_
      refine bw_get 31 dX10_common_28 rfl lX10_158 (hC.at 0 rfl) rfl ?_
      refine bw_bipush (40) 33 dX10_common_31 (by decide) rfl ?_
      refine bw_eqi (y := nI 40) rfl ?_
      refine bw_icmp_ne 42 36 dX10_common_33 rfl rfl (fun c33 => ?_) (fun c33 => ?_)
      · exact absurd rfl c33
      · refine bw_aload_n 37 dX10_common_36 rfl rfl ?_
        refine bw_iconst (2) 38 dX10_common_37 (by decide) rfl ?_
        refine bw_eqi (y := nI 2) rfl ?_
        refine bw_cVm 41 dX10_common_38 rfl vX10_118 (m_fail g hC) (hC.at 0 rfl) rfl rfl (Nat.le_of_ble_eq_true rfl) ⟨(Nat.le_of_ble_eq_true rfl), (Nat.le_of_ble_eq_true rfl)⟩ (Nat.le_of_ble_eq_true rfl) (Nat.le_of_ble_eq_true rfl) (fun x A hP => ?_)
        obtain ⟨h4, h5⟩ := hP
        subst h4
        have hC := hC.upd 0 rfl h5
        have hS := hS.upd h5 (by simp)
        refine bw_iret dX10_common_41 rfl (Nat.le_of_ble_eq_true rfl) (Nat.le_of_ble_eq_true rfl) ?_
        exact ⟨_, rfl, rfl, hS, hC.at 0 rfl⟩
    · exact absurd c18 (by decide)
theorem m_commonX (g : bw_G) {A : bw_H} {M n p gg th rn mn pn rd rs pt sn : Nat} {a b : Int32} (hC : bw_has A [(M, mdo M n p gg th rn mn pn rd rs pt sn)]) (h : ¬ (kI pn a ∧ kI pn b)) : bw_C g (bw_rm 8 0 0) mX10_common [.ref M, .int a, .int b] A (bw_pm (maR M [] (mdo M n p gg 1 rn mn pn rd rs pt sn) (nI 0) A)) := by
  have hS : bw_sm [M] A A := bw_sm.rf
  refine bw_C.of (by decide) (Nat.le_of_ble_eq_true rfl) rfl ?_
  by_cases ha : kI pn a
  · skip
    refine bw_aload_n 1 dX10_common_0 rfl rfl ?_
    refine bw_iconst (0) 2 dX10_common_1 (by decide) rfl ?_
    refine bw_eqi (y := nI 0) rfl ?_
    refine bw_putU 5 dX10_common_2 rfl pX10_1 (hC.at 0 rfl) rfl rfl (Nat.le_of_ble_eq_true rfl) (fun A hU => ?_)
    have hC := hC.upd 0 rfl hU
    have hS := hS.upd hU (by simp)
    clear hU
    refine bw_aload_n 6 dX10_common_5 rfl rfl ?_
    refine bw_iload_n 7 dX10_common_6 rfl rfl ?_
    refine bw_cVi 10 dX10_common_7 rfl vX10_182 (m_isPolynomial g hC ha) (hC.at 0 rfl) rfl rfl (Nat.le_of_ble_eq_true rfl) ⟨(Nat.le_of_ble_eq_true rfl), (Nat.le_of_ble_eq_true rfl)⟩ (Nat.le_of_ble_eq_true rfl) (Nat.le_of_ble_eq_true rfl) ?_
    refine bw_if_eq 21 13 dX10_common_10 rfl rfl (fun c10 => ?_) (fun c10 => ?_)
    · exact absurd c10 (by decide)
    · refine bw_aload_n 14 dX10_common_13 rfl rfl ?_
      refine bw_iload_n 15 dX10_common_14 rfl rfl ?_
      refine bw_cVi 18 dX10_common_15 rfl vX10_182 (m_isPolynomialX g hC (fun hb => h ⟨ha, hb⟩)) (hC.at 0 rfl) rfl rfl (Nat.le_of_ble_eq_true rfl) ⟨(Nat.le_of_ble_eq_true rfl), (Nat.le_of_ble_eq_true rfl)⟩ (Nat.le_of_ble_eq_true rfl) (Nat.le_of_ble_eq_true rfl) ?_
      refine bw_if_ne 27 21 dX10_common_18 rfl rfl (fun c18 => ?_) (fun c18 => ?_)
      · exact absurd rfl c18
      · refine bw_aload_n 22 dX10_common_21 rfl rfl ?_
        refine bw_iconst (1) 23 dX10_common_22 (by decide) rfl ?_
        refine bw_eqi (y := nI 1) rfl ?_
        refine bw_cVm 26 dX10_common_23 rfl vX10_118 (m_fail g hC) (hC.at 0 rfl) rfl rfl (Nat.le_of_ble_eq_true rfl) ⟨(Nat.le_of_ble_eq_true rfl), (Nat.le_of_ble_eq_true rfl)⟩ (Nat.le_of_ble_eq_true rfl) (Nat.le_of_ble_eq_true rfl) (fun x A hP => ?_)
        obtain ⟨h4, h5⟩ := hP
        subst h4
        have hC := hC.upd 0 rfl h5
        have hS := hS.upd h5 (by simp)
        refine bw_iret dX10_common_26 rfl (Nat.le_of_ble_eq_true rfl) (Nat.le_of_ble_eq_true rfl) ?_
        exact ⟨_, rfl, rfl, hS, hC.at 0 rfl⟩
  · skip
    refine bw_aload_n 1 dX10_common_0 rfl rfl ?_
    refine bw_iconst (0) 2 dX10_common_1 (by decide) rfl ?_
    refine bw_eqi (y := nI 0) rfl ?_
    refine bw_putU 5 dX10_common_2 rfl pX10_1 (hC.at 0 rfl) rfl rfl (Nat.le_of_ble_eq_true rfl) (fun A hU => ?_)
    have hC := hC.upd 0 rfl hU
    have hS := hS.upd hU (by simp)
    clear hU
    refine bw_aload_n 6 dX10_common_5 rfl rfl ?_
    refine bw_iload_n 7 dX10_common_6 rfl rfl ?_
    refine bw_cVi 10 dX10_common_7 rfl vX10_182 (m_isPolynomialX g hC ha) (hC.at 0 rfl) rfl rfl (Nat.le_of_ble_eq_true rfl) ⟨(Nat.le_of_ble_eq_true rfl), (Nat.le_of_ble_eq_true rfl)⟩ (Nat.le_of_ble_eq_true rfl) (Nat.le_of_ble_eq_true rfl) ?_
    refine bw_if_eq 21 13 dX10_common_10 rfl rfl (fun c10 => ?_) (fun c10 => ?_)
    · skip
      refine bw_aload_n 22 dX10_common_21 rfl rfl ?_
      refine bw_iconst (1) 23 dX10_common_22 (by decide) rfl ?_
      refine bw_eqi (y := nI 1) rfl ?_
      refine bw_cVm 26 dX10_common_23 rfl vX10_118 (m_fail g hC) (hC.at 0 rfl) rfl rfl (Nat.le_of_ble_eq_true rfl) ⟨(Nat.le_of_ble_eq_true rfl), (Nat.le_of_ble_eq_true rfl)⟩ (Nat.le_of_ble_eq_true rfl) (Nat.le_of_ble_eq_true rfl) (fun x A hP => ?_)
      obtain ⟨h4, h5⟩ := hP
      subst h4
      have hC := hC.upd 0 rfl h5
      have hS := hS.upd h5 (by simp)
      refine bw_iret dX10_common_26 rfl (Nat.le_of_ble_eq_true rfl) (Nat.le_of_ble_eq_true rfl) ?_
      exact ⟨_, rfl, rfl, hS, hC.at 0 rfl⟩
    · exact absurd rfl c10
