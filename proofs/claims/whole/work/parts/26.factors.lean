/-! Factors -/
theorem tI_le0 {m : Nat} (h : m < 2 ^ 31) : tI m ≤ 0 ↔ m ≤ 1 := by
  have := tI_le (a := m) (b := 1) h (by omega)
  rw [tI_s 0] at this
  exact this
/-- Euclid's end is no higher than what it began with -/
theorem geu_leA {n q N : Nat} (hG : GFp n q) (hN : N ≤ 200) : ∀ (r : Nat) {f h : Nat → Nat}, pok n N f → pok n N h → pd f ≠ 0 → (2 ≤ r ∨ pd h ≤ pd f) → pd (geu n q r f h) ≤ pd f := by
  intro r
  induction r using Nat.strongRecOn with
  | _ r ih =>
    intro f h hf hh h0 hr
    cases r with
    | zero => exact Nat.le_refl _
    | succ r =>
      unfold geu
      by_cases hz : pd h = 0
      · rw [if_pos hz]; exact Nat.le_refl _
      · rw [if_neg hz]
        have hl := hh.le hN
        have hg := (grs_ok hG (h := h) hf).mono (show pd h - 1 ≤ N by omega)
        by_cases h1 : pd h ≤ pd f
        · have := ih r (by omega) hh hg hz (Or.inr (Nat.le_of_lt (grs_pd hG hf (by omega) hz)))
          omega
        · rw [grs_lt hf hN (by omega)]
          cases r with
          | zero => omega
          | succ r =>
            unfold geu
            rw [if_neg h0]
            exact ih r (by omega) hf ((grs_ok hG hh).mono (by have := hf.le hN; omega)) h0 (Or.inr (Nat.le_of_lt (grs_pd hG hh (by have := hf.le hN; omega) h0)))
theorem geu_leB {n q N : Nat} (hG : GFp n q) (hN : N ≤ 200) (r : Nat) {f h : Nat → Nat} (hf : pok n N f) (hh : pok n N h) (h0 : pd h ≠ 0) : pd (geu n q (r + 1) f h) ≤ pd h := by
  have hl := hh.le hN
  unfold geu
  rw [if_neg h0]
  exact geu_leA hG hN r hh ((grs_ok hG hf).mono (by omega)) h0 (Or.inr (Nat.le_of_lt (grs_pd hG hf (by omega) h0)))
theorem ggcd_leA {n p gg N : Nat} (hG : GFg n p gg) (hN : N ≤ 200) {f h : Nat → Nat} (hf : pok n N f) (hh : pok n N h) (h0 : pd f ≠ 0) : pd (ggcd n (2 ^ n ||| p) f h) ≤ pd f := by
  unfold ggcd
  rw [gmon_pd hG (geu_ok hG.2.2.1 hN _ hf hh) hN]
  exact geu_leA hG.2.2.1 hN 258 hf hh h0 (Or.inl (by omega))
theorem ggcd_leB {n p gg N : Nat} (hG : GFg n p gg) (hN : N ≤ 200) {f h : Nat → Nat} (hf : pok n N f) (hh : pok n N h) (h0 : pd h ≠ 0) : pd (ggcd n (2 ^ n ||| p) f h) ≤ pd h := by
  unfold ggcd
  rw [gmon_pd hG (geu_ok hG.2.2.1 hN _ hf hh) hN]
  exact geu_leB hG.2.2.1 hN 257 hf hh h0
theorem gqu_pd {n p gg N : Nat} (hG : GFg n p gg) (hN : N ≤ 200) {f h : Nat → Nat} (hf : pok n N f) (hh : ∀ i, h i < 2 ^ n) (h0 : pd h ≠ 0) (h1 : pd h ≤ pd f) : pd (gqu n (2 ^ n ||| p) f h) = pd f - (pd h - 1) := by
  have hl := hf.le hN
  refine pd_eq ?_ ?_ (by omega)
  · intro i hi
    unfold gqu
    rw [gdl_up _ (by omega)]
    exact hf.z hN _ (by omega)
  · intro _
    unfold gqu
    obtain ⟨r, hr⟩ : ∃ r, pd f - (pd h - 1) = r + 1 := ⟨pd f - (pd h - 1) - 1, by omega⟩
    rw [hr]
    show gdl n (2 ^ n ||| p) h (pd h - 1) _ r _ (r + (pd h - 1)) ≠ 0
    rw [gdl_up _ (by omega)]
    unfold gds
    rw [if_pos (by omega)]
    refine hG.2.2.1.ne0 (hf.2 _) (ginv_lt hG _) ?_ (ginv_ne0 hG (hh _) (pd_top h0))
    have h2 : pd h - 1 + r = pd f - 1 := by omega
    rw [h2]
    exact pd_top (by omega)
/-- parts of degree d out of L: what is left, how many -/
def gpk (n q d : Nat) : Nat → (Nat → Nat) → (Nat → Nat) → Nat → (Nat → Nat) × Nat
  | 0, L, _, t => (L, t)
  | r + 1, L, s, t => if pd s ≤ 1 then (L, t) else gpk n q d r (gqu n q L s) (ggcd n q s (gqu n q L s)) (t + (pd s - 1) / d)
abbrev kob (F D ka kb kc kd : Nat) : va_E := .inr (4, [.ref F, .ref D, .ref ka, .ref kb, .ref kc, .ref kd])
/-- what takeParts leaves -/
def tpP (g : bw_G) (n ka kc kd : Nat) (L : Nat → Nat) (t : Nat) (A0 : bw_H) (x : Int32) (A' : bw_H) : Prop := x = nI t ∧ bw_sm [ka, ka + 1, kc, kc + 1, kd, kd + 1] A0 A' ∧ pok n 65 L ∧ pd L ≠ 0 ∧ ∃ (fc fd : Nat → Nat) (mc md : Nat), pwk 129 fc mc ∧ pwk 129 fd md ∧ bw_has A' (ppl g ka 129 L .null ++ (pcl g kc 129 fc mc .null ++ pcl g kd 129 fd md .null))
set_option maxHeartbeats 4000000 in
set_option maxRecDepth 100000 in
theorem c2_take_loop (g : bw_G) {A0 : bw_H} {K D F ka kb kc kd n p gg d : Nat} {P : Nat → Nat} (hG : GFg n p gg) (hd : 0 < d) (hd2 : d < 2 ^ 31) :
    ∀ (r k : Nat), k + r = 64 → ∀ (L s : Nat → Nat) (t : Nat) (fo : Nat → Nat) (mo : Nat) (A : bw_H), pok n 65 L → pok n 65 s → pd L ≠ 0 → pd s ≠ 0 → pd s ≤ pd L → pwk 129 fo mo → bw_has A ((K, kob F D ka kb kc kd) :: (dvl g n p gg D F ++ (ppl g ka 129 L .null ++ (ppl g kb 129 P .null ++ (ppl g kc 129 s .null ++ pcl g kd 129 fo mo .null))))) → bw_sm [ka, ka + 1, kc, kc + 1, kd, kd + 1] A0 A →
      bw_W g (bw_rm 4 0 0) mX2_takeParts (bw_pm (tpP g n ka kc kd (gpk n (2 ^ n ||| p) d r L s t).1 (gpk n (2 ^ n ||| p) d r L s t).2 A0)) 0 0 53 [(0, .ref K), (1, .int (nI d)), (2, .int (nI t)), (3, .int (nI k))] [] A := by
  intro r
  induction r with
  | zero =>
    intro k hk L s t fo mo A hL hs hL0 hs0 hsL hwo hC hM
    have he : gpk n (2 ^ n ||| p) d 0 L s t = (L, t) := rfl
    refine bw_iload_n 54 dX2_takeParts_53 rfl rfl ?_
    refine bw_bipush (64) 56 dX2_takeParts_54 (by decide) rfl ?_
    refine bw_eqi (y := nI 64) rfl ?_
    refine bw_icmp_ge 128 59 dX2_takeParts_56 rfl rfl (fun c56 => ?_) (fun c56 => ?_)
    · refine bw_iload_n 129 dX2_takeParts_128 rfl rfl ?_
      refine bw_iret dX2_takeParts_129 rfl (Nat.le_of_ble_eq_true rfl) (Nat.le_of_ble_eq_true rfl) ?_
      exact ⟨_, rfl, by rw [he], hM, by rw [he]; exact hL, by rw [he]; exact hL0, s, fo, pd s, mo, (hs.mono (by omega)).pwk (by omega), hwo, by rw [he]; exact hC.sub [4, 5, 8, 9, 10, 11] (by decide) rfl⟩
    · exact absurd (nI_le (by omega) (by omega)) c56
  | succ r ih =>
    intro k hk L s t fo mo A hL hs hL0 hs0 hsL hwo hC hM
    have hsl := hs.le (show 65 ≤ 200 by omega)
    have hLl := hL.le (show 65 ≤ 200 by omega)
    refine bw_iload_n 54 dX2_takeParts_53 rfl rfl ?_
    refine bw_bipush (64) 56 dX2_takeParts_54 (by decide) rfl ?_
    refine bw_eqi (y := nI 64) rfl ?_
    refine bw_icmp_ge 128 59 dX2_takeParts_56 rfl rfl (fun c56 => ?_) (fun c56 => ?_)
    · exact absurd c56 (nI_ge (by omega) (by omega))
    · skip
      refine bw_aload_n 60 dX2_takeParts_59 rfl rfl ?_
      refine bw_get 63 dX2_takeParts_60 rfl lX2_23 (hC.at 0 rfl) rfl ?_
      refine bw_get 66 dX2_takeParts_63 rfl lX2_50 (hC.at 8 rfl) rfl ?_
      refine bw_if_le 128 69 dX2_takeParts_66 rfl rfl (fun c66 => ?_) (fun c66 => ?_)
      · have he : gpk n (2 ^ n ||| p) d (r + 1) L s t = (L, t) := if_pos ((tI_le0 (by omega)).mp c66)
        refine bw_iload_n 129 dX2_takeParts_128 rfl rfl ?_
        refine bw_iret dX2_takeParts_129 rfl (Nat.le_of_ble_eq_true rfl) (Nat.le_of_ble_eq_true rfl) ?_
        exact ⟨_, rfl, by rw [he], hM, by rw [he]; exact hL, by rw [he]; exact hL0, s, fo, pd s, mo, (hs.mono (by omega)).pwk (by omega), hwo, by rw [he]; exact hC.sub [4, 5, 8, 9, 10, 11] (by decide) rfl⟩
      · have hs1 : ¬ pd s ≤ 1 := fun h => c66 ((tI_le0 (by omega)).mpr h)
        have he : gpk n (2 ^ n ||| p) d (r + 1) L s t = gpk n (2 ^ n ||| p) d r (gqu n (2 ^ n ||| p) L s) (ggcd n (2 ^ n ||| p) s (gqu n (2 ^ n ||| p) L s)) (t + (pd s - 1) / d) := if_neg hs1
        have hq := (gqu_ok hG.2.2.1 (h := s) hL (by omega)).mono (show _ ≤ 65 by omega)
        have hqp := gqu_pd hG (by omega) hL hs.2 hs0 hsL
        have hqp0 : pd (gqu n (2 ^ n ||| p) L s) ≠ 0 := by omega
        have hg := ggcd_ok hG.2.2.1 (show 65 ≤ 200 by omega) hs hq
        have hg0 := ggcd_ne0 hG (show 65 ≤ 200 by omega) hs hq (Or.inl hs0)
        have hgl := ggcd_leB hG (show 65 ≤ 200 by omega) hs hq hqp0
        refine bw_iload_n 70 dX2_takeParts_69 rfl rfl ?_
        refine bw_aload_n 71 dX2_takeParts_70 rfl rfl ?_
        refine bw_get 74 dX2_takeParts_71 rfl lX2_23 (hC.at 0 rfl) rfl ?_
        refine bw_get 77 dX2_takeParts_74 rfl lX2_50 (hC.at 8 rfl) rfl ?_
        refine bw_eqi (tI_p hs0) ?_
        refine bw_iload_n 78 dX2_takeParts_77 rfl rfl ?_
        refine bw_idiv 79 dX2_takeParts_78 (by exact nI_ne0 hd hd2) rfl ?_
        refine bw_eqi (pk_div (by omega) hd hd2) ?_
        refine bw_iadd 80 dX2_takeParts_79 rfl ?_
        refine bw_eqi (nI_add _ _) ?_
        refine bw_istore_n 81 dX2_takeParts_80 rfl (by decide) ?_
        refine bw_aload_n 82 dX2_takeParts_81 rfl rfl ?_
        refine bw_get 85 dX2_takeParts_82 rfl lX2_33 (hC.at 0 rfl) rfl ?_
        refine bw_aload_n 86 dX2_takeParts_85 rfl rfl ?_
        refine bw_get 89 dX2_takeParts_86 rfl lX2_14 (hC.at 0 rfl) rfl ?_
        refine bw_aload_n 90 dX2_takeParts_89 rfl rfl ?_
        refine bw_get 93 dX2_takeParts_90 rfl lX2_23 (hC.at 0 rfl) rfl ?_
        refine bw_cVv 96 dX2_takeParts_93 rfl vX2_73 (c0_toQuotient g hG (hC.sub [1, 2, 3, 4, 5, 8, 9] (by decide) rfl) (by omega) (by omega) (hL.mono (by omega)) (hs.mono (by omega)) hs0) (hC.at 1 rfl) rfl rfl (Nat.le_of_ble_eq_true rfl) ⟨(Nat.le_of_ble_eq_true rfl), (Nat.le_of_ble_eq_true rfl)⟩ (Nat.le_of_ble_eq_true rfl) (Nat.le_of_ble_eq_true rfl) (fun A hP => ?_)
        have hC := hC.po 4 5 rfl rfl hP
        have hM := hM.po hP (by simp) (by simp)
        refine bw_aload_n 97 dX2_takeParts_96 rfl rfl ?_
        refine bw_get 100 dX2_takeParts_97 rfl lX2_26 (hC.at 0 rfl) rfl ?_
        refine bw_aload_n 101 dX2_takeParts_100 rfl rfl ?_
        refine bw_get 104 dX2_takeParts_101 rfl lX2_14 (hC.at 0 rfl) rfl ?_
        refine bw_cVv 107 dX2_takeParts_104 rfl vX2_37 (c7_copyP g hG.p16 (hC.sub [10, 11, 4, 5] (by decide) rfl) (by omega) (by omega) hwo (hq.mono (by omega)) (by omega)) (hC.at 10 rfl) rfl rfl (Nat.le_of_ble_eq_true rfl) ⟨(Nat.le_of_ble_eq_true rfl), (Nat.le_of_ble_eq_true rfl)⟩ (Nat.le_of_ble_eq_true rfl) (Nat.le_of_ble_eq_true rfl) (fun A hP => ?_)
        have hC := hC.po 10 11 rfl rfl hP
        have hM := hM.po hP (by simp) (by simp)
        refine bw_aload_n 108 dX2_takeParts_107 rfl rfl ?_
        refine bw_get 111 dX2_takeParts_108 rfl lX2_33 (hC.at 0 rfl) rfl ?_
        refine bw_aload_n 112 dX2_takeParts_111 rfl rfl ?_
        refine bw_get 115 dX2_takeParts_112 rfl lX2_23 (hC.at 0 rfl) rfl ?_
        refine bw_aload_n 116 dX2_takeParts_115 rfl rfl ?_
        refine bw_get 119 dX2_takeParts_116 rfl lX2_26 (hC.at 0 rfl) rfl ?_
        refine bw_cVv 122 dX2_takeParts_119 rfl vX2_70 (c0_toGreatestDivisor g hG (hC.sub [1, 2, 3, 8, 9, 10, 11] (by decide) rfl) (by omega) (hs.mono (by omega)) (hq.mono (by omega))) (hC.at 1 rfl) rfl rfl (Nat.le_of_ble_eq_true rfl) ⟨(Nat.le_of_ble_eq_true rfl), (Nat.le_of_ble_eq_true rfl)⟩ (Nat.le_of_ble_eq_true rfl) (Nat.le_of_ble_eq_true rfl) (fun A hP => ?_)
        obtain ⟨hss, fb, mb, hwb, hh⟩ := hP
        have hC := hC.call [8, 9, 10, 11] (ppl g kc 129 (ggcd n (2 ^ n ||| p) s (gqu n (2 ^ n ||| p) L s)) .null ++ pcl g kd 129 fb mb .null) rfl rfl hss hh.1
        have hM := hM.trans hss (by simp)
        have hih := ih (k + 1) (by omega) _ _ (t + (pd s - 1) / d) _ _ _ hq hg hqp0 hg0 hgl hwb hC hM
        refine bw_iincN (1) 125 dX2_takeParts_122 rfl rfl (by decide) (by decide) ?_
        refine bw_goto 53 dX2_takeParts_125 rfl ?_
        rw [he]
        refine bw_loc _ ?_ hih
        exact ⟨rfl, rfl, rfl, congrArg (fun x => some (Value.int x)) (nI_1 k), trivial⟩
set_option maxHeartbeats 4000000 in
set_option maxRecDepth 100000 in
theorem c2_takeParts (g : bw_G) {A0 : bw_H} {K D F ka kb kc kd n p gg d mc mo : Nat} {L P fc fo : Nat → Nat} (hG : GFg n p gg) (hC : bw_has A0 ((K, kob F D ka kb kc kd) :: (dvl g n p gg D F ++ (ppl g ka 129 L .null ++ (ppl g kb 129 P .null ++ (pcl g kc 129 fc mc .null ++ pcl g kd 129 fo mo .null)))))) (hL : pok n 65 L) (hP0 : pok n 65 P) (hL0 : pd L ≠ 0) (hwc : pwk 129 fc mc) (hwo : pwk 129 fo mo) (hd : 0 < d) (hd2 : d < 2 ^ 31) :
    bw_C g (bw_rm 4 0 0) mX2_takeParts [.ref K, .int (nI d)] A0 (bw_pm (tpP g n ka kc kd (gpk n (2 ^ n ||| p) d 64 L (ggcd n (2 ^ n ||| p) L (gps n (2 ^ n ||| p) gX P 1)) 0).1 (gpk n (2 ^ n ||| p) d 64 L (ggcd n (2 ^ n ||| p) L (gps n (2 ^ n ||| p) gX P 1)) 0).2 A0)) := by
  have hxp := gps_ok hG.2.2.1 (pok.X (N := 65) hG.2.2.1.one (by omega)) hP0 hG.2.2.1.one
  have hM : bw_sm [ka, ka + 1, kc, kc + 1, kd, kd + 1] A0 A0 := bw_sm.rf
  refine bw_C.of (by decide) (Nat.le_of_ble_eq_true rfl) rfl ?_
  refine bw_aload_n 1 dX2_takeParts_0 rfl rfl ?_
  refine bw_get 4 dX2_takeParts_1 rfl lX2_26 (hC.at 0 rfl) rfl ?_
  refine bw_cVv 7 dX2_takeParts_4 rfl vX2_41 (c7_XP g (hC.sub [10, 11] (by decide) rfl) (by omega) (by omega) hwo) (hC.at 10 rfl) rfl rfl (Nat.le_of_ble_eq_true rfl) ⟨(Nat.le_of_ble_eq_true rfl), (Nat.le_of_ble_eq_true rfl)⟩ (Nat.le_of_ble_eq_true rfl) (Nat.le_of_ble_eq_true rfl) (fun A hP => ?_)
  have hC := hC.po 10 11 rfl rfl hP
  have hM := hM.po hP (by simp) (by simp)
  refine bw_aload_n 8 dX2_takeParts_7 rfl rfl ?_
  refine bw_get 11 dX2_takeParts_8 rfl lX2_26 (hC.at 0 rfl) rfl ?_
  refine bw_aload_n 12 dX2_takeParts_11 rfl rfl ?_
  refine bw_get 15 dX2_takeParts_12 rfl lX2_29 (hC.at 0 rfl) rfl ?_
  refine bw_aload_n 16 dX2_takeParts_15 rfl rfl ?_
  refine bw_get 19 dX2_takeParts_16 rfl lX2_20 (hC.at 0 rfl) rfl ?_
  refine bw_iconst (1) 20 dX2_takeParts_19 (by decide) rfl ?_
  refine bw_eqi (y := nI 1) rfl ?_
  refine bw_cVv 23 dX2_takeParts_20 rfl vX2_66 (c7_addP g hG (hC.sub [10, 11, 2, 3, 6, 7] (by decide) rfl) (by omega) (by omega) (pok.X hG.2.2.1.one (by omega)) (hP0.mono (by omega)) (Nat.le_trans (hP0.le (by omega)) (by omega)) hG.2.2.1.one) (hC.at 10 rfl) rfl rfl (Nat.le_of_ble_eq_true rfl) ⟨(Nat.le_of_ble_eq_true rfl), (Nat.le_of_ble_eq_true rfl)⟩ (Nat.le_of_ble_eq_true rfl) (Nat.le_of_ble_eq_true rfl) (fun A hP => ?_)
  have hC := hC.po 10 11 rfl rfl hP
  have hM := hM.po hP (by simp) (by simp)
  refine bw_aload_n 24 dX2_takeParts_23 rfl rfl ?_
  refine bw_get 27 dX2_takeParts_24 rfl lX2_23 (hC.at 0 rfl) rfl ?_
  refine bw_aload_n 28 dX2_takeParts_27 rfl rfl ?_
  refine bw_get 31 dX2_takeParts_28 rfl lX2_14 (hC.at 0 rfl) rfl ?_
  refine bw_cVv 34 dX2_takeParts_31 rfl vX2_37 (c7_copyP g hG.p16 (hC.sub [8, 9, 4, 5] (by decide) rfl) (by omega) (by omega) hwc (hL.mono (by omega)) (Nat.le_trans (hL.le (by omega)) (by omega))) (hC.at 8 rfl) rfl rfl (Nat.le_of_ble_eq_true rfl) ⟨(Nat.le_of_ble_eq_true rfl), (Nat.le_of_ble_eq_true rfl)⟩ (Nat.le_of_ble_eq_true rfl) (Nat.le_of_ble_eq_true rfl) (fun A hP => ?_)
  have hC := hC.po 8 9 rfl rfl hP
  have hM := hM.po hP (by simp) (by simp)
  refine bw_aload_n 35 dX2_takeParts_34 rfl rfl ?_
  refine bw_get 38 dX2_takeParts_35 rfl lX2_33 (hC.at 0 rfl) rfl ?_
  refine bw_aload_n 39 dX2_takeParts_38 rfl rfl ?_
  refine bw_get 42 dX2_takeParts_39 rfl lX2_23 (hC.at 0 rfl) rfl ?_
  refine bw_aload_n 43 dX2_takeParts_42 rfl rfl ?_
  refine bw_get 46 dX2_takeParts_43 rfl lX2_26 (hC.at 0 rfl) rfl ?_
  refine bw_cVv 49 dX2_takeParts_46 rfl vX2_70 (c0_toGreatestDivisor g hG (hC.sub [1, 2, 3, 8, 9, 10, 11] (by decide) rfl) (by omega) (hL.mono (by omega)) (hxp.mono (by omega))) (hC.at 1 rfl) rfl rfl (Nat.le_of_ble_eq_true rfl) ⟨(Nat.le_of_ble_eq_true rfl), (Nat.le_of_ble_eq_true rfl)⟩ (Nat.le_of_ble_eq_true rfl) (Nat.le_of_ble_eq_true rfl) (fun A hP => ?_)
  obtain ⟨hss, fb, mb, hwb, hh⟩ := hP
  have hC := hC.call [8, 9, 10, 11] (ppl g kc 129 (ggcd n (2 ^ n ||| p) L (gps n (2 ^ n ||| p) gX P 1)) .null ++ pcl g kd 129 fb mb .null) rfl rfl hss hh.1
  have hM := hM.trans hss (by simp)
  refine bw_iconst (0) 50 dX2_takeParts_49 (by decide) rfl ?_
  refine bw_eqi (y := nI 0) rfl ?_
  refine bw_istore_n 51 dX2_takeParts_50 rfl (by decide) ?_
  refine bw_iconst (0) 52 dX2_takeParts_51 (by decide) rfl ?_
  refine bw_eqi (y := nI 0) rfl ?_
  refine bw_istore_n 53 dX2_takeParts_52 rfl (by decide) ?_
  refine bw_loc _ ?_ (c2_take_loop g hG hd hd2 64 0 (by omega) L _ 0 _ _ _ hL (ggcd_ok hG.2.2.1 (by omega) hL hxp) hL0 (ggcd_ne0 hG (show 65 ≤ 200 by omega) hL hxp (Or.inl hL0)) (ggcd_leA hG (show 65 ≤ 200 by omega) hL hxp hL0) hwb hC hM)
  exact ⟨rfl, rfl, rfl, rfl, trivial⟩
/-- k squares of P -/
def gsn (n q : Nat) (L : Nat → Nat) : Nat → (Nat → Nat) → Nat → Nat
  | 0, P => P
  | k + 1, P => gsn n q L k (grs n q (gsq n q P) L)
theorem gsn_ok {n q : Nat} (hG : GFp n q) {L : Nat → Nat} (hL : pd L ≤ 65) : ∀ (k : Nat) {P : Nat → Nat}, pok n 64 P → pok n 64 (gsn n q L k P)
  | 0, _, h => h
  | k + 1, _, h => gsn_ok hG hL k ((grs_ok hG (gsq_ok hG h (M := 128) (by omega))).mono (by omega))
/-- the last part -/
def gce (L C : Nat → Nat) (i : Nat) : Nat := if 2 ≤ pd L ∧ i = pd L - 1 then 1 else C i
/-- the counts of parts -/
def gcn (n q : Nat) : Nat → Nat → (Nat → Nat) → (Nat → Nat) → (Nat → Nat) → Nat → Nat
  | 0, _, L, _, C => gce L C
  | r + 1, d, L, P, C => if pd L ≤ 2 * d then gce L C else
      gcn n q r (d + 1) (gpk n q d 64 L (ggcd n q L (gps n q gX (gsn n q L n P) 1)) 0).1 (grs n q (gsn n q L n P) (gpk n q d 64 L (ggcd n q L (gps n q gX (gsn n q L n P) 1)) 0).1) (fun i => if i = d then (gpk n q d 64 L (ggcd n q L (gps n q gX (gsn n q L n P) 1)) 0).2 else C i)
abbrev ktL (ka kb kc kd : Nat) : List Nat := [ka, ka + 1, kb, kb + 1, kc, kc + 1, kd, kd + 1]
/-- the cells that Factors works in -/
def ktW (g : bw_G) (ka kb kc kd : Nat) (A : bw_H) : Prop := ∃ (fa fb fc fd : Nat → Nat) (ma mb mc md : Nat), pwk 129 fa ma ∧ pwk 129 fb mb ∧ pwk 129 fc mc ∧ pwk 129 fd md ∧ bw_has A (pcl g ka 129 fa ma .null ++ (pcl g kb 129 fb mb .null ++ (pcl g kc 129 fc mc .null ++ pcl g kd 129 fd md .null)))
set_option maxHeartbeats 4000000 in
set_option maxRecDepth 100000 in
theorem c2_sq_loop (g : bw_G) {A0 : bw_H} {Q : bw_O → bw_H → Prop} {K D F ka kb kc kd ca pa n p gg d mc md : Nat} {L C fc fd : Nat → Nat} (hG : GFg n p gg) (hL : pok n 65 L) (hL0 : pd L ≠ 0) :
    ∀ (r k : Nat), k + r = n → ∀ (P : Nat → Nat) (A : bw_H), pok n 64 P → bw_has A ((K, kob F D ka kb kc kd) :: (dvl g n p gg D F ++ ((ca, bw_an g 65 C) :: (ppl g ka 129 L .null ++ (ppl g kb 129 P .null ++ (pcl g kc 129 fc mc .null ++ pcl g kd 129 fd md .null)))))) → bw_sm (ca :: ktL ka kb kc kd) A0 A →
      (∀ A' : bw_H, bw_has A' ((K, kob F D ka kb kc kd) :: (dvl g n p gg D F ++ ((ca, bw_an g 65 C) :: (ppl g ka 129 L .null ++ (ppl g kb 129 (gsn n (2 ^ n ||| p) L r P) .null ++ (pcl g kc 129 fc mc .null ++ pcl g kd 129 fd md .null)))))) → bw_sm (ca :: ktL ka kb kc kd) A0 A' → bw_W g (bw_rm 5 0 0) mX2_count Q 0 0 81 [(0, .ref K), (2, .ref ca), (3, .int (nI d))] [] A') →
      bw_W g (bw_rm 5 0 0) mX2_count Q 0 0 48 [(0, .ref K), (2, .ref ca), (3, .int (nI d)), (4, .int (nI k))] [] A := by
  have hn := hG.n16
  have hLl := hL.le (show 65 ≤ 200 by omega)
  intro r
  induction r with
  | zero =>
    intro k hk P A hP0 hC hM kk
    have hk : k = n := by omega
    subst hk
    refine bw_iload 50 dX2_count_48 rfl rfl ?_
    refine bw_aload_n 51 dX2_count_50 rfl rfl ?_
    refine bw_get 54 dX2_count_51 rfl lX2_29 (hC.at 0 rfl) rfl ?_
    refine bw_get 57 dX2_count_54 rfl lX2_54 (hC.at 2 rfl) rfl ?_
    refine bw_icmp_ge 81 60 dX2_count_57 rfl rfl (fun c57 => ?_) (fun c57 => ?_)
    · exact bw_loc [(0, .ref K), (2, .ref ca), (3, .int (nI d))] ⟨rfl, rfl, rfl, trivial⟩ (kk _ hC hM)
    · exact absurd (Int32.le_refl _) c57
  | succ r ih =>
    intro k hk P A hP0 hC hM kk
    refine bw_iload 50 dX2_count_48 rfl rfl ?_
    refine bw_aload_n 51 dX2_count_50 rfl rfl ?_
    refine bw_get 54 dX2_count_51 rfl lX2_29 (hC.at 0 rfl) rfl ?_
    refine bw_get 57 dX2_count_54 rfl lX2_54 (hC.at 2 rfl) rfl ?_
    refine bw_icmp_ge 81 60 dX2_count_57 rfl rfl (fun c57 => ?_) (fun c57 => ?_)
    · exact absurd c57 (nI_ge (by omega) (by omega))
    · skip
      refine bw_aload_n 61 dX2_count_60 rfl rfl ?_
      refine bw_get 64 dX2_count_61 rfl lX2_33 (hC.at 0 rfl) rfl ?_
      refine bw_aload_n 65 dX2_count_64 rfl rfl ?_
      refine bw_get 68 dX2_count_65 rfl lX2_20 (hC.at 0 rfl) rfl ?_
      refine bw_aload_n 69 dX2_count_68 rfl rfl ?_
      refine bw_get 72 dX2_count_69 rfl lX2_14 (hC.at 0 rfl) rfl ?_
      refine bw_cVv 75 dX2_count_72 rfl vX2_59 (c0_toSquareRest g hG (hC.sub [1, 2, 3, 7, 8, 5, 6] (by decide) rfl) (by omega) (by omega) (by omega) (hP0.mono (by omega)) (hL.mono (by omega)) hL0 (Nat.le_trans (hP0.le (by omega)) (by omega))) (hC.at 1 rfl) rfl rfl (Nat.le_of_ble_eq_true rfl) ⟨(Nat.le_of_ble_eq_true rfl), (Nat.le_of_ble_eq_true rfl)⟩ (Nat.le_of_ble_eq_true rfl) (Nat.le_of_ble_eq_true rfl) (fun A hP => ?_)
      have hC := hC.po 7 8 rfl rfl hP
      have hM := hM.po hP (by simp) (by simp)
      refine bw_iincN (1) 78 dX2_count_75 rfl rfl (by decide) (by decide) ?_
      refine bw_goto 48 dX2_count_78 rfl ?_
      refine bw_loc [(0, .ref K), (2, .ref ca), (3, .int (nI d)), (4, .int (nI (k + 1)))] ⟨rfl, rfl, rfl, congrArg (fun x => some (Value.int x)) (nI_1 k), trivial⟩ ?_
      exact ih (k + 1) (by omega) _ _ ((grs_ok hG.2.2.1 (gsq_ok hG.2.2.1 hP0 (M := 128) (by omega))).mono (by omega)) hC hM kk
set_option maxHeartbeats 4000000 in
set_option maxRecDepth 100000 in
theorem c2_count_step {g : bw_G} {A0 : bw_H} {Q : bw_O → bw_H → Prop} {K D F ka kb kc kd ca n p gg d mc md : Nat} {L P1 C fc fd : Nat → Nat} {A : bw_H} (hG : GFg n p gg) (hd1 : 0 < d) (hd2 : d < 65) (hL : pok n 65 L) (hL0 : pd L ≠ 0) (hP1 : pok n 64 P1) (hwc : pwk 129 fc mc) (hwd : pwk 129 fd md) (hC : bw_has A ((K, kob F D ka kb kc kd) :: (dvl g n p gg D F ++ ((ca, bw_an g 65 C) :: (ppl g ka 129 L .null ++ (ppl g kb 129 P1 .null ++ (pcl g kc 129 fc mc .null ++ pcl g kd 129 fd md .null))))))) (hM : bw_sm (ca :: ktL ka kb kc kd) A0 A)
    (kk : ∀ (L' C' P' fc fd : Nat → Nat) (mc md : Nat) (A : bw_H), L' = (gpk n (2 ^ n ||| p) d 64 L (ggcd n (2 ^ n ||| p) L (gps n (2 ^ n ||| p) gX P1 1)) 0).1 → C' = (fun i => if i = d then (gpk n (2 ^ n ||| p) d 64 L (ggcd n (2 ^ n ||| p) L (gps n (2 ^ n ||| p) gX P1 1)) 0).2 else C i) → P' = grs n (2 ^ n ||| p) P1 L' → pok n 65 L' → pd L' ≠ 0 → pok n 64 P' → pwk 129 fc mc → pwk 129 fd md → bw_has A ((K, kob F D ka kb kc kd) :: (dvl g n p gg D F ++ ((ca, bw_an g 65 C') :: (ppl g ka 129 L' .null ++ (ppl g kb 129 P' .null ++ (pcl g kc 129 fc mc .null ++ pcl g kd 129 fd md .null)))))) → bw_sm (ca :: ktL ka kb kc kd) A0 A → bw_W g (bw_rm 5 0 0) mX2_count Q 0 0 32 [(0, .ref K), (2, .ref ca), (3, .int (nI (d + 1)))] [] A) :
    bw_W g (bw_rm 5 0 0) mX2_count Q 0 0 81 [(0, .ref K), (2, .ref ca), (3, .int (nI d))] [] A := by
  refine bw_aload_n 82 dX2_count_81 rfl rfl ?_
  refine bw_iload_n 83 dX2_count_82 rfl rfl ?_
  refine bw_aload_n 84 dX2_count_83 rfl rfl ?_
  refine bw_iload_n 85 dX2_count_84 rfl rfl ?_
  refine bw_cVm 88 dX2_count_85 rfl vX2_62 (c2_takeParts g hG (hC.sub [0, 1, 2, 3, 5, 6, 7, 8, 9, 10, 11, 12] (by decide) rfl) hL (hP1.mono (by omega)) hL0 hwc hwd hd1 (by omega)) (hC.at 0 rfl) rfl rfl (Nat.le_of_ble_eq_true rfl) ⟨(Nat.le_of_ble_eq_true rfl), (Nat.le_of_ble_eq_true rfl)⟩ (Nat.le_of_ble_eq_true rfl) (Nat.le_of_ble_eq_true rfl) (fun x A hP => ?_)
  obtain ⟨hx, hss, hL', hL0', fc', fd', mc', md', hwc', hwd', hh⟩ := hP
  subst hx
  have hC := hC.call [5, 6, 9, 10, 11, 12] (ppl g ka 129 (gpk n (2 ^ n ||| p) d 64 L (ggcd n (2 ^ n ||| p) L (gps n (2 ^ n ||| p) gX P1 1)) 0).1 .null ++ (pcl g kc 129 fc' mc' .null ++ pcl g kd 129 fd' md' .null)) rfl rfl hss hh.1
  have hM := hM.trans hss (by simp)
  refine bw_iastN 89 dX2_count_88 rfl (hC.at 4 rfl) (by omega) (by omega) (G := _) (rfl) (fun A hU => ?_)
  have hC := hC.upd 4 rfl hU
  have hM := hM.upd hU (by simp)
  clear hU
  refine bw_aload_n 90 dX2_count_89 rfl rfl ?_
  refine bw_get 93 dX2_count_90 rfl lX2_33 (hC.at 0 rfl) rfl ?_
  refine bw_aload_n 94 dX2_count_93 rfl rfl ?_
  refine bw_get 97 dX2_count_94 rfl lX2_20 (hC.at 0 rfl) rfl ?_
  refine bw_aload_n 98 dX2_count_97 rfl rfl ?_
  refine bw_get 101 dX2_count_98 rfl lX2_14 (hC.at 0 rfl) rfl ?_
  refine bw_cVv 104 dX2_count_101 rfl vX2_44 (c0_toRest g hG (hC.sub [1, 2, 3, 7, 8, 5, 6] (by decide) rfl) (by omega) (by omega) (hP1.mono (by omega)) (hL'.mono (by omega)) hL0') (hC.at 1 rfl) rfl rfl (Nat.le_of_ble_eq_true rfl) ⟨(Nat.le_of_ble_eq_true rfl), (Nat.le_of_ble_eq_true rfl)⟩ (Nat.le_of_ble_eq_true rfl) (Nat.le_of_ble_eq_true rfl) (fun A hP => ?_)
  have hC := hC.po 7 8 rfl rfl hP
  have hM := hM.po hP (by simp) (by simp)
  refine bw_iincN (1) 107 dX2_count_104 rfl rfl (by decide) (by decide) ?_
  refine bw_goto 32 dX2_count_107 rfl ?_
  refine bw_loc [(0, .ref K), (2, .ref ca), (3, .int (nI (d + 1)))] ⟨rfl, rfl, congrArg (fun x => some (Value.int x)) (nI_1 d), trivial⟩ ?_
  exact kk _ _ _ fc' fd' mc' md' _ rfl rfl rfl hL' hL0' ((grs_ok hG.2.2.1 hP1).mono (by have := hL'.le (show 65 ≤ 200 by omega); omega)) hwc' hwd' hC hM
/-- what count leaves -/
def cnP (g : bw_G) (ka kb kc kd ca : Nat) (C : Nat → Nat) (A0 A' : bw_H) : Prop := bw_sm (ca :: ktL ka kb kc kd) A0 A' ∧ bw_has A' [(ca, bw_an g 65 C)] ∧ ktW g ka kb kc kd A'
theorem gce_s {L C : Nat → Nat} (h : 2 ≤ pd L) : (fun i => if i = pd L - 1 then 1 else C i) = gce L C := by
  funext i
  unfold gce
  by_cases h1 : i = pd L - 1
  · rw [if_pos h1, if_pos ⟨h, h1⟩]
  · rw [if_neg h1, if_neg (fun q => h1 q.2)]
set_option maxHeartbeats 4000000 in
set_option maxRecDepth 100000 in
theorem c2_count_loop (g : bw_G) {A0 : bw_H} {K D F ka kb kc kd ca n p gg : Nat} (hG : GFg n p gg) :
    ∀ (r d : Nat), d + r = 33 → 1 ≤ d → ∀ (L P C fc fd : Nat → Nat) (mc md : Nat) (A : bw_H), pok n 65 L → pd L ≠ 0 → pok n 64 P → pwk 129 fc mc → pwk 129 fd md → bw_has A ((K, kob F D ka kb kc kd) :: (dvl g n p gg D F ++ ((ca, bw_an g 65 C) :: (ppl g ka 129 L .null ++ (ppl g kb 129 P .null ++ (pcl g kc 129 fc mc .null ++ pcl g kd 129 fd md .null)))))) → bw_sm (ca :: ktL ka kb kc kd) A0 A →
      bw_W g (bw_rm 5 0 0) mX2_count (bw_pv (cnP g ka kb kc kd ca (gcn n (2 ^ n ||| p) r d L P C) A0)) 0 0 32 [(0, .ref K), (2, .ref ca), (3, .int (nI d))] [] A := by
  intro r
  induction r with
  | zero =>
    intro d hd hd1 L P C fc fd mc md A hL hL0 hP0 hwc hwd hC hM
    have hLl := hL.le (show 65 ≤ 200 by omega)
    have he : gcn n (2 ^ n ||| p) 0 d L P C = gce L C := rfl
    refine bw_iconst (2) 33 dX2_count_32 (by decide) rfl ?_
    refine bw_eqi (y := nI 2) rfl ?_
    refine bw_iload_n 34 dX2_count_33 rfl rfl ?_
    refine bw_imul 35 dX2_count_34 rfl ?_
    refine bw_eqi (pk_mul 2 d) ?_
    refine bw_aload_n 36 dX2_count_35 rfl rfl ?_
    refine bw_get 39 dX2_count_36 rfl lX2_14 (hC.at 0 rfl) rfl ?_
    refine bw_get 42 dX2_count_39 rfl lX2_50 (hC.at 5 rfl) rfl ?_
    refine bw_icmp_gt 110 45 dX2_count_42 rfl rfl (fun c42 => ?_) (fun c42 => ?_)
    · skip
      refine bw_aload_n 111 dX2_count_110 rfl rfl ?_
      refine bw_get 114 dX2_count_111 rfl lX2_14 (hC.at 0 rfl) rfl ?_
      refine bw_get 117 dX2_count_114 rfl lX2_50 (hC.at 5 rfl) rfl ?_
      refine bw_if_le 130 120 dX2_count_117 rfl rfl (fun c117 => ?_) (fun c117 => ?_)
      · have hL1 : pd L ≤ 1 := (tI_le0 (by omega)).mp c117
        have hgc : gce L C = C := by
          funext i
          exact if_neg (by omega)
        refine bw_vret dX2_count_130 rfl (Nat.le_of_ble_eq_true rfl) (Nat.le_of_ble_eq_true rfl) ?_
        first
          | exact ⟨rfl, hM, by rw [he, hgc]; exact hC.sub [4] (by decide) rfl, L, P, fc, fd, pd L, pd P, mc, md, (hL.mono (by omega)).pwk (by omega), (hP0.mono (by omega)).pwk (by omega), hwc, hwd, hC.sub [5, 6, 7, 8, 9, 10, 11, 12] (by decide) rfl⟩
          | exact ⟨rfl, hM, by rw [he]; exact hC.sub [4] (by decide) rfl, L, P, fc, fd, pd L, pd P, mc, md, (hL.mono (by omega)).pwk (by omega), (hP0.mono (by omega)).pwk (by omega), hwc, hwd, hC.sub [5, 6, 7, 8, 9, 10, 11, 12] (by decide) rfl⟩
      · have hL1 : ¬ pd L ≤ 1 := fun h => c117 ((tI_le0 (by omega)).mpr h)
        refine bw_aload_n 121 dX2_count_120 rfl rfl ?_
        refine bw_aload_n 122 dX2_count_121 rfl rfl ?_
        refine bw_get 125 dX2_count_122 rfl lX2_14 (hC.at 0 rfl) rfl ?_
        refine bw_get 128 dX2_count_125 rfl lX2_50 (hC.at 5 rfl) rfl ?_
        refine bw_eqi (tI_p hL0) ?_
        refine bw_iconst (1) 129 dX2_count_128 (by decide) rfl ?_
        refine bw_eqi (y := nI 1) rfl ?_
        refine bw_iastN 130 dX2_count_129 rfl (hC.at 4 rfl) (by omega) (by omega) (G := gce L C) (gce_s (by omega)) (fun A hU => ?_)
        have hC := hC.upd 4 rfl hU
        have hM := hM.upd hU (by simp)
        clear hU
        refine bw_vret dX2_count_130 rfl (Nat.le_of_ble_eq_true rfl) (Nat.le_of_ble_eq_true rfl) ?_
        first
          | exact ⟨rfl, hM, by rw [he, hgc]; exact hC.sub [4] (by decide) rfl, L, P, fc, fd, pd L, pd P, mc, md, (hL.mono (by omega)).pwk (by omega), (hP0.mono (by omega)).pwk (by omega), hwc, hwd, hC.sub [5, 6, 7, 8, 9, 10, 11, 12] (by decide) rfl⟩
          | exact ⟨rfl, hM, by rw [he]; exact hC.sub [4] (by decide) rfl, L, P, fc, fd, pd L, pd P, mc, md, (hL.mono (by omega)).pwk (by omega), (hP0.mono (by omega)).pwk (by omega), hwc, hwd, hC.sub [5, 6, 7, 8, 9, 10, 11, 12] (by decide) rfl⟩
    · exact absurd ((tI_ltk (by omega) (by omega)).mpr (by omega)) c42
  | succ r ih =>
    intro d hd hd1 L P C fc fd mc md A hL hL0 hP0 hwc hwd hC hM
    have hLl := hL.le (show 65 ≤ 200 by omega)
    refine bw_iconst (2) 33 dX2_count_32 (by decide) rfl ?_
    refine bw_eqi (y := nI 2) rfl ?_
    refine bw_iload_n 34 dX2_count_33 rfl rfl ?_
    refine bw_imul 35 dX2_count_34 rfl ?_
    refine bw_eqi (pk_mul 2 d) ?_
    refine bw_aload_n 36 dX2_count_35 rfl rfl ?_
    refine bw_get 39 dX2_count_36 rfl lX2_14 (hC.at 0 rfl) rfl ?_
    refine bw_get 42 dX2_count_39 rfl lX2_50 (hC.at 5 rfl) rfl ?_
    refine bw_icmp_gt 110 45 dX2_count_42 rfl rfl (fun c42 => ?_) (fun c42 => ?_)
    · have hcd : pd L ≤ 2 * d := (tI_ltk (by omega) (by omega)).mp c42
      have he : gcn n (2 ^ n ||| p) (r + 1) d L P C = gce L C := if_pos hcd
      refine bw_aload_n 111 dX2_count_110 rfl rfl ?_
      refine bw_get 114 dX2_count_111 rfl lX2_14 (hC.at 0 rfl) rfl ?_
      refine bw_get 117 dX2_count_114 rfl lX2_50 (hC.at 5 rfl) rfl ?_
      refine bw_if_le 130 120 dX2_count_117 rfl rfl (fun c117 => ?_) (fun c117 => ?_)
      · have hL1 : pd L ≤ 1 := (tI_le0 (by omega)).mp c117
        have hgc : gce L C = C := by
          funext i
          exact if_neg (by omega)
        refine bw_vret dX2_count_130 rfl (Nat.le_of_ble_eq_true rfl) (Nat.le_of_ble_eq_true rfl) ?_
        first
          | exact ⟨rfl, hM, by rw [he, hgc]; exact hC.sub [4] (by decide) rfl, L, P, fc, fd, pd L, pd P, mc, md, (hL.mono (by omega)).pwk (by omega), (hP0.mono (by omega)).pwk (by omega), hwc, hwd, hC.sub [5, 6, 7, 8, 9, 10, 11, 12] (by decide) rfl⟩
          | exact ⟨rfl, hM, by rw [he]; exact hC.sub [4] (by decide) rfl, L, P, fc, fd, pd L, pd P, mc, md, (hL.mono (by omega)).pwk (by omega), (hP0.mono (by omega)).pwk (by omega), hwc, hwd, hC.sub [5, 6, 7, 8, 9, 10, 11, 12] (by decide) rfl⟩
      · have hL1 : ¬ pd L ≤ 1 := fun h => c117 ((tI_le0 (by omega)).mpr h)
        refine bw_aload_n 121 dX2_count_120 rfl rfl ?_
        refine bw_aload_n 122 dX2_count_121 rfl rfl ?_
        refine bw_get 125 dX2_count_122 rfl lX2_14 (hC.at 0 rfl) rfl ?_
        refine bw_get 128 dX2_count_125 rfl lX2_50 (hC.at 5 rfl) rfl ?_
        refine bw_eqi (tI_p hL0) ?_
        refine bw_iconst (1) 129 dX2_count_128 (by decide) rfl ?_
        refine bw_eqi (y := nI 1) rfl ?_
        refine bw_iastN 130 dX2_count_129 rfl (hC.at 4 rfl) (by omega) (by omega) (G := gce L C) (gce_s (by omega)) (fun A hU => ?_)
        have hC := hC.upd 4 rfl hU
        have hM := hM.upd hU (by simp)
        clear hU
        refine bw_vret dX2_count_130 rfl (Nat.le_of_ble_eq_true rfl) (Nat.le_of_ble_eq_true rfl) ?_
        first
          | exact ⟨rfl, hM, by rw [he, hgc]; exact hC.sub [4] (by decide) rfl, L, P, fc, fd, pd L, pd P, mc, md, (hL.mono (by omega)).pwk (by omega), (hP0.mono (by omega)).pwk (by omega), hwc, hwd, hC.sub [5, 6, 7, 8, 9, 10, 11, 12] (by decide) rfl⟩
          | exact ⟨rfl, hM, by rw [he]; exact hC.sub [4] (by decide) rfl, L, P, fc, fd, pd L, pd P, mc, md, (hL.mono (by omega)).pwk (by omega), (hP0.mono (by omega)).pwk (by omega), hwc, hwd, hC.sub [5, 6, 7, 8, 9, 10, 11, 12] (by decide) rfl⟩
    · have hcd : ¬ pd L ≤ 2 * d := fun h => c42 ((tI_ltk (by omega) (by omega)).mpr h)
      refine bw_iconst (0) 46 dX2_count_45 (by decide) rfl ?_
      refine bw_eqi (y := nI 0) rfl ?_
      refine bw_istore 48 dX2_count_46 rfl (by decide) ?_
      refine bw_loc [(0, .ref K), (2, .ref ca), (3, .int (nI d)), (4, .int (nI 0))] ⟨rfl, rfl, rfl, rfl, trivial⟩ ?_
      refine c2_sq_loop g (A0 := A0) (pa := 0) hG hL hL0 n 0 (by omega) P _ hP0 hC hM (fun A hC hM => ?_)
      have hP1 := gsn_ok hG.2.2.1 hLl n hP0
      have he : gcn n (2 ^ n ||| p) (r + 1) d L P C = _ := if_neg hcd
      rw [he]
      exact c2_count_step hG (by omega) (by omega) hL hL0 hP1 hwc hwd hC hM (fun L' C' P' fc fd mc md A h1 h2 h3 h4 h5 h6 h7 h8 h9 h10 => by
        subst h1 h2 h3
        exact ih (d + 1) (by omega) (by omega) _ _ _ fc fd mc md A h4 h5 h6 h7 h8 h9 h10)
set_option maxHeartbeats 4000000 in
set_option maxRecDepth 100000 in
theorem c2_count (g : bw_G) {A0 : bw_H} {K D F ka kb kc kd ca pa n p gg ma mb mc md : Nat} {C f fa fb fc fd : Nat → Nat} {w : Value} (hG : GFg n p gg) (hC : bw_has A0 (((K, kob F D ka kb kc kd) :: (dvl g n p gg D F ++ ((ca, bw_an g 65 C) :: (pcl g ka 129 fa ma .null ++ (pcl g kb 129 fb mb .null ++ (pcl g kc 129 fc mc .null ++ pcl g kd 129 fd md .null)))))) ++ ppl g pa 65 f w)) (hf : pok n 65 f) (h0 : pd f ≠ 0) (hwa : pwk 129 fa ma) (hwb : pwk 129 fb mb) (hwc : pwk 129 fc mc) (hwd : pwk 129 fd md) :
    bw_C g (bw_rm 5 0 0) mX2_count [.ref K, .ref pa, .ref ca] A0 (bw_pv (cnP g ka kb kc kd ca (gcn n (2 ^ n ||| p) 32 1 f (grs n (2 ^ n ||| p) gX f) C) A0)) := by
  have hM : bw_sm (ca :: ktL ka kb kc kd) A0 A0 := bw_sm.rf
  refine bw_C.of (by decide) (Nat.le_of_ble_eq_true rfl) rfl ?_
  refine bw_aload_n 1 dX2_count_0 rfl rfl ?_
  refine bw_get 4 dX2_count_1 rfl lX2_14 (hC.at 0 rfl) rfl ?_
  refine bw_aload_n 5 dX2_count_4 rfl rfl ?_
  refine bw_cVv 8 dX2_count_5 rfl vX2_37 (c7_copyP g hG.p16 (hC.sub [5, 6, 13, 14] (by decide) rfl) (by omega) (by omega) hwa hf (Nat.le_trans (hf.le (by omega)) (by omega))) (hC.at 5 rfl) rfl rfl (Nat.le_of_ble_eq_true rfl) ⟨(Nat.le_of_ble_eq_true rfl), (Nat.le_of_ble_eq_true rfl)⟩ (Nat.le_of_ble_eq_true rfl) (Nat.le_of_ble_eq_true rfl) (fun A hP => ?_)
  have hC := hC.po 5 6 rfl rfl hP
  have hM := hM.po hP (by simp) (by simp)
  refine bw_aload_n 9 dX2_count_8 rfl rfl ?_
  refine bw_get 12 dX2_count_9 rfl lX2_20 (hC.at 0 rfl) rfl ?_
  refine bw_cVv 15 dX2_count_12 rfl vX2_41 (c7_XP g (hC.sub [7, 8] (by decide) rfl) (by omega) (by omega) hwb) (hC.at 7 rfl) rfl rfl (Nat.le_of_ble_eq_true rfl) ⟨(Nat.le_of_ble_eq_true rfl), (Nat.le_of_ble_eq_true rfl)⟩ (Nat.le_of_ble_eq_true rfl) (Nat.le_of_ble_eq_true rfl) (fun A hP => ?_)
  have hC := hC.po 7 8 rfl rfl hP
  have hM := hM.po hP (by simp) (by simp)
  refine bw_aload_n 16 dX2_count_15 rfl rfl ?_
  refine bw_get 19 dX2_count_16 rfl lX2_33 (hC.at 0 rfl) rfl ?_
  refine bw_aload_n 20 dX2_count_19 rfl rfl ?_
  refine bw_get 23 dX2_count_20 rfl lX2_20 (hC.at 0 rfl) rfl ?_
  refine bw_aload_n 24 dX2_count_23 rfl rfl ?_
  refine bw_get 27 dX2_count_24 rfl lX2_14 (hC.at 0 rfl) rfl ?_
  refine bw_cVv 30 dX2_count_27 rfl vX2_44 (c0_toRest g hG (hC.sub [1, 2, 3, 7, 8, 5, 6] (by decide) rfl) (by omega) (by omega) (pok.X hG.2.2.1.one (by omega)) (hf.mono (by omega)) h0) (hC.at 1 rfl) rfl rfl (Nat.le_of_ble_eq_true rfl) ⟨(Nat.le_of_ble_eq_true rfl), (Nat.le_of_ble_eq_true rfl)⟩ (Nat.le_of_ble_eq_true rfl) (Nat.le_of_ble_eq_true rfl) (fun A hP => ?_)
  have hC := hC.po 7 8 rfl rfl hP
  have hM := hM.po hP (by simp) (by simp)
  refine bw_iconst (1) 31 dX2_count_30 (by decide) rfl ?_
  refine bw_eqi (y := nI 1) rfl ?_
  refine bw_istore_n 32 dX2_count_31 rfl (by decide) ?_
  refine bw_loc [(0, .ref K), (2, .ref ca), (3, .int (nI 1))] ⟨rfl, rfl, rfl, trivial⟩ ?_
  exact c2_count_loop g hG 32 1 (by omega) (by omega) f _ C fc fd mc md _ hf h0 ((grs_ok hG.2.2.1 (pok.X (N := 2) hG.2.2.1.one (by omega))).mono (by have := hf.le (show 65 ≤ 200 by omega); omega)) hwc hwd (hC.sub [0, 1, 2, 3, 4, 5, 6, 7, 8, 9, 10, 11, 12] (by decide) rfl) hM
