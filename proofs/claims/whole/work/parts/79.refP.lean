/-! the reference: through, back -/
theorem gvl_gps {n q N : Nat} (hG : GFp n q) (hN : N ≤ 200) {F T : Nat → Nat} {c v : Nat} (hF : pok n N F) (hT : pok n N T) (hc : c < 2 ^ n) (hv : v < 2 ^ n) : gvl n q (gps n q F T c) v = gvl n q F v ^^^ gm n q c (gvl n q T v) := by
  letI := gfF hG
  letI := @plR (GFt n q) (gfR hG)
  have P := gf_pol hG
  obtain ⟨f, hf⟩ := rp.ex hG P hF
  obtain ⟨t, ht⟩ := rp.ex hG P hT
  have h1 := gvl_rp hG P hN (gps_rp hG P hf ht hc) (gps_ok hG hF hT hc) hv
  have h2 := vl.add P (gvl_rp hG P hN hf hF hv) (vl.mul P (vl.C P (gfz v) (gfz c)) (gvl_rp hG P hN ht hT hv))
  have h3 := vl.un P h1 h2
  rw [← gfz_m hG hc (gvl_lt hG hT v), ← gfz_x hG (gvl_lt hG hF v) (hG.lt hc)] at h3
  exact gfz_inj (gvl_lt hG (gps_ok hG hF hT hc) v) (xor_lt (gvl_lt hG hF v) (hG.lt hc)) h3
theorem gvl_gma {n q N : Nat} (hG : GFp n q) (hN : N + 1 ≤ 200) {T : Nat → Nat} {x v : Nat} (hT : pok n N T) (hx : x < 2 ^ n) (hv : v < 2 ^ n) : gvl n q (gma n q T x 0) v = gm n q (v ^^^ x) (gvl n q T v) := by
  letI := gfF hG
  letI := @plR (GFt n q) (gfR hG)
  have P := gf_pol hG
  obtain ⟨t, ht⟩ := rp.ex hG P hT
  have h0 := gma_rp hG P ht hx (Nat.two_pow_pos n)
  have h1 := gvl_rp hG P hN h0 (gma_ok hG (v := x) hT (Nat.two_pow_pos n)) hv
  have h2 := vl.add P (vl.mul P (vl.Xr P (gfz v) (gfz x)) (gvl_rp hG P (by omega) ht hT hv)) (vl.C P (gfz v) (gfz 0))
  have h3 := vl.un P h1 h2
  rw [← gfz_x hG hv hx, ← gfz_m hG (xor_lt hv hx) (gvl_lt hG hT v), ← gfz_x hG (hG.lt (xor_lt hv hx)) (Nat.two_pow_pos n), Nat.xor_zero] at h3
  exact gfz_inj (gvl_lt hG (gma_ok hG (v := x) hT (Nat.two_pow_pos n)) v) (hG.lt (xor_lt hv hx)) h3
/-- one and two behind k points -/
def gpn (n q : Nat) (X Y : Nat → Nat) : Nat → (Nat → Nat) × (Nat → Nat)
  | 0 => (fun _ => 0, fun i => if i = 0 then 1 else 0)
  | k + 1 => (gpt1 n q (gpn n q X Y k).1 (gpn n q X Y k).2 (X k) (Y k), gma n q (gpn n q X Y k).2 (X k) 0)
theorem gpn_ok {n q : Nat} (hG : GFp n q) {X Y : Nat → Nat} (hY : ∀ i, Y i < 2 ^ n) : ∀ k, pok n k (gpn n q X Y k).1 ∧ pok n (k + 1) (gpn n q X Y k).2
  | 0 => ⟨pok.zero n 0, fun i hi => if_neg (by omega), fun i => by
    show (if i = 0 then 1 else 0) < _
    split
    · exact hG.one
    · exact Nat.two_pow_pos n⟩
  | k + 1 => by
    obtain ⟨h1, h2⟩ := gpn_ok hG (X := X) hY k
    exact ⟨gps_ok hG (h1.mono (by omega)) h2 (hG.lt (xor_lt (hY k) (gvl_lt hG h1 _))), gma_ok hG (v := X k) h2 (Nat.two_pow_pos n)⟩
theorem gvl_z {n q : Nat} (v : Nat) : gvl n q (fun _ => 0) v = 0 := by
  unfold gvl
  rw [show pd (fun _ => 0) = 0 from pd_0]
  rfl
theorem xor_ne {a b : Nat} (h : a ≠ b) : a ^^^ b ≠ 0 := fun h1 => h (by
  have h2 : (a ^^^ b) ^^^ b = a := by rw [Nat.xor_assoc, Nat.xor_self, Nat.xor_zero]
  rw [h1, Nat.zero_xor] at h2
  exact h2.symm)
theorem gpn_v {n q : Nat} (hG : GFp n q) {X Y : Nat → Nat} (hX : ∀ i, X i < 2 ^ n) (hY : ∀ i, Y i < 2 ^ n) : ∀ k, k ≤ 150 → (∀ i j, i < k → j < k → X i = X j → i = j) → (∀ i, i < k → gvl n q (gpn n q X Y k).1 (X i) = Y i) ∧ (∀ i, i < k → gvl n q (gpn n q X Y k).2 (X i) = 0) ∧ ∀ v, v < 2 ^ n → (∀ i, i < k → X i ≠ v) → gvl n q (gpn n q X Y k).2 v ≠ 0
  | 0 => fun _ _ => ⟨fun i hi => by omega, fun i hi => by omega, fun v hv _ => by
    show gvl n q (fun i => if i = 0 then 1 else 0) v ≠ 0
    unfold gvl
    rw [show pd (fun i => if i = 0 then 1 else 0) = 1 from pd_eq (fun i hi => if_neg (by omega)) (fun _ => by decide) (by omega)]
    show gm n q 0 v ^^^ 1 ≠ 0
    rw [gm_0]
    decide⟩
  | k + 1 => fun hk hd => by
    obtain ⟨h1, h2⟩ := gpn_ok hG (X := X) hY k
    obtain ⟨v1, v2, v3⟩ := gpn_v hG hX hY k (by omega) (fun i j hi hj => hd i j (by omega) (by omega))
    have hT := v3 (X k) (hX k) (fun i hi he => by have := hd i k (by omega) (by omega) he; omega)
    have hTl := gvl_lt hG h2 (X k)
    have hil : ginv n q (gvl n q (gpn n q X Y k).2 (X k)) < 2 ^ n := gpow_lt hG _ _
    have hFl := gvl_lt hG h1 (X k)
    have hc : gm n q (Y k ^^^ gvl n q (gpn n q X Y k).1 (X k)) (ginv n q (gvl n q (gpn n q X Y k).2 (X k))) < 2 ^ n := hG.lt (xor_lt (hY k) hFl)
    refine ⟨fun i hi => ?_, fun i hi => ?_, fun v hv hne => ?_⟩
    · show gvl n q (gps n q _ _ _) (X i) = Y i
      rw [gvl_gps hG (show k + 1 ≤ 200 by omega) (h1.mono (by omega)) h2 hc (hX i)]
      by_cases hik : i < k
      · rw [v1 i hik, v2 i hik, gm_b0, Nat.xor_zero]
      · rw [show i = k by omega, hG.assoc (xor_lt (hY k) hFl) hil, hG.comm hil hTl, gfi_m hG hTl hT, hG.mul1 (xor_lt (hY k) hFl), Nat.xor_comm, Nat.xor_assoc, Nat.xor_self, Nat.xor_zero]
    · show gvl n q (gma n q _ _ _) (X i) = 0
      rw [gvl_gma hG (show k + 1 + 1 ≤ 200 by omega) h2 (hX k) (hX i)]
      by_cases hik : i < k
      · rw [v2 i hik, gm_b0]
      · rw [show i = k by omega, Nat.xor_self, gm_0]
    · show gvl n q (gma n q _ _ _) v ≠ 0
      rw [gvl_gma hG (show k + 1 + 1 ≤ 200 by omega) h2 (hX k) hv]
      exact hG.ne0 (xor_lt hv (hX k)) (gvl_lt hG h2 v) (xor_ne (fun h => hne k (by omega) h.symm)) (v3 v hv (fun i hi => hne i (by omega)))
theorem gpn_thr {n q : Nat} (hG : GFp n q) {X Y X' Y' : Nat → Nat} (hX : ∀ i, X i < 2 ^ n) (hY : ∀ i, Y i < 2 ^ n) (hX' : ∀ i, X' i < 2 ^ n) (hY' : ∀ i, Y' i < 2 ^ n) {k : Nat} (hk : k ≤ 150) (hd : ∀ i j, i < k → j < k → X i = X j → i = j) (eX : ∀ i, i < k → X' i = X i) (eY : ∀ i, i < k → Y' i = Y i) : (gpn n q X Y k).1 = gthr n q X' Y' k := by
  letI := gfF hG
  letI := @plR (GFt n q) (gfR hG)
  have P := gf_pol hG
  obtain ⟨v1, _, _⟩ := gpn_v hG hX hY k hk hd
  have hd' : ∀ i j, i < k → j < k → X' i = X' j → i = j := fun i j hi hj he => hd i j hi hj (by rw [← eX i hi, ← eX j hj]; exact he)
  obtain ⟨w1, w2⟩ := gnw_pts hG P hX' hY' (show k ≤ 200 by omega) hd'
  refine pts_un hG P hX' (show k ≤ 200 by omega) hd' (gpn_ok hG hY k).1 w1 (fun i hi => ?_)
  refine Eq.trans ?_ (w2 i hi).symm
  rw [eX i hi, eY i hi]
  exact v1 i hi
theorem sm_up2 {A A' : bw_H} {X Y : Nat} {e e' : va_E} (h1 : bw_sm [X, Y] A A') (h2 : bw_has A' [(X, e), (Y, e')]) : A' = bw_up (bw_up A X e) Y e' := by
  have hne : X ≠ Y := fun h => (List.nodup_cons.mp h2.2).1 (by rw [h]; exact List.mem_singleton.mpr rfl)
  refine Prod.ext h1.1 (funext (fun b => ?_))
  by_cases h : b = Y
  · rw [h, bw_up_eq]
    exact h2.at 1 rfl
  · rw [bw_up_ne h]
    by_cases h' : b = X
    · rw [h', bw_up_eq]
      exact h2.at 0 rfl
    · rw [bw_up_ne h']
      exact h1.2 b (by simp [h, h'])
theorem mz2 {g : bw_G} {A : bw_H} {X Y : Nat} {f h : Nat → Nat} (h1 : A.2 X = some (bw_an g 200 f)) (h2 : A.2 Y = some (bw_an g 200 h)) (z1 : ∀ i, 200 ≤ i → f i = 0) (z2 : ∀ i, 200 ≤ i → h i = 0) : ∀ W ∈ [X, Y], mzz g A W := by
  intro W hW
  rcases List.mem_cons.mp hW with e | hW
  · rw [e]; exact ⟨f, z1, h1⟩
  · rw [List.mem_singleton.mp hW]; exact ⟨h, z2, h2⟩
set_option maxHeartbeats 4000000 in
theorem m_through_loop (g : bw_G) {A0 : bw_H} {M n p gg rn mn pn rd rs pt sn ct : Nat} {dd C row : Nat → Nat} (hG : GFg n p gg) (hrow : ∀ i, row i < 2 ^ n) (hrn : rn = 2 * ct) (hct : ct ≤ 65) (hp : pn < 40) :
    ∀ (d k : Nat), k + d = ct → ∀ A : bw_H, bw_has A ((M, mdo M n p gg 0 rn mn pn rd rs pt sn) :: (mpc g M dd C ++ [(M + 1, bw_an g 130 row), (M + 10, bw_an g 200 (gpn n (2 ^ n ||| p) (fun i => row (2 * i)) (fun i => row (2 * i + 1)) k).1), (M + 11, bw_an g 200 (gpn n (2 ^ n ||| p) (fun i => row (2 * i)) (fun i => row (2 * i + 1)) k).2)])) → bw_sm (M :: ([M + 10, M + 11] ++ mpl M)) A0 A →
      bw_W g (bw_rm 8 0 0) mX10_through (bw_pm (mKP g M [M + 10, M + 11] (mdo M n p gg 0 0 mn (pn + 1) rd rs pt sn) (nI pn) (fun i => if i = pn then pd (gpn n (2 ^ n ||| p) (fun i => row (2 * i)) (fun i => row (2 * i + 1)) ct).1 else dd i) (gck (gpn n (2 ^ n ||| p) (fun i => row (2 * i)) (fun i => row (2 * i + 1)) ct).1 C pn 65) A0)) 0 0 51 [(0, .ref M), (1, .int (nI (2 * k)))] [] A := by
  have h16 := hG.p16
  have hok := gpn_ok hG.2.2.1 (X := fun i => row (2 * i)) (Y := fun i => row (2 * i + 1)) (fun i => hrow _)
  intro d
  induction d with
  | zero =>
    intro k hk A hC hS
    have hk : k = ct := by omega
    subst hk
    subst hrn
    refine bw_iload_n 52 dX10_through_51 rfl rfl ?_
    refine bw_aload_n 53 dX10_through_52 rfl rfl ?_
    refine bw_get 56 dX10_through_53 rfl lX10_124 (hC.at 0 rfl) rfl ?_
    refine bw_icmp_ge 83 59 dX10_through_56 rfl rfl (fun c56 => ?_) (fun c56 => ?_)
    · refine bw_aload_n 84 dX10_through_83 rfl rfl ?_
      refine bw_iconst (0) 85 dX10_through_84 (by decide) rfl ?_
      refine bw_eqi (y := nI 0) rfl ?_
      refine bw_putU 88 dX10_through_85 rfl pX10_124 (hC.at 0 rfl) rfl rfl (Nat.le_of_ble_eq_true rfl) (fun A hU => ?_)
      have hC := hC.upd 0 rfl hU
      have hS := hS.upd hU (by simp)
      clear hU
      refine bw_aload_n 89 dX10_through_88 rfl rfl ?_
      refine bw_aload_n 90 dX10_through_89 rfl rfl ?_
      refine bw_get 93 dX10_through_90 rfl lX10_42 (hC.at 0 rfl) rfl ?_
      refine bw_cVm 96 dX10_through_93 rfl vX10_169 (m_kept g (hC.sub [0, 1, 2, 4] (by decide) rfl) (fun i => by have := (hok k).1.2 i; omega) hp) (hC.at 0 rfl) rfl rfl (Nat.le_of_ble_eq_true rfl) ⟨(Nat.le_of_ble_eq_true rfl), (Nat.le_of_ble_eq_true rfl)⟩ (Nat.le_of_ble_eq_true rfl) (Nat.le_of_ble_eq_true rfl) (fun x A hP => ?_)
      obtain ⟨⟨h4, h5, h6⟩, h7⟩ := hP
      subst h4
      have hW := (hC.sub [4, 5] (by decide) rfl).frm h5 (by simp <;> omega)
      have hS := hS.trans h5 (by simp <;> omega)
      refine bw_iret dX10_through_96 rfl (Nat.le_of_ble_eq_true rfl) (Nat.le_of_ble_eq_true rfl) ?_
      exact ⟨_, rfl, rfl, hS, h6, h7, mz2 (hW.at 0 rfl) (hW.at 1 rfl) (fun i hi => (hok k).1.1 i (by omega)) (fun i hi => (hok k).2.1 i (by omega))⟩
    · exact absurd (Int32.le_refl _) c56
  | succ d ih =>
    intro k hk A hC hS
    refine bw_iload_n 52 dX10_through_51 rfl rfl ?_
    refine bw_aload_n 53 dX10_through_52 rfl rfl ?_
    refine bw_get 56 dX10_through_53 rfl lX10_124 (hC.at 0 rfl) rfl ?_
    refine bw_icmp_ge 83 59 dX10_through_56 rfl rfl (fun c56 => ?_) (fun c56 => ?_)
    · exact absurd c56 (nI_ge (by omega) (by omega))
    · skip
      refine bw_aload_n 60 dX10_through_59 rfl rfl ?_
      refine bw_aload_n 61 dX10_through_60 rfl rfl ?_
      refine bw_get 64 dX10_through_61 rfl lX10_13 (hC.at 0 rfl) rfl ?_
      refine bw_iload_n 65 dX10_through_64 rfl rfl ?_
      refine bw_ialdN 66 dX10_through_65 rfl (hC.at 3 rfl) (by omega) (by omega) ?_
      refine bw_aload_n 67 dX10_through_66 rfl rfl ?_
      refine bw_get 70 dX10_through_67 rfl lX10_13 (hC.at 0 rfl) rfl ?_
      refine bw_iload_n 71 dX10_through_70 rfl rfl ?_
      refine bw_iconst (1) 72 dX10_through_71 (by decide) rfl ?_
      refine bw_eqi (y := nI 1) rfl ?_
      refine bw_iadd 73 dX10_through_72 rfl ?_
      refine bw_eqi (nI_add (2 * k) 1) ?_
      refine bw_ialdN 74 dX10_through_73 rfl (hC.at 3 rfl) (by omega) (by omega) ?_
      refine bw_cVv 77 dX10_through_74 rfl vX10_178 (m_point g hG (hC.sub [0, 4, 5] (by decide) rfl) ((hok k).1.mono (by omega)) ((hok k).2.mono (by omega)) (hrow _) (hrow _)) (hC.at 0 rfl) rfl rfl (Nat.le_of_ble_eq_true rfl) ⟨(Nat.le_of_ble_eq_true rfl), (Nat.le_of_ble_eq_true rfl)⟩ (Nat.le_of_ble_eq_true rfl) (Nat.le_of_ble_eq_true rfl) (fun A hP => ?_)
      obtain ⟨hs1, hs2⟩ := hP
      have hC := (hC.up 4 rfl).upd 5 rfl (sm_up2 hs1 hs2)
      have hS := hS.trans hs1 (by simp <;> omega)
      refine bw_iincN (2) 80 dX10_through_77 rfl rfl (by decide) (by decide) ?_
      refine bw_goto 51 dX10_through_80 rfl ?_
      refine bw_loc _ ?_ (ih (k + 1) (by omega) A hC hS)
      exact ⟨rfl, congrArg (fun x => some (Value.int x)) (nI_add (2 * k) 2), trivial⟩
set_option maxHeartbeats 4000000 in
theorem m_through (g : bw_G) {A : bw_H} {M n p gg th rn mn pn rd rs pt sn : Nat} {dd C row f1 f2 : Nat → Nat} (hG : GFg n p gg) (hC : bw_has A ((M, mdo M n p gg th rn mn pn rd rs pt sn) :: (mpc g M dd C ++ [(M + 1, bw_an g 130 row), (M + 10, bw_an g 200 f1), (M + 11, bw_an g 200 f2)]))) (hrow : ∀ i, row i < 2 ^ n) (hz1 : ∀ i, 200 ≤ i → f1 i = 0) (hz2 : ∀ i, 200 ≤ i → f2 i = 0) (hrn : rn ≤ 130) (hp : pn < 40) (h2 : rn % 2 = 0) (hal0 : ¬ hal row rn 2) : bw_C g (bw_rm 8 0 0) mX10_through [.ref M] A (bw_pm (mKP g M [M + 10, M + 11] (mdo M n p gg 0 0 mn (pn + 1) rd rs pt sn) (nI pn) (fun i => if i = pn then pd (gpn n (2 ^ n ||| p) (fun i => row (2 * i)) (fun i => row (2 * i + 1)) (rn / 2)).1 else dd i) (gck (gpn n (2 ^ n ||| p) (fun i => row (2 * i)) (fun i => row (2 * i + 1)) (rn / 2)).1 C pn 65) A)) := by
  have hS : bw_sm (M :: ([M + 10, M + 11] ++ mpl M)) A A := bw_sm.rf
  refine bw_C.of (by decide) (Nat.le_of_ble_eq_true rfl) rfl ?_
  refine bw_aload_n 1 dX10_through_0 rfl rfl ?_
  refine bw_iconst (0) 2 dX10_through_1 (by decide) rfl ?_
  refine bw_eqi (y := nI 0) rfl ?_
  refine bw_putU 5 dX10_through_2 rfl pX10_1 (hC.at 0 rfl) rfl rfl (Nat.le_of_ble_eq_true rfl) (fun A hU => ?_)
  have hC := hC.upd 0 rfl hU
  have hS := hS.upd hU (by simp)
  clear hU
  refine bw_aload_n 6 dX10_through_5 rfl rfl ?_
  refine bw_get 9 dX10_through_6 rfl lX10_124 (hC.at 0 rfl) rfl ?_
  refine bw_iconst (2) 10 dX10_through_9 (by decide) rfl ?_
  refine bw_eqi (y := nI 2) rfl ?_
  refine bw_irem 11 dX10_through_10 (by decide) rfl ?_
  refine bw_eqi (pk_rem (a := rn) (d := 2) (by omega) (by omega) (by omega)) ?_
  refine bw_iconst (1) 12 dX10_through_11 (by decide) rfl ?_
  refine bw_eqi (y := nI 1) rfl ?_
  refine bw_icmp_eq 24 15 dX10_through_12 rfl rfl (fun c12 => ?_) (fun c12 => ?_)
  · exact absurd ((nI_eq (by omega) (by omega)).mp c12) (by omega)
  · refine bw_aload_n 16 dX10_through_15 rfl rfl ?_
    refine bw_iconst (0) 17 dX10_through_16 (by decide) rfl ?_
    refine bw_eqi (y := nI 0) rfl ?_
    refine bw_iconst (2) 18 dX10_through_17 (by decide) rfl ?_
    refine bw_eqi (y := nI 2) rfl ?_
    refine bw_cVi 21 dX10_through_18 rfl vX10_136 (m_hasAlike g (s := 2) (z := 0) (hC.sub [0, 3] (by decide) rfl) hG.p16 hrow hrn (by omega) (by omega) (Or.inr ⟨rfl, hal0⟩)) (hC.at 0 rfl) rfl rfl (Nat.le_of_ble_eq_true rfl) ⟨(Nat.le_of_ble_eq_true rfl), (Nat.le_of_ble_eq_true rfl)⟩ (Nat.le_of_ble_eq_true rfl) (Nat.le_of_ble_eq_true rfl) ?_
    refine bw_if_eq 30 24 dX10_through_21 rfl rfl (fun c21 => ?_) (fun c21 => ?_)
    · refine bw_aload_n 31 dX10_through_30 rfl rfl ?_
      refine bw_get 34 dX10_through_31 rfl lX10_158 (hC.at 0 rfl) rfl ?_
      refine bw_bipush (40) 36 dX10_through_34 (by decide) rfl ?_
      refine bw_eqi (y := nI 40) rfl ?_
      refine bw_icmp_ne 45 39 dX10_through_36 rfl rfl (fun c36 => ?_) (fun c36 => ?_)
      · refine bw_aload_n 46 dX10_through_45 rfl rfl ?_
        refine bw_cVv 49 dX10_through_46 rfl vX10_175 (m_begin g (hC.sub [0, 4, 5] (by decide) rfl) hz1 hz2) (hC.at 0 rfl) rfl rfl (Nat.le_of_ble_eq_true rfl) ⟨(Nat.le_of_ble_eq_true rfl), (Nat.le_of_ble_eq_true rfl)⟩ (Nat.le_of_ble_eq_true rfl) (Nat.le_of_ble_eq_true rfl) (fun A hP => ?_)
        obtain ⟨hs1, hs2⟩ := hP
        have hC := (hC.up 4 rfl).upd 5 rfl (sm_up2 hs1 hs2)
        have hS := hS.trans hs1 (by simp <;> omega)
        refine bw_iconst (0) 50 dX10_through_49 (by decide) rfl ?_
        refine bw_eqi (y := nI 0) rfl ?_
        refine bw_istore_n 51 dX10_through_50 rfl (by decide) ?_
        refine bw_loc _ ?_ (m_through_loop g hG hrow (show rn = 2 * (rn / 2) by omega) (by omega) hp (rn / 2) 0 (by omega) A hC hS)
        exact ⟨rfl, rfl, trivial⟩
      · exact absurd ((nI_eq (b := 40) (by omega) (by omega)).mp c36) (by omega)
    · exact absurd rfl c21
theorem m_throughY (g : bw_G) {A : bw_H} {M n p gg th rn mn rd rs pt sn : Nat} {row : Nat → Nat} (hn : 2 ^ n ≤ 65536) (hC : bw_has A [(M, mdo M n p gg th rn mn 40 rd rs pt sn), (M + 1, bw_an g 130 row)]) (hrow : ∀ i, row i < 2 ^ n) (hrn : rn ≤ 130) (h2 : rn % 2 = 0) (hal0 : ¬ hal row rn 2) : bw_C g (bw_rm 8 0 0) mX10_through [.ref M] A (bw_pm (maR M [] (mdo M n p gg 2 rn mn 40 rd rs pt sn) (nI 0) A)) := by
  have hS : bw_sm [M] A A := bw_sm.rf
  refine bw_C.of (by decide) (Nat.le_of_ble_eq_true rfl) rfl ?_
  refine bw_aload_n 1 dX10_through_0 rfl rfl ?_
  refine bw_iconst (0) 2 dX10_through_1 (by decide) rfl ?_
  refine bw_eqi (y := nI 0) rfl ?_
  refine bw_putU 5 dX10_through_2 rfl pX10_1 (hC.at 0 rfl) rfl rfl (Nat.le_of_ble_eq_true rfl) (fun A hU => ?_)
  have hC := hC.upd 0 rfl hU
  have hS := hS.upd hU (by simp)
  clear hU
  refine bw_aload_n 6 dX10_through_5 rfl rfl ?_
  refine bw_get 9 dX10_through_6 rfl lX10_124 (hC.at 0 rfl) rfl ?_
  refine bw_iconst (2) 10 dX10_through_9 (by decide) rfl ?_
  refine bw_eqi (y := nI 2) rfl ?_
  refine bw_irem 11 dX10_through_10 (by decide) rfl ?_
  refine bw_eqi (pk_rem (a := rn) (d := 2) (by omega) (by omega) (by omega)) ?_
  refine bw_iconst (1) 12 dX10_through_11 (by decide) rfl ?_
  refine bw_eqi (y := nI 1) rfl ?_
  refine bw_icmp_eq 24 15 dX10_through_12 rfl rfl (fun c12 => ?_) (fun c12 => ?_)
  · exact absurd ((nI_eq (by omega) (by omega)).mp c12) (by omega)
  · refine bw_aload_n 16 dX10_through_15 rfl rfl ?_
    refine bw_iconst (0) 17 dX10_through_16 (by decide) rfl ?_
    refine bw_eqi (y := nI 0) rfl ?_
    refine bw_iconst (2) 18 dX10_through_17 (by decide) rfl ?_
    refine bw_eqi (y := nI 2) rfl ?_
    refine bw_cVi 21 dX10_through_18 rfl vX10_136 (m_hasAlike g (s := 2) (z := 0) (hC.sub [0, 1] (by decide) rfl) hn hrow hrn (by omega) (by omega) (Or.inr ⟨rfl, hal0⟩)) (hC.at 0 rfl) rfl rfl (Nat.le_of_ble_eq_true rfl) ⟨(Nat.le_of_ble_eq_true rfl), (Nat.le_of_ble_eq_true rfl)⟩ (Nat.le_of_ble_eq_true rfl) (Nat.le_of_ble_eq_true rfl) ?_
    refine bw_if_eq 30 24 dX10_through_21 rfl rfl (fun c21 => ?_) (fun c21 => ?_)
    · refine bw_aload_n 31 dX10_through_30 rfl rfl ?_
      refine bw_get 34 dX10_through_31 rfl lX10_158 (hC.at 0 rfl) rfl ?_
      refine bw_bipush (40) 36 dX10_through_34 (by decide) rfl ?_
      refine bw_eqi (y := nI 40) rfl ?_
      refine bw_icmp_ne 45 39 dX10_through_36 rfl rfl (fun c36 => ?_) (fun c36 => ?_)
      · exact absurd rfl c36
      · refine bw_aload_n 40 dX10_through_39 rfl rfl ?_
        refine bw_iconst (2) 41 dX10_through_40 (by decide) rfl ?_
        refine bw_eqi (y := nI 2) rfl ?_
        refine bw_cVm 44 dX10_through_41 rfl vX10_118 (m_fail g (hC.sub [0] (by decide) rfl)) (hC.at 0 rfl) rfl rfl (Nat.le_of_ble_eq_true rfl) ⟨(Nat.le_of_ble_eq_true rfl), (Nat.le_of_ble_eq_true rfl)⟩ (Nat.le_of_ble_eq_true rfl) (Nat.le_of_ble_eq_true rfl) (fun x A hP => ?_)
        obtain ⟨h4, h5⟩ := hP
        subst h4
        have hC := hC.upd 0 rfl h5
        have hS := hS.upd h5 (by simp)
        refine bw_iret dX10_through_44 rfl (Nat.le_of_ble_eq_true rfl) (Nat.le_of_ble_eq_true rfl) ?_
        exact ⟨_, rfl, rfl, hS, hC.at 0 rfl⟩
    · exact absurd rfl c21
theorem m_throughX (g : bw_G) {A : bw_H} {M n p gg th rn mn pn rd rs pt sn : Nat} {row : Nat → Nat} (hn : 2 ^ n ≤ 65536) (hC : bw_has A [(M, mdo M n p gg th rn mn pn rd rs pt sn), (M + 1, bw_an g 130 row)]) (hrow : ∀ i, row i < 2 ^ n) (hrn : rn ≤ 130) (h : rn % 2 = 1 ∨ hal row rn 2) : bw_C g (bw_rm 8 0 0) mX10_through [.ref M] A (bw_pm (maR M [] (mdo M n p gg 1 rn mn pn rd rs pt sn) (nI 0) A)) := by
  have hS : bw_sm [M] A A := bw_sm.rf
  refine bw_C.of (by decide) (Nat.le_of_ble_eq_true rfl) rfl ?_
  refine bw_aload_n 1 dX10_through_0 rfl rfl ?_
  refine bw_iconst (0) 2 dX10_through_1 (by decide) rfl ?_
  refine bw_eqi (y := nI 0) rfl ?_
  refine bw_putU 5 dX10_through_2 rfl pX10_1 (hC.at 0 rfl) rfl rfl (Nat.le_of_ble_eq_true rfl) (fun A hU => ?_)
  have hC := hC.upd 0 rfl hU
  have hS := hS.upd hU (by simp)
  clear hU
  refine bw_aload_n 6 dX10_through_5 rfl rfl ?_
  refine bw_get 9 dX10_through_6 rfl lX10_124 (hC.at 0 rfl) rfl ?_
  refine bw_iconst (2) 10 dX10_through_9 (by decide) rfl ?_
  refine bw_eqi (y := nI 2) rfl ?_
  refine bw_irem 11 dX10_through_10 (by decide) rfl ?_
  refine bw_eqi (pk_rem (a := rn) (d := 2) (by omega) (by omega) (by omega)) ?_
  refine bw_iconst (1) 12 dX10_through_11 (by decide) rfl ?_
  refine bw_eqi (y := nI 1) rfl ?_
  refine bw_icmp_eq 24 15 dX10_through_12 rfl rfl (fun c12 => ?_) (fun c12 => ?_)
  · refine bw_aload_n 25 dX10_through_24 rfl rfl ?_
    refine bw_iconst (1) 26 dX10_through_25 (by decide) rfl ?_
    refine bw_eqi (y := nI 1) rfl ?_
    refine bw_cVm 29 dX10_through_26 rfl vX10_118 (m_fail g (hC.sub [0] (by decide) rfl)) (hC.at 0 rfl) rfl rfl (Nat.le_of_ble_eq_true rfl) ⟨(Nat.le_of_ble_eq_true rfl), (Nat.le_of_ble_eq_true rfl)⟩ (Nat.le_of_ble_eq_true rfl) (Nat.le_of_ble_eq_true rfl) (fun x A hP => ?_)
    obtain ⟨h4, h5⟩ := hP
    subst h4
    have hC := hC.upd 0 rfl h5
    have hS := hS.upd h5 (by simp)
    refine bw_iret dX10_through_29 rfl (Nat.le_of_ble_eq_true rfl) (Nat.le_of_ble_eq_true rfl) ?_
    exact ⟨_, rfl, rfl, hS, hC.at 0 rfl⟩
  · have hha : hal row rn 2 := by
      rcases h with h | h
      · exact absurd (by rw [h]) c12
      · exact h
    refine bw_aload_n 16 dX10_through_15 rfl rfl ?_
    refine bw_iconst (0) 17 dX10_through_16 (by decide) rfl ?_
    refine bw_eqi (y := nI 0) rfl ?_
    refine bw_iconst (2) 18 dX10_through_17 (by decide) rfl ?_
    refine bw_eqi (y := nI 2) rfl ?_
    refine bw_cVi 21 dX10_through_18 rfl vX10_136 (m_hasAlike g (s := 2) (z := 1) (hC.sub [0, 1] (by decide) rfl) hn hrow hrn (by omega) (by omega) (Or.inl ⟨rfl, hha⟩)) (hC.at 0 rfl) rfl rfl (Nat.le_of_ble_eq_true rfl) ⟨(Nat.le_of_ble_eq_true rfl), (Nat.le_of_ble_eq_true rfl)⟩ (Nat.le_of_ble_eq_true rfl) (Nat.le_of_ble_eq_true rfl) ?_
    refine bw_if_eq 30 24 dX10_through_21 rfl rfl (fun c21 => ?_) (fun c21 => ?_)
    · exact absurd c21 (by decide)
    · refine bw_aload_n 25 dX10_through_24 rfl rfl ?_
      refine bw_iconst (1) 26 dX10_through_25 (by decide) rfl ?_
      refine bw_eqi (y := nI 1) rfl ?_
      refine bw_cVm 29 dX10_through_26 rfl vX10_118 (m_fail g (hC.sub [0] (by decide) rfl)) (hC.at 0 rfl) rfl rfl (Nat.le_of_ble_eq_true rfl) ⟨(Nat.le_of_ble_eq_true rfl), (Nat.le_of_ble_eq_true rfl)⟩ (Nat.le_of_ble_eq_true rfl) (Nat.le_of_ble_eq_true rfl) (fun x A hP => ?_)
      obtain ⟨h4, h5⟩ := hP
      subst h4
      have hC := hC.upd 0 rfl h5
      have hS := hS.upd h5 (by simp)
      refine bw_iret dX10_through_29 rfl (Nat.le_of_ble_eq_true rfl) (Nat.le_of_ble_eq_true rfl) ?_
      exact ⟨_, rfl, rfl, hS, hC.at 0 rfl⟩
set_option maxHeartbeats 4000000 in
theorem m_back_loop (g : bw_G) {A0 : bw_H} {M n p gg rn mn pn rd rs pt sn : Nat} {dd C row S : Nat → Nat} (hG : GFg n p gg) (hrow : ∀ i, row i < 2 ^ n) (hSl : ∀ i, S i < 2 ^ n) (hsn : sn ≤ 64) (hp : pn < 40) :
    ∀ (d k : Nat), k + d = sn → ∀ A : bw_H, bw_has A ((M, mdo M n p gg 0 rn mn pn rd rs pt sn) :: (mpc g M dd C ++ [(M + 1, bw_an g 130 row), (M + 18, bw_an g 64 S), (M + 10, bw_an g 200 (gpn n (2 ^ n ||| p) S row k).1), (M + 11, bw_an g 200 (gpn n (2 ^ n ||| p) S row k).2)])) → bw_sm (M :: ([M + 10, M + 11] ++ mpl M)) A0 A →
      bw_W g (bw_rm 8 0 0) mX10_back (bw_pm (mKP g M [M + 10, M + 11] (mdo M n p gg 0 0 mn (pn + 1) rd rs pt sn) (nI pn) (fun i => if i = pn then pd (gpn n (2 ^ n ||| p) S row sn).1 else dd i) (gck (gpn n (2 ^ n ||| p) S row sn).1 C pn 65) A0)) 0 0 50 [(0, .ref M), (1, .int (nI k))] [] A := by
  have h16 := hG.p16
  have hok := gpn_ok hG.2.2.1 (X := S) (Y := row) hrow
  intro d
  induction d with
  | zero =>
    intro k hk A hC hS
    have hk : k = sn := by omega
    subst hk
    refine bw_iload_n 51 dX10_back_50 rfl rfl ?_
    refine bw_aload_n 52 dX10_back_51 rfl rfl ?_
    refine bw_get 55 dX10_back_52 rfl lX10_208 (hC.at 0 rfl) rfl ?_
    refine bw_icmp_ge 80 58 dX10_back_55 rfl rfl (fun c55 => ?_) (fun c55 => ?_)
    · refine bw_aload_n 81 dX10_back_80 rfl rfl ?_
      refine bw_iconst (0) 82 dX10_back_81 (by decide) rfl ?_
      refine bw_eqi (y := nI 0) rfl ?_
      refine bw_putU 85 dX10_back_82 rfl pX10_124 (hC.at 0 rfl) rfl rfl (Nat.le_of_ble_eq_true rfl) (fun A hU => ?_)
      have hC := hC.upd 0 rfl hU
      have hS := hS.upd hU (by simp)
      clear hU
      refine bw_aload_n 86 dX10_back_85 rfl rfl ?_
      refine bw_aload_n 87 dX10_back_86 rfl rfl ?_
      refine bw_get 90 dX10_back_87 rfl lX10_42 (hC.at 0 rfl) rfl ?_
      refine bw_cVm 93 dX10_back_90 rfl vX10_169 (m_kept g (hC.sub [0, 1, 2, 5] (by decide) rfl) (fun i => by have := (hok k).1.2 i; omega) hp) (hC.at 0 rfl) rfl rfl (Nat.le_of_ble_eq_true rfl) ⟨(Nat.le_of_ble_eq_true rfl), (Nat.le_of_ble_eq_true rfl)⟩ (Nat.le_of_ble_eq_true rfl) (Nat.le_of_ble_eq_true rfl) (fun x A hP => ?_)
      obtain ⟨⟨h4, h5, h6⟩, h7⟩ := hP
      subst h4
      have hW := (hC.sub [5, 6] (by decide) rfl).frm h5 (by simp <;> omega)
      have hS := hS.trans h5 (by simp <;> omega)
      refine bw_iret dX10_back_93 rfl (Nat.le_of_ble_eq_true rfl) (Nat.le_of_ble_eq_true rfl) ?_
      exact ⟨_, rfl, rfl, hS, h6, h7, mz2 (hW.at 0 rfl) (hW.at 1 rfl) (fun i hi => (hok k).1.1 i (by omega)) (fun i hi => (hok k).2.1 i (by omega))⟩
    · exact absurd (Int32.le_refl _) c55
  | succ d ih =>
    intro k hk A hC hS
    refine bw_iload_n 51 dX10_back_50 rfl rfl ?_
    refine bw_aload_n 52 dX10_back_51 rfl rfl ?_
    refine bw_get 55 dX10_back_52 rfl lX10_208 (hC.at 0 rfl) rfl ?_
    refine bw_icmp_ge 80 58 dX10_back_55 rfl rfl (fun c55 => ?_) (fun c55 => ?_)
    · exact absurd c55 (nI_ge (by omega) (by omega))
    · skip
      refine bw_aload_n 59 dX10_back_58 rfl rfl ?_
      refine bw_aload_n 60 dX10_back_59 rfl rfl ?_
      refine bw_get 63 dX10_back_60 rfl lX10_72 (hC.at 0 rfl) rfl ?_
      refine bw_iload_n 64 dX10_back_63 rfl rfl ?_
      refine bw_ialdN 65 dX10_back_64 rfl (hC.at 4 rfl) (by omega) (by omega) ?_
      refine bw_aload_n 66 dX10_back_65 rfl rfl ?_
      refine bw_get 69 dX10_back_66 rfl lX10_13 (hC.at 0 rfl) rfl ?_
      refine bw_iload_n 70 dX10_back_69 rfl rfl ?_
      refine bw_ialdN 71 dX10_back_70 rfl (hC.at 3 rfl) (by omega) (by omega) ?_
      refine bw_cVv 74 dX10_back_71 rfl vX10_178 (m_point g hG (hC.sub [0, 5, 6] (by decide) rfl) ((hok k).1.mono (by omega)) ((hok k).2.mono (by omega)) (hSl _) (hrow _)) (hC.at 0 rfl) rfl rfl (Nat.le_of_ble_eq_true rfl) ⟨(Nat.le_of_ble_eq_true rfl), (Nat.le_of_ble_eq_true rfl)⟩ (Nat.le_of_ble_eq_true rfl) (Nat.le_of_ble_eq_true rfl) (fun A hP => ?_)
      obtain ⟨hs1, hs2⟩ := hP
      have hC := (hC.up 5 rfl).upd 6 rfl (sm_up2 hs1 hs2)
      have hS := hS.trans hs1 (by simp <;> omega)
      refine bw_iincN (1) 77 dX10_back_74 rfl rfl (by decide) (by decide) ?_
      refine bw_goto 50 dX10_back_77 rfl ?_
      refine bw_loc _ ?_ (ih (k + 1) (by omega) A hC hS)
      exact ⟨rfl, congrArg (fun x => some (Value.int x)) (nI_1 ( k )), trivial⟩
set_option maxHeartbeats 4000000 in
theorem m_back (g : bw_G) {A : bw_H} {M n p gg th mn pn rd rs pt sn : Nat} {dd C row S f1 f2 : Nat → Nat} (hG : GFg n p gg) (hC : bw_has A ((M, mdo M n p gg th sn mn pn rd rs pt sn) :: (mpc g M dd C ++ [(M + 1, bw_an g 130 row), (M + 18, bw_an g 64 S), (M + 10, bw_an g 200 f1), (M + 11, bw_an g 200 f2)]))) (hrow : ∀ i, row i < 2 ^ n) (hSl : ∀ i, S i < 2 ^ n) (hz1 : ∀ i, 200 ≤ i → f1 i = 0) (hz2 : ∀ i, 200 ≤ i → f2 i = 0) (hsn : sn ≤ 64) (h0 : sn ≠ 0) (hp : pn < 40) : bw_C g (bw_rm 8 0 0) mX10_back [.ref M] A (bw_pm (mKP g M [M + 10, M + 11] (mdo M n p gg 0 0 mn (pn + 1) rd rs pt sn) (nI pn) (fun i => if i = pn then pd (gpn n (2 ^ n ||| p) S row sn).1 else dd i) (gck (gpn n (2 ^ n ||| p) S row sn).1 C pn 65) A)) := by
  have hS : bw_sm (M :: ([M + 10, M + 11] ++ mpl M)) A A := bw_sm.rf
  refine bw_C.of (by decide) (Nat.le_of_ble_eq_true rfl) rfl ?_
  refine bw_aload_n 1 dX10_back_0 rfl rfl ?_
  refine bw_iconst (0) 2 dX10_back_1 (by decide) rfl ?_
  refine bw_eqi (y := nI 0) rfl ?_
  refine bw_putU 5 dX10_back_2 rfl pX10_1 (hC.at 0 rfl) rfl rfl (Nat.le_of_ble_eq_true rfl) (fun A hU => ?_)
  have hC := hC.upd 0 rfl hU
  have hS := hS.upd hU (by simp)
  clear hU
  refine bw_aload_n 6 dX10_back_5 rfl rfl ?_
  refine bw_get 9 dX10_back_6 rfl lX10_208 (hC.at 0 rfl) rfl ?_
  refine bw_if_eq 23 12 dX10_back_9 rfl rfl (fun c9 => ?_) (fun c9 => ?_)
  · exact absurd ((xn_eq0 (by omega)).mp c9) h0
  · refine bw_aload_n 13 dX10_back_12 rfl rfl ?_
    refine bw_get 16 dX10_back_13 rfl lX10_124 (hC.at 0 rfl) rfl ?_
    refine bw_aload_n 17 dX10_back_16 rfl rfl ?_
    refine bw_get 20 dX10_back_17 rfl lX10_208 (hC.at 0 rfl) rfl ?_
    refine bw_icmp_eq 29 23 dX10_back_20 rfl rfl (fun c20 => ?_) (fun c20 => ?_)
    · refine bw_aload_n 30 dX10_back_29 rfl rfl ?_
      refine bw_get 33 dX10_back_30 rfl lX10_158 (hC.at 0 rfl) rfl ?_
      refine bw_bipush (40) 35 dX10_back_33 (by decide) rfl ?_
      refine bw_eqi (y := nI 40) rfl ?_
      refine bw_icmp_ne 44 38 dX10_back_35 rfl rfl (fun c35 => ?_) (fun c35 => ?_)
      · refine bw_aload_n 45 dX10_back_44 rfl rfl ?_
        refine bw_cVv 48 dX10_back_45 rfl vX10_175 (m_begin g (hC.sub [0, 5, 6] (by decide) rfl) hz1 hz2) (hC.at 0 rfl) rfl rfl (Nat.le_of_ble_eq_true rfl) ⟨(Nat.le_of_ble_eq_true rfl), (Nat.le_of_ble_eq_true rfl)⟩ (Nat.le_of_ble_eq_true rfl) (Nat.le_of_ble_eq_true rfl) (fun A hP => ?_)
        obtain ⟨hs1, hs2⟩ := hP
        have hC := (hC.up 5 rfl).upd 6 rfl (sm_up2 hs1 hs2)
        have hS := hS.trans hs1 (by simp <;> omega)
        refine bw_iconst (0) 49 dX10_back_48 (by decide) rfl ?_
        refine bw_eqi (y := nI 0) rfl ?_
        refine bw_istore_n 50 dX10_back_49 rfl (by decide) ?_
        refine bw_loc _ ?_ (m_back_loop g hG hrow hSl hsn hp sn 0 (by omega) A hC hS)
        exact ⟨rfl, rfl, trivial⟩
      · exact absurd ((nI_eq (b := 40) (by omega) (by omega)).mp c35) (by omega)
    · exact absurd rfl c20
theorem m_backY (g : bw_G) {A : bw_H} {M n p gg th mn rd rs pt sn : Nat} (hC : bw_has A [(M, mdo M n p gg th sn mn 40 rd rs pt sn)]) (hsn : sn ≤ 64) (h0 : sn ≠ 0) : bw_C g (bw_rm 8 0 0) mX10_back [.ref M] A (bw_pm (maR M [] (mdo M n p gg 2 sn mn 40 rd rs pt sn) (nI 0) A)) := by
  have hS : bw_sm [M] A A := bw_sm.rf
  refine bw_C.of (by decide) (Nat.le_of_ble_eq_true rfl) rfl ?_
  refine bw_aload_n 1 dX10_back_0 rfl rfl ?_
  refine bw_iconst (0) 2 dX10_back_1 (by decide) rfl ?_
  refine bw_eqi (y := nI 0) rfl ?_
  refine bw_putU 5 dX10_back_2 rfl pX10_1 (hC.at 0 rfl) rfl rfl (Nat.le_of_ble_eq_true rfl) (fun A hU => ?_)
  have hC := hC.upd 0 rfl hU
  have hS := hS.upd hU (by simp)
  clear hU
  refine bw_aload_n 6 dX10_back_5 rfl rfl ?_
  refine bw_get 9 dX10_back_6 rfl lX10_208 (hC.at 0 rfl) rfl ?_
  refine bw_if_eq 23 12 dX10_back_9 rfl rfl (fun c9 => ?_) (fun c9 => ?_)
  · exact absurd ((xn_eq0 (by omega)).mp c9) h0
  · refine bw_aload_n 13 dX10_back_12 rfl rfl ?_
    refine bw_get 16 dX10_back_13 rfl lX10_124 (hC.at 0 rfl) rfl ?_
    refine bw_aload_n 17 dX10_back_16 rfl rfl ?_
    refine bw_get 20 dX10_back_17 rfl lX10_208 (hC.at 0 rfl) rfl ?_
    refine bw_icmp_eq 29 23 dX10_back_20 rfl rfl (fun c20 => ?_) (fun c20 => ?_)
    · refine bw_aload_n 30 dX10_back_29 rfl rfl ?_
      refine bw_get 33 dX10_back_30 rfl lX10_158 (hC.at 0 rfl) rfl ?_
      refine bw_bipush (40) 35 dX10_back_33 (by decide) rfl ?_
      refine bw_eqi (y := nI 40) rfl ?_
      refine bw_icmp_ne 44 38 dX10_back_35 rfl rfl (fun c35 => ?_) (fun c35 => ?_)
      · exact absurd rfl c35
      · refine bw_aload_n 39 dX10_back_38 rfl rfl ?_
        refine bw_iconst (2) 40 dX10_back_39 (by decide) rfl ?_
        refine bw_eqi (y := nI 2) rfl ?_
        refine bw_cVm 43 dX10_back_40 rfl vX10_118 (m_fail g (hC.sub [0] (by decide) rfl)) (hC.at 0 rfl) rfl rfl (Nat.le_of_ble_eq_true rfl) ⟨(Nat.le_of_ble_eq_true rfl), (Nat.le_of_ble_eq_true rfl)⟩ (Nat.le_of_ble_eq_true rfl) (Nat.le_of_ble_eq_true rfl) (fun x A hP => ?_)
        obtain ⟨h4, h5⟩ := hP
        subst h4
        have hC := hC.upd 0 rfl h5
        have hS := hS.upd h5 (by simp)
        refine bw_iret dX10_back_43 rfl (Nat.le_of_ble_eq_true rfl) (Nat.le_of_ble_eq_true rfl) ?_
        exact ⟨_, rfl, rfl, hS, hC.at 0 rfl⟩
    · exact absurd rfl c20
theorem m_backX (g : bw_G) {A : bw_H} {M n p gg th rn mn pn rd rs pt sn : Nat} (hC : bw_has A [(M, mdo M n p gg th rn mn pn rd rs pt sn)]) (hsn : sn ≤ 64) (hrn : rn ≤ 130) (h0 : sn = 0 ∨ rn ≠ sn) : bw_C g (bw_rm 8 0 0) mX10_back [.ref M] A (bw_pm (maR M [] (mdo M n p gg 1 rn mn pn rd rs pt sn) (nI 0) A)) := by
  have hS : bw_sm [M] A A := bw_sm.rf
  refine bw_C.of (by decide) (Nat.le_of_ble_eq_true rfl) rfl ?_
  refine bw_aload_n 1 dX10_back_0 rfl rfl ?_
  refine bw_iconst (0) 2 dX10_back_1 (by decide) rfl ?_
  refine bw_eqi (y := nI 0) rfl ?_
  refine bw_putU 5 dX10_back_2 rfl pX10_1 (hC.at 0 rfl) rfl rfl (Nat.le_of_ble_eq_true rfl) (fun A hU => ?_)
  have hC := hC.upd 0 rfl hU
  have hS := hS.upd hU (by simp)
  clear hU
  refine bw_aload_n 6 dX10_back_5 rfl rfl ?_
  refine bw_get 9 dX10_back_6 rfl lX10_208 (hC.at 0 rfl) rfl ?_
  refine bw_if_eq 23 12 dX10_back_9 rfl rfl (fun c9 => ?_) (fun c9 => ?_)
  · refine bw_aload_n 24 dX10_back_23 rfl rfl ?_
    refine bw_iconst (1) 25 dX10_back_24 (by decide) rfl ?_
    refine bw_eqi (y := nI 1) rfl ?_
    refine bw_cVm 28 dX10_back_25 rfl vX10_118 (m_fail g (hC.sub [0] (by decide) rfl)) (hC.at 0 rfl) rfl rfl (Nat.le_of_ble_eq_true rfl) ⟨(Nat.le_of_ble_eq_true rfl), (Nat.le_of_ble_eq_true rfl)⟩ (Nat.le_of_ble_eq_true rfl) (Nat.le_of_ble_eq_true rfl) (fun x A hP => ?_)
    obtain ⟨h4, h5⟩ := hP
    subst h4
    have hC := hC.upd 0 rfl h5
    have hS := hS.upd h5 (by simp)
    refine bw_iret dX10_back_28 rfl (Nat.le_of_ble_eq_true rfl) (Nat.le_of_ble_eq_true rfl) ?_
    exact ⟨_, rfl, rfl, hS, hC.at 0 rfl⟩
  · refine bw_aload_n 13 dX10_back_12 rfl rfl ?_
    refine bw_get 16 dX10_back_13 rfl lX10_124 (hC.at 0 rfl) rfl ?_
    refine bw_aload_n 17 dX10_back_16 rfl rfl ?_
    refine bw_get 20 dX10_back_17 rfl lX10_208 (hC.at 0 rfl) rfl ?_
    refine bw_icmp_eq 29 23 dX10_back_20 rfl rfl (fun c20 => ?_) (fun c20 => ?_)
    · have h := (nI_eq (by omega) (by omega)).mp c20
      exact absurd h (by rcases h0 with h0 | h0; exact absurd (by rw [h0]; rfl) c9; exact h0)
    · refine bw_aload_n 24 dX10_back_23 rfl rfl ?_
      refine bw_iconst (1) 25 dX10_back_24 (by decide) rfl ?_
      refine bw_eqi (y := nI 1) rfl ?_
      refine bw_cVm 28 dX10_back_25 rfl vX10_118 (m_fail g (hC.sub [0] (by decide) rfl)) (hC.at 0 rfl) rfl rfl (Nat.le_of_ble_eq_true rfl) ⟨(Nat.le_of_ble_eq_true rfl), (Nat.le_of_ble_eq_true rfl)⟩ (Nat.le_of_ble_eq_true rfl) (Nat.le_of_ble_eq_true rfl) (fun x A hP => ?_)
      obtain ⟨h4, h5⟩ := hP
      subst h4
      have hC := hC.upd 0 rfl h5
      have hS := hS.upd h5 (by simp)
      refine bw_iret dX10_back_28 rfl (Nat.le_of_ble_eq_true rfl) (Nat.le_of_ble_eq_true rfl) ?_
      exact ⟨_, rfl, rfl, hS, hC.at 0 rfl⟩
