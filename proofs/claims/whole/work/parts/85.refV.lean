/-! the reference's rounds of parts come to an end -/
def ptI {n q : Nat} (hG : GFp n q) {R : Type} [Lean.Grind.CommRing R] (co : R → Nat → GFt n q) (X : R) (d : Nat) (l w : Nat → Nat) : Prop :=
  pok n 65 l ∧ pok n 65 w ∧ pd l ≠ 0 ∧ (2 ≤ pd l → pd w < pd l ∧ ∃ L W : R, rp co L l ∧ rp co W w ∧ pdv L (W + sqi X (n * (d - 1))) ∧ ∀ H e, @irr _ _ (gfF hG) _ co H e → pdv H L → d ≤ e)
theorem ptI_end {n q : Nat} (hG : GFp n q) {R : Type} [Lean.Grind.CommRing R] {co : R → Nat → GFt n q} {C : GFt n q → R} {X : R} (P : @Pol (GFt n q) R (gfF hG) _ co C X) {d : Nat} {l w : Nat → Nat} (h : ptI hG co X d l w) (hd : 65 ≤ d) : pd l ≤ 1 := by
  letI := gfF hG
  obtain ⟨h1, h2, h3, h4⟩ := h
  refine Nat.not_lt.mp (fun h5 => ?_)
  obtain ⟨_, L, W, hL, _, _, hn⟩ := h4 h5
  have hlp := h1.le (by omega)
  obtain ⟨H, e, hi, hH, he⟩ := irr.fac P (pd l) L (pd l - 1) (by omega) (rp_dg hG P hL h1 (by omega) h3) (by omega)
  have := hn H e hi hH
  omega
theorem ptI_0 {n q : Nat} (hG : GFp n q) {R : Type} [Lean.Grind.CommRing R] {co : R → Nat → GFt n q} {C : GFt n q → R} {X : R} (P : @Pol (GFt n q) R (gfF hG) _ co C X) {f : Nat → Nat} (hf : pok n 65 f) (h0 : pd f ≠ 0) : ptI hG co X 1 f (grs n q gX f) := by
  letI := gfF hG
  obtain ⟨F, hF⟩ := rp.ex hG P hf
  obtain ⟨Q, T, h1, h2, h3, h4⟩ := grs_rp hG P (N := 65) (by omega) (rp.X hG P) hF (pok.X hG.one (by omega)) hf h0
  have hlp := hf.le (by omega)
  have hXo : pok n 65 gX := pok.X hG.one (by omega)
  refine ⟨hf, (grs_ok hG hXo).mono (by omega), h0, fun _ => ⟨grs_pd hG hXo (by omega) h0, F, T, hF, h2, ⟨Q, ?_⟩, fun H e hi _ => hi.2.1⟩⟩
  show T + sqi X 0 = Q * F
  show T + X = Q * F
  have := P.two T
  grind
theorem ptI_s {n q : Nat} (hG : GFp n q) {R : Type} [Lean.Grind.CommRing R] {co : R → Nat → GFt n q} {C : GFt n q → R} {X : R} (P : @Pol (GFt n q) R (gfF hG) _ co C X) {d : Nat} {l w : Nat → Nat} (hd : 1 ≤ d) (h : ptI hG co X d l w) (h2 : 2 ≤ pd l) (t : Nat) : ptI hG co X (d + 1) (gmi n q d 64 l (gsn n q l n w) t).1 (gmi n q d 64 l (gsn n q l n w) t).2.1 := by
  letI := gfF hG
  obtain ⟨s1, s2, s3, s6⟩ := h
  obtain ⟨s7, L, W, s4, s5, s8, hn⟩ := s6 h2
  have hlp := s1.le (by omega)
  obtain ⟨V, v1, v2, v3, v4⟩ := gsn_rp hG P s1 s3 s4 n w W _ s2 s5 s7 s8
  rw [sqi_sqi, show n * (d - 1) + n = n * d by rw [← Nat.mul_succ]; congr 1; omega] at v4
  obtain ⟨g1, L', W', g2, g3, g4, g5, g6, g7, g8, g9, g10⟩ := gmi_eq hG P (d := d) 64 l (gsn n q l n w) (ggcd n q l (gps n q gX (gsn n q l n w) 1)) L V t s1 v2 s3 s4 v1 (by omega) (fun _ => v3) (fun _ => rfl) (fun h => absurd h (by omega))
  refine ⟨g4, g5, g6, fun h3 => ?_⟩
  obtain ⟨g11, g12⟩ := g10 h3
  have hLV : pdv L' (W' + sqi X (n * d)) := by
    have e : W' + sqi X (n * d) = (W' + V) + (V + sqi X (n * d)) := by
      have := P.two V
      grind
    rw [e]
    exact g9.add (g8.tr v4)
  refine ⟨g11, L', W', g2, g3, by rw [Nat.add_sub_cancel]; exact hLV, fun H e hi hH => ?_⟩
  have hde := hn H e hi (hH.tr g8)
  rcases Nat.lt_or_ge d e with h | h
  · exact h
  · exfalso
    have ed : e = d := by omega
    rw [ed] at hi
    have hf := hi.fermat P gfE gfEn gfEl
    have hHX : pdv H (X + W') := by
      have e : X + W' = (sqi X (n * d) + X) + (W' + sqi X (n * d)) := by
        have := P.two (sqi X (n * d))
        grind
      rw [e]
      exact hf.add (hH.tr hLV)
    have hXo : pok n 65 (gps n q gX (gmi n q d 64 l (gsn n q l n w) t).2.1 1) := gps_ok hG (pok.X hG.one (by omega)) g5 hG.one
    obtain ⟨D, hD, d1, d2, ⟨u, v, d3⟩, dd, d4, d5⟩ := ggcd_rp hG P (N := 65) (by omega) g2 (gXW_rp hG P g3) g4 hXo (Or.inl g6)
    have hDp := rp_pd hG P hD (ggcd_ok hG (N := 65) (by omega) g4 hXo) (by omega) d4
    have hHD : pdv H D := by
      rw [d3]
      exact (hH.mul u).add (hHX.mul v)
    have := hHD.dg P hi.1 d4
    omega
/-- without the ring -/
def ptJ {n q : Nat} (hG : GFp n q) (d : Nat) (l w : Nat → Nat) : Prop := @ptI n q hG _ (@plR (GFt n q) (gfR hG)) (fun f => f.1) (@plX _ (gfR hG)) d l w
theorem ptJ_end {n q : Nat} (hG : GFp n q) {d : Nat} {l w : Nat → Nat} (h : ptJ hG d l w) (hd : 65 ≤ d) : pd l ≤ 1 := @ptI_end n q hG _ (@plR (GFt n q) (gfR hG)) _ _ _ (gf_pol hG) d l w h hd
theorem ptJ_0 {n q : Nat} (hG : GFp n q) {f : Nat → Nat} (hf : pok n 65 f) (h0 : pd f ≠ 0) : ptJ hG 1 f (grs n q gX f) := @ptI_0 n q hG _ (@plR (GFt n q) (gfR hG)) _ _ _ (gf_pol hG) f hf h0
theorem ptJ_s {n q : Nat} (hG : GFp n q) {d : Nat} {l w : Nat → Nat} (hd : 1 ≤ d) (h : ptJ hG d l w) (h2 : 2 ≤ pd l) (t : Nat) : ptJ hG (d + 1) (gmi n q d 64 l (gsn n q l n w) t).1 (gmi n q d 64 l (gsn n q l n w) t).2.1 := @ptI_s n q hG _ (@plR (GFt n q) (gfR hG)) _ _ _ (gf_pol hG) d l w hd h h2 t
theorem ptJ.ok {n q : Nat} {hG : GFp n q} {d : Nat} {l w : Nat → Nat} (h : ptJ hG d l w) : pok n 65 l ∧ pok n 65 w ∧ pd l ≠ 0 := ⟨h.1, h.2.1, h.2.2.1⟩
/-- the squares, all places from 2k - 1 on -/
def gsz (n q : Nat) (f : Nat → Nat) (k i : Nat) : Nat := if 2 * k ≤ i + 1 then gsq n q f i else f i
theorem gsz_0 {n q : Nat} {f : Nat → Nat} : gsz n q f 0 = gsq n q f := funext (fun i => if_pos (by omega))
theorem gsz_66 {n q : Nat} {f : Nat → Nat} (hf : ∀ i, 65 ≤ i → f i = 0) : gsz n q f 66 = f := by
  funext i
  unfold gsz gsq
  by_cases h : 2 * 66 ≤ i + 1
  · rw [if_pos h, hf (i / 2) (by omega), gm_0, hf i (by omega)]
    split <;> rfl
  · rw [if_neg h]
theorem gsz_at {n q : Nat} {f : Nat → Nat} {k : Nat} : gsz n q f (k + 1) k = f k := if_neg (by omega)
theorem gsz_s0 {n q : Nat} {f : Nat → Nat} : (fun i => if i = 2 * 0 then gm n q (f 0) (f 0) else gsz n q f (0 + 1) i) = gsz n q f 0 := by
  funext i
  unfold gsz
  by_cases h : i = 2 * 0
  · rw [if_pos h, if_pos (by omega), h]
    rfl
  · rw [if_neg h, if_pos (by omega), if_pos (by omega)]
theorem gsz_s {n q : Nat} {f : Nat → Nat} {k : Nat} (hk : 0 < k) : (fun i => if i = 2 * k - 1 then 0 else (fun i => if i = 2 * k then gm n q (f k) (f k) else gsz n q f (k + 1) i) i) = gsz n q f k := by
  funext i
  show (if i = 2 * k - 1 then 0 else if i = 2 * k then gm n q (f k) (f k) else gsz n q f (k + 1) i) = _
  unfold gsz
  by_cases h1 : i = 2 * k - 1
  · rw [if_pos h1, if_pos (by omega)]
    unfold gsq
    rw [if_neg (by omega)]
  · rw [if_neg h1]
    by_cases h2 : i = 2 * k
    · rw [if_pos h2, if_pos (by omega)]
      unfold gsq
      rw [if_pos (by omega), show i / 2 = k by omega]
    · rw [if_neg h2]
      by_cases h3 : 2 * (k + 1) ≤ i + 1
      · rw [if_pos h3, if_pos (by omega)]
      · rw [if_neg h3, if_neg (by omega)]
theorem gX_two {n q : Nat} {w : Nat → Nat} (hw : ∀ i, w i < 2 ^ n) : (fun i => if i = 1 then w 1 ^^^ 1 else w i) = gps n q gX w 1 := by
  funext i
  unfold gps gX
  rw [gm_1 (hw i)]
  by_cases h : i = 1
  · rw [if_pos h, if_pos h, h, Nat.xor_comm]
  · rw [if_neg h, if_neg h, Nat.zero_xor]
set_option maxHeartbeats 4000000 in
theorem m_square_loop (g : bw_G) {A0 : bw_H} {M n p gg th rn mn pn rd rs pt sn X : Nat} {f l o : Nat → Nat} (hG : GFg n p gg) (hf : pok n 65 f) (hl : pok n 65 l) (h0 : pd l ≠ 0) (hz : ∀ i, 200 ≤ i → o i = 0) :
    ∀ (j : Nat), j ≤ 66 → ∀ A : bw_H, bw_has A [(M, mdo M n p gg th rn mn pn rd rs pt sn), (X, bw_an g 200 (gsz n (2 ^ n ||| p) f j)), (M + 12, bw_an g 200 o), (M + 16, bw_an g 200 l)] → bw_sm [X, M + 12] A0 A →
      bw_W g (bw_rm 4 0 0) mX10_square (bw_pv (fun A' => bw_sm [X, M + 12] A0 A' ∧ bw_has A' [(X, bw_an g 200 (grs n (2 ^ n ||| p) (gsq n (2 ^ n ||| p) f) l)), (M + 12, bw_an g 200 (gqu n (2 ^ n ||| p) (gsq n (2 ^ n ||| p) f) l))])) 0 0 3 [(0, .ref M), (1, .ref X), (2, .int (tI j))] [] A := by
  have h16 := hG.p16
  have hsq : pok n 200 (gsq n (2 ^ n ||| p) f) := gsq_ok hG.2.2.1 hf (by omega)
  intro j
  induction j with
  | zero =>
    intro hj A hC hS
    rw [gsz_0] at hC
    refine bw_iload_n 4 dX10_square_3 rfl rfl ?_
    refine bw_if_lt 40 7 dX10_square_4 rfl rfl (fun c4 => ?_) (fun c4 => ?_)
    · refine bw_aload_n 41 dX10_square_40 rfl rfl ?_
      refine bw_aload_n 42 dX10_square_41 rfl rfl ?_
      refine bw_aload_n 43 dX10_square_42 rfl rfl ?_
      refine bw_get 46 dX10_square_43 rfl lX10_66 (hC.at 0 rfl) rfl ?_
      refine bw_cVv 49 dX10_square_46 rfl vX10_189 (m_split g hG (hC.sub [0, 1, 3, 2] (by decide) rfl) hsq (hl.mono (by omega)) hz h0) (hC.at 0 rfl) rfl rfl (Nat.le_of_ble_eq_true rfl) ⟨(Nat.le_of_ble_eq_true rfl), (Nat.le_of_ble_eq_true rfl)⟩ (Nat.le_of_ble_eq_true rfl) (Nat.le_of_ble_eq_true rfl) (fun A hP => ?_)
      obtain ⟨hs1, hs2⟩ := hP
      have hS := hS.trans hs1 (fun _ h => h)
      refine bw_vret dX10_square_49 rfl (Nat.le_of_ble_eq_true rfl) (Nat.le_of_ble_eq_true rfl) ?_
      exact ⟨rfl, hS, hs2⟩
    · exact absurd ((tI_lt0 (m := 0) (by omega)).mpr rfl) c4
  | succ k ih =>
    intro hj A hC hS
    rw [tI_s]
    refine bw_iload_n 4 dX10_square_3 rfl rfl ?_
    refine bw_if_lt 40 7 dX10_square_4 rfl rfl (fun c4 => ?_) (fun c4 => ?_)
    · exact absurd c4 (nI_pos (by omega))
    · skip
      refine bw_aload_n 8 dX10_square_7 rfl rfl ?_
      refine bw_iconst (2) 9 dX10_square_8 (by decide) rfl ?_
      refine bw_eqi (y := nI 2) rfl ?_
      refine bw_iload_n 10 dX10_square_9 rfl rfl ?_
      refine bw_imul 11 dX10_square_10 rfl ?_
      refine bw_eqi (pk_mul 2 k) ?_
      refine bw_aload_n 12 dX10_square_11 rfl rfl ?_
      refine bw_aload_n 13 dX10_square_12 rfl rfl ?_
      refine bw_iload_n 14 dX10_square_13 rfl rfl ?_
      refine bw_ialdN 15 dX10_square_14 rfl (hC.at 1 rfl) (by omega) (by omega) ?_
      refine bw_eqi (congrArg nI gsz_at) ?_
      refine bw_aload_n 16 dX10_square_15 rfl rfl ?_
      refine bw_iload_n 17 dX10_square_16 rfl rfl ?_
      refine bw_ialdN 18 dX10_square_17 rfl (hC.at 1 rfl) (by omega) (by omega) ?_
      refine bw_eqi (congrArg nI gsz_at) ?_
      refine bw_cVi 21 dX10_square_18 rfl vX10_102 (m_mul g hG (hC.sub [0] (by decide) rfl) (hf.2 k) (hf.2 k)) (hC.at 0 rfl) rfl rfl (Nat.le_of_ble_eq_true rfl) ⟨(Nat.le_of_ble_eq_true rfl), (Nat.le_of_ble_eq_true rfl)⟩ (Nat.le_of_ble_eq_true rfl) (Nat.le_of_ble_eq_true rfl) ?_
      refine bw_iastN 22 dX10_square_21 rfl (hC.at 1 rfl) (by omega) (by omega) (G := _) (rfl) (fun A hU => ?_)
      have hC := hC.upd 1 rfl hU
      have hS := hS.upd hU (by simp)
      clear hU
      refine bw_iload_n 23 dX10_square_22 rfl rfl ?_
      refine bw_if_le 34 26 dX10_square_23 rfl rfl (fun c23 => ?_) (fun c23 => ?_)
      · have hk0 : k = 0 := (xn_le0 (by omega)).mp c23
        subst hk0
        rw [gsz_s0] at hC
        refine bw_iincN (-1) 37 dX10_square_34 rfl rfl (by decide) (by decide) ?_
        refine bw_goto 3 dX10_square_37 rfl ?_
        refine bw_loc _ ?_ (ih (by omega) A hC hS)
        exact ⟨rfl, rfl, rfl, trivial⟩
      · have hk0 : 0 < k := Nat.pos_of_ne_zero (fun h => c23 ((xn_le0 (by omega)).mpr h))
        refine bw_aload_n 27 dX10_square_26 rfl rfl ?_
        refine bw_iconst (2) 28 dX10_square_27 (by decide) rfl ?_
        refine bw_eqi (y := nI 2) rfl ?_
        refine bw_iload_n 29 dX10_square_28 rfl rfl ?_
        refine bw_imul 30 dX10_square_29 rfl ?_
        refine bw_eqi (pk_mul 2 k) ?_
        refine bw_iconst (1) 31 dX10_square_30 (by decide) rfl ?_
        refine bw_isub 32 dX10_square_31 rfl ?_
        refine bw_eqi (pk_sub (show 0 < 2 * k by omega)) ?_
        refine bw_iconst (0) 33 dX10_square_32 (by decide) rfl ?_
        refine bw_eqi (y := nI 0) rfl ?_
        refine bw_iastN 34 dX10_square_33 rfl (hC.at 1 rfl) (by omega) (by omega) (G := gsz n (2 ^ n ||| p) f k) (gsz_s hk0) (fun A hU => ?_)
        have hC := hC.upd 1 rfl hU
        have hS := hS.upd hU (by simp)
        clear hU
        refine bw_iincN (-1) 37 dX10_square_34 rfl rfl (by decide) (by decide) ?_
        refine bw_goto 3 dX10_square_37 rfl ?_
        refine bw_loc _ ?_ (ih (by omega) A hC hS)
        exact ⟨rfl, rfl, rfl, trivial⟩
theorem m_square (g : bw_G) {A : bw_H} {M n p gg th rn mn pn rd rs pt sn X : Nat} {f l o : Nat → Nat} (hG : GFg n p gg) (hC : bw_has A [(M, mdo M n p gg th rn mn pn rd rs pt sn), (X, bw_an g 200 f), (M + 12, bw_an g 200 o), (M + 16, bw_an g 200 l)]) (hf : pok n 65 f) (hl : pok n 65 l) (h0 : pd l ≠ 0) (hz : ∀ i, 200 ≤ i → o i = 0) : bw_C g (bw_rm 4 0 0) mX10_square [.ref M, .ref X] A (bw_pv (fun A' => bw_sm [X, M + 12] A A' ∧ bw_has A' [(X, bw_an g 200 (grs n (2 ^ n ||| p) (gsq n (2 ^ n ||| p) f) l)), (M + 12, bw_an g 200 (gqu n (2 ^ n ||| p) (gsq n (2 ^ n ||| p) f) l))])) := by
  refine bw_C.of (by decide) (Nat.le_of_ble_eq_true rfl) rfl ?_
  refine bw_bipush (65) 2 dX10_square_0 (by decide) rfl ?_
  refine bw_eqi (y := nI 65) rfl ?_
  refine bw_istore_n 3 dX10_square_2 rfl (by decide) ?_
  refine bw_loc _ ?_ (m_square_loop g hG hf hl h0 hz 66 (by omega) A (by rw [gsz_66 hf.1]; exact hC) bw_sm.rf)
  exact ⟨rfl, rfl, rfl, trivial⟩
