/-! the reference: split -/
/-- the quotient, as far as it is found -/
def gqz (G : Nat → Nat) (low r i : Nat) : Nat := if r ≤ i then G (i + low) else 0
theorem gqz_s {n q : Nat} {G h : Nat → Nat} {low inv r : Nat} : (fun i => if i = r then gm n q (G (low + r)) inv else gqz G low (r + 1) i) = gqz (gds n q h low inv G (low + r)) low r := by
  funext i
  unfold gqz
  by_cases h1 : i = r
  · rw [if_pos h1, if_pos (by omega), h1]
    unfold gds
    rw [if_pos (by omega)]
  · rw [if_neg h1]
    by_cases h2 : r ≤ i
    · rw [if_pos h2, if_pos (by omega), gds_up (by omega) (by omega)]
    · rw [if_neg h2, if_neg (by omega)]
theorem gsp_s2 {n q : Nat} {G h : Nat → Nat} {low inv r : Nat} (h0 : G (low + r) ^^^ gm n q (gm n q (G (low + r)) inv) (h low) = 0) : gam n q (gcut G (low + r + 1)) h r 0 (gm n q (G (low + r)) inv) (low + 1) = gcut (gds n q h low inv G (low + r)) (low + r) := by
  funext i
  show gam n q (gcut G (low + r + 1)) h r 0 (gm n q (G (low + r)) inv) (low + 1) i = if i < low + r then gds n q h low inv G (low + r) i else 0
  unfold gam
  show (if r ≤ i ∧ i < r + (low + 1) then (if i < low + r + 1 then G i else 0) ^^^ gm n q (gm n q (G (low + r)) inv) (h (0 + (i - r))) else (if i < low + r + 1 then G i else 0)) = _
  by_cases h1 : i < low + r
  · rw [if_pos h1]
    unfold gds gam
    rw [if_neg (show ¬ i = low + r by omega), if_pos (show i < low + r + 1 by omega), show low + r - low = r by omega]
    by_cases h2 : r ≤ i
    · rw [if_pos (by omega), if_pos (by omega)]
    · rw [if_neg (by omega), if_neg (by omega)]
  · rw [if_neg h1]
    by_cases h2 : i = low + r
    · rw [if_pos (by omega), h2, if_pos (by omega), show 0 + (low + r - r) = low by omega]
      exact h0
    · rw [if_neg (by omega), if_neg (by omega)]
set_option maxHeartbeats 4000000 in
theorem m_split_in (g : bw_G) {A0 : bw_H} {M n p gg th rn mn pn rd rs pt sn X Y low r b c : Nat} {G h O : Nat → Nat} {Q : bw_O → bw_H → Prop} (hG : GFg n p gg) (hGl : ∀ i, G i < 2 ^ n) (hh : ∀ i, h i < 2 ^ n) (hlr : low + r < 200) (hc : c < 2 ^ n) (hc0 : c ≠ 0)
    (kk : ∀ A : bw_H, bw_has A [(M, mdo M n p gg th rn mn pn rd rs pt sn), (X, bw_an g 200 (gam n (2 ^ n ||| p) G h r 0 c (low + 1))), (Y, bw_an g 200 h), (M + 12, bw_an g 200 O)] → bw_sm [X, M + 12] A0 A → bw_W g (bw_rm 3 0 0) mX10_split Q 0 0 98 [(0, .ref M), (1, .ref X), (2, .ref Y), (3, .int (nI low)), (4, .int (nI b)), (5, .int (nI (low + r)))] [] A) :
    ∀ (d i : Nat), i + d = low + 1 → ∀ A : bw_H, bw_has A [(M, mdo M n p gg th rn mn pn rd rs pt sn), (X, bw_an g 200 (gam n (2 ^ n ||| p) G h r 0 c i)), (Y, bw_an g 200 h), (M + 12, bw_an g 200 O)] → bw_sm [X, M + 12] A0 A →
      bw_W g (bw_rm 3 0 0) mX10_split Q 0 0 59 [(0, .ref M), (1, .ref X), (2, .ref Y), (3, .int (nI low)), (4, .int (nI b)), (5, .int (nI (low + r))), (6, .int (nI c)), (7, .int (nI i))] [] A := by
  have h16 := hG.p16
  intro d
  induction d with
  | zero =>
    intro i hi A hC hS
    have hi : i = low + 1 := by omega
    subst hi
    refine bw_iload 61 dX10_split_59 rfl rfl ?_
    refine bw_iload_n 62 dX10_split_61 rfl rfl ?_
    refine bw_icmp_gt 98 65 dX10_split_62 rfl rfl (fun c62 => ?_) (fun c62 => ?_)
    · exact bw_loc [(0, .ref M), (1, .ref X), (2, .ref Y), (3, .int (nI low)), (4, .int (nI b)), (5, .int (nI (low + r)))] ⟨rfl, rfl, rfl, rfl, rfl, rfl, trivial⟩ (kk A hC hS)
    · exact absurd ((nI_ltI (by omega) (by omega)).mpr (Nat.lt_succ_self low)) c62
  | succ d ih =>
    intro i hi A hC hS
    refine bw_iload 61 dX10_split_59 rfl rfl ?_
    refine bw_iload_n 62 dX10_split_61 rfl rfl ?_
    refine bw_icmp_gt 98 65 dX10_split_62 rfl rfl (fun c62 => ?_) (fun c62 => ?_)
    · exact absurd ((nI_ltI (by omega) (by omega)).mp c62) (by omega)
    · skip
      refine bw_iload 67 dX10_split_65 rfl rfl ?_
      refine bw_if_eq 98 70 dX10_split_67 rfl rfl (fun c67 => ?_) (fun c67 => ?_)
      · exact absurd ((xn_eq0 (by omega)).mp c67) hc0
      · skip
        refine bw_aload_n 71 dX10_split_70 rfl rfl ?_
        refine bw_iload 73 dX10_split_71 rfl rfl ?_
        refine bw_iload_n 74 dX10_split_73 rfl rfl ?_
        refine bw_isub 75 dX10_split_74 rfl ?_
        refine bw_eqi (show nI (low + r) - nI low = nI r by rw [nI_sb (by omega), show low + r - low = r by omega]) ?_
        refine bw_iload 77 dX10_split_75 rfl rfl ?_
        refine bw_iadd 78 dX10_split_77 rfl ?_
        refine bw_eqi (nI_add r i) ?_
        refine bw_dup2 79 dX10_split_78 rfl rfl rfl ?_
        refine bw_ialdN 80 dX10_split_79 rfl (hC.at 1 rfl) (by omega) (by omega) ?_
        refine bw_eqi (congrArg nI (gam_at n (2 ^ n ||| p) G h r 0 c i)) ?_
        refine bw_aload_n 81 dX10_split_80 rfl rfl ?_
        refine bw_iload 83 dX10_split_81 rfl rfl ?_
        refine bw_aload_n 84 dX10_split_83 rfl rfl ?_
        refine bw_iload 86 dX10_split_84 rfl rfl ?_
        refine bw_ialdN 87 dX10_split_86 rfl (hC.at 2 rfl) (by omega) (by omega) ?_
        refine bw_cVi 90 dX10_split_87 rfl vX10_102 (m_mul g hG (hC.sub [0] (by decide) rfl) hc (hh i)) (hC.at 0 rfl) rfl rfl (Nat.le_of_ble_eq_true rfl) ⟨(Nat.le_of_ble_eq_true rfl), (Nat.le_of_ble_eq_true rfl)⟩ (Nat.le_of_ble_eq_true rfl) (Nat.le_of_ble_eq_true rfl) ?_
        refine bw_ixor 91 dX10_split_90 rfl ?_
        refine bw_eqi (xn_xor _ _) ?_
        refine bw_iastN 92 dX10_split_91 rfl (hC.at 1 rfl) (by omega) (by omega) (G := gam n (2 ^ n ||| p) G h r 0 c (i + 1)) (by have := gam_s n (2 ^ n ||| p) G h r 0 c i; rw [Nat.zero_add] at this; exact this) (fun A hU => ?_)
        have hC := hC.upd 1 rfl hU
        have hS := hS.upd hU (by simp)
        clear hU
        refine bw_iincN (1) 95 dX10_split_92 rfl rfl (by decide) (by decide) ?_
        refine bw_goto 59 dX10_split_95 rfl ?_
        refine bw_loc _ ?_ (ih (i + 1) (by omega) A hC hS)
        exact ⟨rfl, rfl, rfl, rfl, rfl, rfl, rfl, congrArg (fun x => some (Value.int x)) (nI_1 ( i )), trivial⟩
set_option maxHeartbeats 4000000 in
theorem m_split_out (g : bw_G) {A0 : bw_H} {M n p gg th rn mn pn rd rs pt sn X Y low b : Nat} {h : Nat → Nat} (hG : GFg n p gg) (hh : ∀ i, h i < 2 ^ n) (hb : b = ginv n (2 ^ n ||| p) (h low)) (h0 : h low ≠ 0) :
    ∀ (r : Nat) (G : Nat → Nat), low + r ≤ 200 → (∀ i, G i < 2 ^ n) → ∀ A : bw_H, bw_has A [(M, mdo M n p gg th rn mn pn rd rs pt sn), (X, bw_an g 200 (gcut G (low + r))), (Y, bw_an g 200 h), (M + 12, bw_an g 200 (gqz G low r))] → bw_sm [X, M + 12] A0 A →
      bw_W g (bw_rm 3 0 0) mX10_split (bw_pv (fun A' => bw_sm [X, M + 12] A0 A' ∧ bw_has A' [(X, bw_an g 200 (gcut (gdl n (2 ^ n ||| p) h low b r G) low)), (M + 12, bw_an g 200 (fun i => gdl n (2 ^ n ||| p) h low b r G (i + low)))])) 0 0 27 [(0, .ref M), (1, .ref X), (2, .ref Y), (3, .int (nI low)), (4, .int (nI b)), (5, .int (tI (low + r)))] [] A := by
  have h16 := hG.p16
  have hbl : b < 2 ^ n := by rw [hb]; exact ginv_lt hG _
  intro r
  induction r with
  | zero =>
    intro G hr hGl A hC hS
    rw [show gqz G low 0 = fun i => G (i + low) from funext (fun i => if_pos (Nat.zero_le i)), Nat.add_zero] at hC
    refine bw_iload 29 dX10_split_27 rfl rfl ?_
    refine bw_iload_n 30 dX10_split_29 rfl rfl ?_
    refine bw_icmp_lt 104 33 dX10_split_30 rfl rfl (fun c30 => ?_) (fun c30 => ?_)
    · refine bw_vret dX10_split_104 rfl (Nat.le_of_ble_eq_true rfl) (Nat.le_of_ble_eq_true rfl) ?_
      exact ⟨rfl, hS, hC.sub [1, 3] (by decide) rfl⟩
    · exact absurd ((tI_ltk (by omega) (by omega)).mpr (by omega)) c30
  | succ r ih =>
    intro G hr hGl A hC hS
    rw [← Nat.add_assoc, tI_s]
    rw [← Nat.add_assoc] at hC
    have hc0 : G (low + r) ^^^ gm n (2 ^ n ||| p) (gm n (2 ^ n ||| p) (G (low + r)) b) (h low) = 0 := by
      rw [hG.2.2.1.assoc (hGl _) hbl, hG.2.2.1.comm hbl (hh low), hb, gfi_m hG.2.2.1 (hh low) h0, hG.2.2.1.mul1 (hGl _), Nat.xor_self]
    have fin : ∀ A : bw_H, bw_has A [(M, mdo M n p gg th rn mn pn rd rs pt sn), (X, bw_an g 200 (gam n (2 ^ n ||| p) (gcut G (low + r + 1)) h r 0 (gm n (2 ^ n ||| p) (G (low + r)) b) (low + 1))), (Y, bw_an g 200 h), (M + 12, bw_an g 200 (gqz (gds n (2 ^ n ||| p) h low b G (low + r)) low r))] → bw_sm [X, M + 12] A0 A → bw_W g (bw_rm 3 0 0) mX10_split (bw_pv (fun A' => bw_sm [X, M + 12] A0 A' ∧ bw_has A' [(X, bw_an g 200 (gcut (gdl n (2 ^ n ||| p) h low b (r + 1) G) low)), (M + 12, bw_an g 200 (fun i => gdl n (2 ^ n ||| p) h low b (r + 1) G (i + low)))])) 0 0 98 [(0, .ref M), (1, .ref X), (2, .ref Y), (3, .int (nI low)), (4, .int (nI b)), (5, .int (nI (low + r)))] [] A := by
      intro A hC hS
      rw [gsp_s2 hc0] at hC
      refine bw_iincN (-1) 101 dX10_split_98 rfl rfl (by decide) (by decide) ?_
      refine bw_goto 27 dX10_split_101 rfl ?_
      refine bw_loc _ ?_ (ih (gds n (2 ^ n ||| p) h low b G (low + r)) (by omega) (gds_lt hG.2.2.1 hGl) A hC hS)
      exact ⟨rfl, rfl, rfl, rfl, rfl, rfl, trivial⟩
    have mid : ∀ A : bw_H, bw_has A [(M, mdo M n p gg th rn mn pn rd rs pt sn), (X, bw_an g 200 (gcut G (low + r + 1))), (Y, bw_an g 200 h), (M + 12, bw_an g 200 (gqz (gds n (2 ^ n ||| p) h low b G (low + r)) low r))] → bw_sm [X, M + 12] A0 A → bw_W g (bw_rm 3 0 0) mX10_split (bw_pv (fun A' => bw_sm [X, M + 12] A0 A' ∧ bw_has A' [(X, bw_an g 200 (gcut (gdl n (2 ^ n ||| p) h low b (r + 1) G) low)), (M + 12, bw_an g 200 (fun i => gdl n (2 ^ n ||| p) h low b (r + 1) G (i + low)))])) 0 0 59 [(0, .ref M), (1, .ref X), (2, .ref Y), (3, .int (nI low)), (4, .int (nI b)), (5, .int (nI (low + r))), (6, .int (nI (gm n (2 ^ n ||| p) (G (low + r)) b))), (7, .int (nI 0))] [] A := by
      intro A hC hS
      by_cases hz : gm n (2 ^ n ||| p) (G (low + r)) b = 0
      · rw [hz, gam_c0] at fin
        rw [hz]
        refine bw_iload 61 dX10_split_59 rfl rfl ?_
        refine bw_iload_n 62 dX10_split_61 rfl rfl ?_
        refine bw_icmp_gt 98 65 dX10_split_62 rfl rfl (fun c62 => ?_) (fun c62 => ?_)
        · exact absurd ((nI_ltI (by omega) (by omega)).mp c62) (by omega)
        · refine bw_iload 67 dX10_split_65 rfl rfl ?_
          refine bw_if_eq 98 70 dX10_split_67 rfl rfl (fun c67 => ?_) (fun c67 => ?_)
          · exact bw_loc [(0, .ref M), (1, .ref X), (2, .ref Y), (3, .int (nI low)), (4, .int (nI b)), (5, .int (nI (low + r)))] ⟨rfl, rfl, rfl, rfl, rfl, rfl, trivial⟩ (fin A hC hS)
          · exact absurd rfl c67
      · exact m_split_in g hG (fun i => by unfold gcut; split; exact hGl i; exact Nat.two_pow_pos n) hh (by omega) (hG.2.2.1.lt (hGl _)) hz fin (low + 1) 0 (by omega) A (by rw [gam_0]; exact hC) hS
    refine bw_iload 29 dX10_split_27 rfl rfl ?_
    refine bw_iload_n 30 dX10_split_29 rfl rfl ?_
    refine bw_icmp_lt 104 33 dX10_split_30 rfl rfl (fun c30 => ?_) (fun c30 => ?_)
    · exact absurd ((nI_ltI (by omega) (by omega)).mp c30) (by omega)
    · refine bw_aload_n 34 dX10_split_33 rfl rfl ?_
      refine bw_aload_n 35 dX10_split_34 rfl rfl ?_
      refine bw_iload 37 dX10_split_35 rfl rfl ?_
      refine bw_ialdN 38 dX10_split_37 rfl (hC.at 1 rfl) (by omega) (by omega) ?_
      refine bw_eqi (congrArg nI (show gcut G (low + r + 1) (low + r) = G (low + r) from if_pos (by omega))) ?_
      refine bw_iload 40 dX10_split_38 rfl rfl ?_
      refine bw_cVi 43 dX10_split_40 rfl vX10_102 (m_mul g hG (hC.sub [0] (by decide) rfl) (hGl _) hbl) (hC.at 0 rfl) rfl rfl (Nat.le_of_ble_eq_true rfl) ⟨(Nat.le_of_ble_eq_true rfl), (Nat.le_of_ble_eq_true rfl)⟩ (Nat.le_of_ble_eq_true rfl) (Nat.le_of_ble_eq_true rfl) ?_
      refine bw_istore 45 dX10_split_43 rfl (by decide) ?_
      refine bw_aload_n 46 dX10_split_45 rfl rfl ?_
      refine bw_get 49 dX10_split_46 rfl lX10_48 (hC.at 0 rfl) rfl ?_
      refine bw_iload 51 dX10_split_49 rfl rfl ?_
      refine bw_iload_n 52 dX10_split_51 rfl rfl ?_
      refine bw_isub 53 dX10_split_52 rfl ?_
      refine bw_eqi (show nI (low + r) - nI low = nI r by rw [nI_sb (by omega), show low + r - low = r by omega]) ?_
      refine bw_iload 55 dX10_split_53 rfl rfl ?_
      refine bw_iastN 56 dX10_split_55 rfl (hC.at 3 rfl) (by omega) (by omega) (G := gqz (gds n (2 ^ n ||| p) h low b G (low + r)) low r) (gqz_s) (fun A hU => ?_)
      have hC := hC.upd 3 rfl hU
      have hS := hS.upd hU (by simp)
      clear hU
      refine bw_iconst (0) 57 dX10_split_56 (by decide) rfl ?_
      refine bw_eqi (y := nI 0) rfl ?_
      refine bw_istore 59 dX10_split_57 rfl (by decide) ?_
      refine bw_loc _ ?_ (mid A hC hS)
      exact ⟨rfl, rfl, rfl, rfl, rfl, rfl, rfl, rfl, trivial⟩
set_option maxHeartbeats 4000000 in
theorem m_split (g : bw_G) {A : bw_H} {M n p gg th rn mn pn rd rs pt sn X Y : Nat} {f h f3 : Nat → Nat} (hG : GFg n p gg) (hC : bw_has A [(M, mdo M n p gg th rn mn pn rd rs pt sn), (X, bw_an g 200 f), (Y, bw_an g 200 h), (M + 12, bw_an g 200 f3)]) (hf : pok n 200 f) (hh : pok n 200 h) (hz3 : ∀ i, 200 ≤ i → f3 i = 0) (h0 : pd h ≠ 0) : bw_C g (bw_rm 3 0 0) mX10_split [.ref M, .ref X, .ref Y] A (bw_pv (fun A' => bw_sm [X, M + 12] A A' ∧ bw_has A' [(X, bw_an g 200 (grs n (2 ^ n ||| p) f h)), (M + 12, bw_an g 200 (gqu n (2 ^ n ||| p) f h))])) := by
  have h16 := hG.p16
  have hpf := hf.le (by omega)
  have hphl := hh.le (by omega)
  have htop : h (pd h - 1) ≠ 0 := pd_top h0
  have hph : tI (pd h) = nI (pd h - 1) := by
    rw [← tI_s, show pd h - 1 + 1 = pd h by omega]
  have hS : bw_sm [X, M + 12] A A := bw_sm.rf
  have fin : ∀ A' : bw_H, bw_has A' [(M, mdo M n p gg th rn mn pn rd rs pt sn), (X, bw_an g 200 f), (Y, bw_an g 200 h), (M + 12, bw_an g 200 (fun _ => 0))] → bw_sm [X, M + 12] A A' → bw_W g (bw_rm 3 0 0) mX10_split (bw_pv (fun A' => bw_sm [X, M + 12] A A' ∧ bw_has A' [(X, bw_an g 200 (grs n (2 ^ n ||| p) f h)), (M + 12, bw_an g 200 (gqu n (2 ^ n ||| p) f h))])) 0 0 27 [(0, .ref M), (1, .ref X), (2, .ref Y), (3, .int (nI (pd h - 1))), (4, .int (nI (ginv n (2 ^ n ||| p) (h (pd h - 1))))), (5, .int (tI (pd f)))] [] A' := by
    intro A' hC hS
    by_cases hlt : pd f < pd h
    · rw [grs_lt hf (by omega) hlt, gqu_lt hf (by omega) hlt]
      refine bw_iload 29 dX10_split_27 rfl rfl ?_
      refine bw_iload_n 30 dX10_split_29 rfl rfl ?_
      refine bw_icmp_lt 104 33 dX10_split_30 rfl rfl (fun c30 => ?_) (fun c30 => ?_)
      · refine bw_vret dX10_split_104 rfl (Nat.le_of_ble_eq_true rfl) (Nat.le_of_ble_eq_true rfl) ?_
        exact ⟨rfl, hS, hC.sub [1, 3] (by decide) rfl⟩
      · exact absurd ((tI_ltk (by omega) (by omega)).mpr (by omega)) c30
    · have := m_split_out g (A0 := A) hG hh.2 rfl htop (pd f - (pd h - 1)) f (by omega) hf.2 A' (by
        rw [show pd h - 1 + (pd f - (pd h - 1)) = pd f by omega, show gcut f (pd f) = f from funext (fun i => by unfold gcut; split; rfl; exact (hf.z (by omega) i (by omega)).symm), show gqz f (pd h - 1) (pd f - (pd h - 1)) = fun _ => 0 from funext (fun i => by unfold gqz; split; exact hf.z (by omega) _ (by omega); rfl)]
        exact hC) hS
      rw [show pd h - 1 + (pd f - (pd h - 1)) = pd f by omega] at this
      exact this
  refine bw_C.of (by decide) (Nat.le_of_ble_eq_true rfl) rfl ?_
  refine bw_aload_n 1 dX10_split_0 rfl rfl ?_
  refine bw_get 4 dX10_split_1 rfl lX10_48 (hC.at 0 rfl) rfl ?_
  refine bw_cSv 7 dX10_split_4 rfl sX10_161 (m_nothing g (hC.sub [3] (by decide) rfl) hz3) rfl rfl (Nat.le_of_ble_eq_true rfl) ⟨(Nat.le_of_ble_eq_true rfl), (Nat.le_of_ble_eq_true rfl)⟩ (Nat.le_of_ble_eq_true rfl) (Nat.le_of_ble_eq_true rfl) (fun A hP => ?_)
  obtain ⟨hs1, hs2⟩ := hP
  have hU := sm_up hs1 hs2
  have hC := hC.upd 3 rfl hU
  have hS := hS.upd hU (by simp)
  clear hU
  refine bw_aload_n 8 dX10_split_7 rfl rfl ?_
  refine bw_cSi 11 dX10_split_8 rfl sX10_165 (m_high g (hC.sub [2] (by decide) rfl) (fun i => by have := hh.2 i; omega)) rfl rfl (Nat.le_of_ble_eq_true rfl) ⟨(Nat.le_of_ble_eq_true rfl), (Nat.le_of_ble_eq_true rfl)⟩ (Nat.le_of_ble_eq_true rfl) (Nat.le_of_ble_eq_true rfl) ?_
  refine bw_eqi (hph) ?_
  refine bw_istore_n 12 dX10_split_11 rfl (by decide) ?_
  refine bw_aload_n 13 dX10_split_12 rfl rfl ?_
  refine bw_aload_n 14 dX10_split_13 rfl rfl ?_
  refine bw_iload_n 15 dX10_split_14 rfl rfl ?_
  refine bw_ialdN 16 dX10_split_15 rfl (hC.at 2 rfl) (by omega) (by omega) ?_
  refine bw_cVi 19 dX10_split_16 rfl vX10_121 (m_inverse g hG (hC.sub [0] (by decide) rfl) (hh.2 _)) (hC.at 0 rfl) rfl rfl (Nat.le_of_ble_eq_true rfl) ⟨(Nat.le_of_ble_eq_true rfl), (Nat.le_of_ble_eq_true rfl)⟩ (Nat.le_of_ble_eq_true rfl) (Nat.le_of_ble_eq_true rfl) ?_
  refine bw_istore 21 dX10_split_19 rfl (by decide) ?_
  refine bw_aload_n 22 dX10_split_21 rfl rfl ?_
  refine bw_cSi 25 dX10_split_22 rfl sX10_165 (m_high g (hC.sub [1] (by decide) rfl) (fun i => by have := hf.2 i; omega)) rfl rfl (Nat.le_of_ble_eq_true rfl) ⟨(Nat.le_of_ble_eq_true rfl), (Nat.le_of_ble_eq_true rfl)⟩ (Nat.le_of_ble_eq_true rfl) (Nat.le_of_ble_eq_true rfl) ?_
  refine bw_istore 27 dX10_split_25 rfl (by decide) ?_
  refine bw_loc _ ?_ (fin A hC hS)
  exact ⟨rfl, rfl, rfl, rfl, rfl, rfl, trivial⟩
