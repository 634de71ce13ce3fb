/-! the reference: singular, determinant, rank, invert -/
theorem bl_lt {S h i : Nat} (hS : S < 2 ^ h) (hi : i ∈ bl S) : i < h := by
  obtain ⟨_, i2⟩ := bl_mem.1 hi
  apply Nat.lt_of_not_le
  intro hge
  have := Nat.testBit_lt_two_pow (Nat.lt_of_lt_of_le hS (Nat.pow_le_pow_right (by omega) hge))
  rw [this] at i2
  exact absurd i2 (by decide)
theorem mnv_cg {n q : Nat} (hG : GFp n q) {A A' : Nat → Nat → Nat} {h c S : Nat} (hA : ∀ i j, i < h → j < c → A i j = A' i j) (hS : S < 2 ^ h) (T : Nat) : mnv hG A c S T = mnv hG A' c S T := by
  letI := gfF hG
  unfold mnv
  rw [wl_cg c (v := zr A) (v' := zr A') w0 (bl S) (fun i hi j hj => by
    unfold zr
    rw [hA i j (bl_lt hS hi) hj])]
theorem zcb_cg {f f' : Nat → Nat} {cnt : Nat} : ∀ k, (∀ b, b < k → f b = f' b) → zcb f cnt k = zcb f' cnt k
  | 0, _ => rfl
  | k + 1, h => by
    show zcb f cnt k + _ = zcb f' cnt k + _
    rw [zcb_cg k (fun b hb => h b (by omega)), h k (by omega)]
theorem zcr_cg {n q : Nat} (hG : GFp n q) {A A' : Nat → Nat → Nat} {h c : Nat} (hA : ∀ i j, i < h → j < c → A i j = A' i j) : ∀ k, k ≤ 2 ^ h → zcr hG A c k = zcr hG A' c k
  | 0, _ => rfl
  | k + 1, hk => by
    show (if k = 0 then 0 else _) = if k = 0 then 0 else _
    rw [zcr_cg hG hA k (by omega), zcb_cg (2 ^ c) (fun b _ => mnv_cg hG hA (by omega) b)]
theorem zcb_le (f : Nat → Nat) (cnt : Nat) : ∀ k, zcb f cnt k ≤ k
  | 0 => Nat.le_refl 0
  | k + 1 => by
    have := zcb_le f cnt k
    show zcb f cnt k + (if _ then 1 else 0) ≤ _
    split <;> omega
theorem zcr_le {n q : Nat} (hG : GFp n q) (A : Nat → Nat → Nat) {c : Nat} (hc : c ≤ 8) : ∀ k, zcr hG A c k ≤ 256 * k
  | 0 => Nat.le_refl 0
  | k + 1 => by
    have := zcr_le hG A hc k
    have h256 : 2 ^ c ≤ 2 ^ 8 := Nat.pow_le_pow_right (by omega) hc
    have := zcb_le (mnv hG A c k) (gbc 8 k) (2 ^ c)
    show (if k = 0 then 0 else _) ≤ _
    split <;> omega
set_option maxHeartbeats 4000000 in
theorem m_singular_k (g : bw_G) {A : bw_H} {M n p gg th rn mn pn rd rs pt sn m h c r : Nat} {rr cc C V : Nat → Nat} {Q : bw_O → bw_H → Prop} (hG : GFg n p gg) (hm : m < 40) (hh : h ≤ 8) (hc : c ≤ 8) (hcc : cc m = c) (hr : r < 2 ^ h) (hr0 : r ≠ 0) (hV : mnI hG.2.2.1 (mcf C m) c (2 ^ h) 0 V) (hC : bw_has A ((M, mdo M n p gg th rn mn pn rd rs pt sn) :: (mmc g M rr cc C ++ [(M + 5, bw_an g 65536 V)])))
    (kk : bw_W g (bw_rm 8 0 0) mX10_singular Q 0 0 97 [(0, .ref M), (1, .int (nI m)), (2, .int (nI (zcr hG.2.2.1 (mcf C m) c (r + 1)))), (3, .int (nI r))] [] A) :
    ∀ (d k : Nat), k + d = 2 ^ c → 1 ≤ k → bw_W g (bw_rm 8 0 0) mX10_singular Q 0 0 43 [(0, .ref M), (1, .int (nI m)), (2, .int (nI (zcr hG.2.2.1 (mcf C m) c r + zcb (mnv hG.2.2.1 (mcf C m) c r) (gbc 8 r) k))), (3, .int (nI r)), (4, .int (nI k))] [] A := by
  have h256 : 2 ^ c ≤ 2 ^ 8 := Nat.pow_le_pow_right (by omega) hc
  have hh256 : 2 ^ h ≤ 2 ^ 8 := Nat.pow_le_pow_right (by omega) hh
  intro d
  induction d with
  | zero =>
    intro k hk h1
    have hk : k = 2 ^ c := by omega
    subst hk
    have he : zcr hG.2.2.1 (mcf C m) c (r + 1) = zcr hG.2.2.1 (mcf C m) c r + zcb (mnv hG.2.2.1 (mcf C m) c r) (gbc 8 r) (2 ^ c) := if_neg hr0
    rw [he] at kk
    refine bw_iload 45 dX10_singular_43 rfl rfl ?_
    refine bw_iconst (1) 46 dX10_singular_45 (by decide) rfl ?_
    refine bw_eqi (y := nI 1) rfl ?_
    refine bw_aload_n 47 dX10_singular_46 rfl rfl ?_
    refine bw_get 50 dX10_singular_47 rfl lX10_20 (hC.at 0 rfl) rfl ?_
    refine bw_iload_n 51 dX10_singular_50 rfl rfl ?_
    refine bw_ialdN 52 dX10_singular_51 rfl (hC.at 2 rfl) (by omega) (by omega) ?_
    refine bw_eqi (congrArg nI hcc) ?_
    refine bw_ishl 53 dX10_singular_52 rfl ?_
    refine bw_eqi ((xn_shl (a := 1) c (by omega) (by omega)).trans (by rw [Nat.one_mul])) ?_
    refine bw_icmp_ge 97 56 dX10_singular_53 rfl rfl (fun c53 => ?_) (fun c53 => ?_)
    · exact bw_loc [(0, .ref M), (1, .int (nI m)), (2, .int (nI (zcr hG.2.2.1 (mcf C m) c r + zcb (mnv hG.2.2.1 (mcf C m) c r) (gbc 8 r) (2 ^ c)))), (3, .int (nI r))] ⟨rfl, rfl, rfl, rfl, trivial⟩ kk
    · exact absurd (Int32.le_refl _) c53
  | succ d ih =>
    intro k hk h1
    have hrd : V (256 * r + k) = mnv hG.2.2.1 (mcf C m) c r k := hV _ _ (Or.inl ⟨hr, by omega⟩)
    have hml := mnv_lt hG.2.2.1 (mcf C m) c r k
    have h16 := hG.p16
    have hs : zcb (mnv hG.2.2.1 (mcf C m) c r) (gbc 8 r) (k + 1) = zcb (mnv hG.2.2.1 (mcf C m) c r) (gbc 8 r) k + (if 1 ≤ k ∧ gbc 8 k = gbc 8 r ∧ mnv hG.2.2.1 (mcf C m) c r k = 0 then 1 else 0) := rfl
    refine bw_iload 45 dX10_singular_43 rfl rfl ?_
    refine bw_iconst (1) 46 dX10_singular_45 (by decide) rfl ?_
    refine bw_eqi (y := nI 1) rfl ?_
    refine bw_aload_n 47 dX10_singular_46 rfl rfl ?_
    refine bw_get 50 dX10_singular_47 rfl lX10_20 (hC.at 0 rfl) rfl ?_
    refine bw_iload_n 51 dX10_singular_50 rfl rfl ?_
    refine bw_ialdN 52 dX10_singular_51 rfl (hC.at 2 rfl) (by omega) (by omega) ?_
    refine bw_eqi (congrArg nI hcc) ?_
    refine bw_ishl 53 dX10_singular_52 rfl ?_
    refine bw_eqi ((xn_shl (a := 1) c (by omega) (by omega)).trans (by rw [Nat.one_mul])) ?_
    refine bw_icmp_ge 97 56 dX10_singular_53 rfl rfl (fun c53 => ?_) (fun c53 => ?_)
    · exact absurd c53 (nI_ge (by omega) (by omega))
    · skip
      refine bw_iload_n 57 dX10_singular_56 rfl rfl ?_
      refine bw_iload_n 58 dX10_singular_57 rfl rfl ?_
      refine bw_cSi 61 dX10_singular_58 rfl sX10_151 (m_bitsOf g (by omega)) rfl rfl (Nat.le_of_ble_eq_true rfl) ⟨(Nat.le_of_ble_eq_true rfl), (Nat.le_of_ble_eq_true rfl)⟩ (Nat.le_of_ble_eq_true rfl) (Nat.le_of_ble_eq_true rfl) ?_
      refine bw_iload 63 dX10_singular_61 rfl rfl ?_
      refine bw_cSi 66 dX10_singular_63 rfl sX10_151 (m_bitsOf g (by omega)) rfl rfl (Nat.le_of_ble_eq_true rfl) ⟨(Nat.le_of_ble_eq_true rfl), (Nat.le_of_ble_eq_true rfl)⟩ (Nat.le_of_ble_eq_true rfl) (Nat.le_of_ble_eq_true rfl) ?_
      refine bw_icmp_ne 88 69 dX10_singular_66 rfl rfl (fun c66 => ?_) (fun c66 => ?_)
      · have hv : (if 1 ≤ k ∧ gbc 8 k = gbc 8 r ∧ mnv hG.2.2.1 (mcf C m) c r k = 0 then 1 else 0) = 0 := if_neg (fun h => c66 (by rw [h.2.1]))
        refine bw_iconst (0) 89 dX10_singular_88 (by decide) rfl ?_
        refine bw_eqi (y := nI 0) rfl ?_
        refine bw_iadd 90 dX10_singular_89 rfl ?_
        refine bw_eqi ((nI_add _ _).trans (by rw [Nat.add_assoc, ← hv, ← hs])) ?_
        refine bw_istore_n 91 dX10_singular_90 rfl (by decide) ?_
        refine bw_iincN (1) 94 dX10_singular_91 rfl rfl (by decide) (by decide) ?_
        refine bw_goto 43 dX10_singular_94 rfl ?_
        refine bw_loc _ ?_ (ih (k + 1) (by omega) (by omega))
        exact ⟨rfl, rfl, rfl, rfl, congrArg (fun x => some (Value.int x)) (nI_1 ( k )), trivial⟩
      · have hbb : gbc 8 r = gbc 8 k := (nI_eq (by have := gbc_le 8 r; omega) (by have := gbc_le 8 k; omega)).mp c66
        refine bw_aload_n 70 dX10_singular_69 rfl rfl ?_
        refine bw_get 73 dX10_singular_70 rfl lX10_27 (hC.at 0 rfl) rfl ?_
        refine bw_iload_n 74 dX10_singular_73 rfl rfl ?_
        refine bw_bipush (8) 76 dX10_singular_74 (by decide) rfl ?_
        refine bw_eqi (y := nI 8) rfl ?_
        refine bw_ishl 77 dX10_singular_76 rfl ?_
        refine bw_eqi (xn_shl 8 (by omega) (by omega)) ?_
        refine bw_iload 79 dX10_singular_77 rfl rfl ?_
        refine bw_ior 80 dX10_singular_79 rfl ?_
        refine bw_eqi ((xn_or _ _).trans (by rw [or256 (by omega)])) ?_
        refine bw_ialdN 81 dX10_singular_80 rfl (hC.at 4 rfl) (by omega) (by omega) ?_
        refine bw_eqi (congrArg nI hrd) ?_
        refine bw_if_ne 88 84 dX10_singular_81 rfl rfl (fun c81 => ?_) (fun c81 => ?_)
        · have hv : (if 1 ≤ k ∧ gbc 8 k = gbc 8 r ∧ mnv hG.2.2.1 (mcf C m) c r k = 0 then 1 else 0) = 0 := if_neg (fun h => c81 (by rw [h.2.2]; rfl))
          refine bw_iconst (0) 89 dX10_singular_88 (by decide) rfl ?_
          refine bw_eqi (y := nI 0) rfl ?_
          refine bw_iadd 90 dX10_singular_89 rfl ?_
          refine bw_eqi ((nI_add _ _).trans (by rw [Nat.add_assoc, ← hv, ← hs])) ?_
          refine bw_istore_n 91 dX10_singular_90 rfl (by decide) ?_
          refine bw_iincN (1) 94 dX10_singular_91 rfl rfl (by decide) (by decide) ?_
          refine bw_goto 43 dX10_singular_94 rfl ?_
          refine bw_loc _ ?_ (ih (k + 1) (by omega) (by omega))
          exact ⟨rfl, rfl, rfl, rfl, congrArg (fun x => some (Value.int x)) (nI_1 ( k )), trivial⟩
        · have hv : (if 1 ≤ k ∧ gbc 8 k = gbc 8 r ∧ mnv hG.2.2.1 (mcf C m) c r k = 0 then 1 else 0) = 1 := if_pos ⟨h1, hbb.symm, (xn_eq0 (by omega)).mp c81⟩
          refine bw_iconst (1) 85 dX10_singular_84 (by decide) rfl ?_
          refine bw_eqi (y := nI 1) rfl ?_
          refine bw_goto 89 dX10_singular_85 rfl ?_
          refine bw_iadd 90 dX10_singular_89 rfl ?_
          refine bw_eqi ((nI_add _ _).trans (by rw [Nat.add_assoc, ← hv, ← hs])) ?_
          refine bw_istore_n 91 dX10_singular_90 rfl (by decide) ?_
          refine bw_iincN (1) 94 dX10_singular_91 rfl rfl (by decide) (by decide) ?_
          refine bw_goto 43 dX10_singular_94 rfl ?_
          refine bw_loc _ ?_ (ih (k + 1) (by omega) (by omega))
          exact ⟨rfl, rfl, rfl, rfl, congrArg (fun x => some (Value.int x)) (nI_1 ( k )), trivial⟩
/-- the reference's answers out of minors -/
def mqP (g : bw_G) (M : Nat) (e : va_E) (v : Int32) (rr cc C : Nat → Nat) (A0 : bw_H) (y : Int32) (A' : bw_H) : Prop := y = v ∧ bw_sm [M, M + 5] A0 A' ∧ ∃ V, bw_has A' ((M, e) :: (mmc g M rr cc C ++ [(M + 5, bw_an g 65536 V)]))
set_option maxHeartbeats 4000000 in
theorem m_singular_r (g : bw_G) {A0 A : bw_H} {M n p gg th rn mn pn rd rs pt sn m h c : Nat} {rr cc C V : Nat → Nat} (hG : GFg n p gg) (hm : m < 40) (hh : h ≤ 8) (hc : c ≤ 8) (hrr : rr m = h) (hcc : cc m = c) (hV : mnI hG.2.2.1 (mcf C m) c (2 ^ h) 0 V) (hC : bw_has A ((M, mdo M n p gg th rn mn pn rd rs pt sn) :: (mmc g M rr cc C ++ [(M + 5, bw_an g 65536 V)]))) (hS : bw_sm [M, M + 5] A0 A) :
    ∀ (d r : Nat), r + d = 2 ^ h → 1 ≤ r → bw_W g (bw_rm 8 0 0) mX10_singular (bw_pm (mqP g M (mdo M n p gg th rn mn pn rd rs pt sn) (nI (zcr hG.2.2.1 (mcf C m) c (2 ^ h))) rr cc C A0)) 0 0 28 [(0, .ref M), (1, .int (nI m)), (2, .int (nI (zcr hG.2.2.1 (mcf C m) c r))), (3, .int (nI r))] [] A := by
  have hh256 : 2 ^ h ≤ 2 ^ 8 := Nat.pow_le_pow_right (by omega) hh
  have hpc := Nat.two_pow_pos c
  intro d
  induction d with
  | zero =>
    intro r hr h1
    have hr : r = 2 ^ h := by omega
    subst hr
    refine bw_iload_n 29 dX10_singular_28 rfl rfl ?_
    refine bw_iconst (1) 30 dX10_singular_29 (by decide) rfl ?_
    refine bw_eqi (y := nI 1) rfl ?_
    refine bw_aload_n 31 dX10_singular_30 rfl rfl ?_
    refine bw_get 34 dX10_singular_31 rfl lX10_17 (hC.at 0 rfl) rfl ?_
    refine bw_iload_n 35 dX10_singular_34 rfl rfl ?_
    refine bw_ialdN 36 dX10_singular_35 rfl (hC.at 1 rfl) (by omega) (by omega) ?_
    refine bw_eqi (congrArg nI hrr) ?_
    refine bw_ishl 37 dX10_singular_36 rfl ?_
    refine bw_eqi ((xn_shl (a := 1) h (by omega) (by omega)).trans (by rw [Nat.one_mul])) ?_
    refine bw_icmp_ge 103 40 dX10_singular_37 rfl rfl (fun c37 => ?_) (fun c37 => ?_)
    · refine bw_iload_n 104 dX10_singular_103 rfl rfl ?_
      refine bw_iret dX10_singular_104 rfl (Nat.le_of_ble_eq_true rfl) (Nat.le_of_ble_eq_true rfl) ?_
      exact ⟨_, rfl, rfl, hS, V, hC⟩
    · exact absurd (Int32.le_refl _) c37
  | succ d ih =>
    intro r hr h1
    refine bw_iload_n 29 dX10_singular_28 rfl rfl ?_
    refine bw_iconst (1) 30 dX10_singular_29 (by decide) rfl ?_
    refine bw_eqi (y := nI 1) rfl ?_
    refine bw_aload_n 31 dX10_singular_30 rfl rfl ?_
    refine bw_get 34 dX10_singular_31 rfl lX10_17 (hC.at 0 rfl) rfl ?_
    refine bw_iload_n 35 dX10_singular_34 rfl rfl ?_
    refine bw_ialdN 36 dX10_singular_35 rfl (hC.at 1 rfl) (by omega) (by omega) ?_
    refine bw_eqi (congrArg nI hrr) ?_
    refine bw_ishl 37 dX10_singular_36 rfl ?_
    refine bw_eqi ((xn_shl (a := 1) h (by omega) (by omega)).trans (by rw [Nat.one_mul])) ?_
    refine bw_icmp_ge 103 40 dX10_singular_37 rfl rfl (fun c37 => ?_) (fun c37 => ?_)
    · exact absurd c37 (nI_ge (by omega) (by omega))
    · skip
      refine bw_iconst (1) 41 dX10_singular_40 (by decide) rfl ?_
      refine bw_eqi (y := nI 1) rfl ?_
      refine bw_istore 43 dX10_singular_41 rfl (by decide) ?_
      refine bw_loc _ ?_ (m_singular_k g hG hm hh hc hcc (show r < 2 ^ h by omega) (by omega) hV hC ?_ (2 ^ c - 1) 1 (by omega) (by omega))
      · exact ⟨rfl, rfl, rfl, rfl, rfl, trivial⟩
      refine bw_iincN (1) 100 dX10_singular_97 rfl rfl (by decide) (by decide) ?_
      refine bw_goto 28 dX10_singular_100 rfl ?_
      refine bw_loc _ ?_ (ih (r + 1) (by omega) (by omega))
      exact ⟨rfl, rfl, rfl, congrArg (fun x => some (Value.int x)) (nI_1 ( r )), trivial⟩
theorem m_singular (g : bw_G) {A : bw_H} {M n p gg th rn mn pn rd rs pt sn m : Nat} {rr cc C V0 : Nat → Nat} (hG : GFg n p gg) (hC : bw_has A ((M, mdo M n p gg th rn mn pn rd rs pt sn) :: (mmc g M rr cc C ++ [(M + 5, bw_an g 65536 V0)]))) (hCl : ∀ i, C i < 2 ^ n) (hm : mn ≤ 40) (hk : m < mn) (hr : rr m ≤ 8) (hc : cc m ≤ 8) : bw_C g (bw_rm 8 0 0) mX10_singular [.ref M, .int (nI m)] A (bw_pm (mqP g M (mdo M n p gg 0 rn mn pn rd rs pt sn) (nI (zcr hG.2.2.1 (mcf C m) (cc m) (2 ^ rr m))) rr cc C A)) := by
  have hS : bw_sm [M, M + 5] A A := bw_sm.rf
  refine bw_C.of (by decide) (Nat.le_of_ble_eq_true rfl) rfl ?_
  refine bw_aload_n 1 dX10_singular_0 rfl rfl ?_
  refine bw_iconst (0) 2 dX10_singular_1 (by decide) rfl ?_
  refine bw_eqi (y := nI 0) rfl ?_
  refine bw_putU 5 dX10_singular_2 rfl pX10_1 (hC.at 0 rfl) rfl rfl (Nat.le_of_ble_eq_true rfl) (fun A hU => ?_)
  have hC := hC.upd 0 rfl hU
  have hS := hS.upd hU (by simp)
  clear hU
  refine bw_aload_n 6 dX10_singular_5 rfl rfl ?_
  refine bw_iload_n 7 dX10_singular_6 rfl rfl ?_
  refine bw_cVi 10 dX10_singular_7 rfl vX10_144 (m_isMatrix g (hC.sub [0] (by decide) rfl) (kI_nI (by omega) hk)) (hC.at 0 rfl) rfl rfl (Nat.le_of_ble_eq_true rfl) ⟨(Nat.le_of_ble_eq_true rfl), (Nat.le_of_ble_eq_true rfl)⟩ (Nat.le_of_ble_eq_true rfl) (Nat.le_of_ble_eq_true rfl) ?_
  refine bw_if_ne 19 13 dX10_singular_10 rfl rfl (fun c10 => ?_) (fun c10 => ?_)
  · refine bw_aload_n 20 dX10_singular_19 rfl rfl ?_
    refine bw_iload_n 21 dX10_singular_20 rfl rfl ?_
    refine bw_cVv 24 dX10_singular_21 rfl vX10_154 (m_minors g hG hC hCl (by omega) hr hc rfl rfl) (hC.at 0 rfl) rfl rfl (Nat.le_of_ble_eq_true rfl) ⟨(Nat.le_of_ble_eq_true rfl), (Nat.le_of_ble_eq_true rfl)⟩ (Nat.le_of_ble_eq_true rfl) (Nat.le_of_ble_eq_true rfl) (fun A hP => ?_)
    obtain ⟨V, hV, hs1, hC⟩ := hP
    have hS := hS.trans hs1 (by simp)
    refine bw_iconst (0) 25 dX10_singular_24 (by decide) rfl ?_
    refine bw_eqi (y := nI 0) rfl ?_
    refine bw_istore_n 26 dX10_singular_25 rfl (by decide) ?_
    refine bw_iconst (1) 27 dX10_singular_26 (by decide) rfl ?_
    refine bw_eqi (y := nI 1) rfl ?_
    refine bw_istore_n 28 dX10_singular_27 rfl (by decide) ?_
    refine bw_loc _ ?_ (m_singular_r g hG (by omega) hr hc rfl rfl hV hC hS (2 ^ rr m - 1) 1 (by have := Nat.two_pow_pos (rr m); omega) (by omega))
    exact ⟨rfl, rfl, rfl, rfl, trivial⟩
  · exact absurd c10 (by decide)
theorem m_singularX (g : bw_G) {A : bw_H} {M n p gg th rn mn pn rd rs pt sn : Nat} {a : Int32} (hC : bw_has A [(M, mdo M n p gg th rn mn pn rd rs pt sn)]) (h : ¬ kI mn a) : bw_C g (bw_rm 8 0 0) mX10_singular [.ref M, .int a] A (bw_pm (maR M [] (mdo M n p gg 1 rn mn pn rd rs pt sn) (nI 0) A)) := by
  have hS : bw_sm [M] A A := bw_sm.rf
  refine bw_C.of (by decide) (Nat.le_of_ble_eq_true rfl) rfl ?_
  refine bw_aload_n 1 dX10_singular_0 rfl rfl ?_
  refine bw_iconst (0) 2 dX10_singular_1 (by decide) rfl ?_
  refine bw_eqi (y := nI 0) rfl ?_
  refine bw_putU 5 dX10_singular_2 rfl pX10_1 (hC.at 0 rfl) rfl rfl (Nat.le_of_ble_eq_true rfl) (fun A hU => ?_)
  have hC := hC.upd 0 rfl hU
  have hS := hS.upd hU (by simp)
  clear hU
  refine bw_aload_n 6 dX10_singular_5 rfl rfl ?_
  refine bw_iload_n 7 dX10_singular_6 rfl rfl ?_
  refine bw_cVi 10 dX10_singular_7 rfl vX10_144 (m_isMatrixX g hC h) (hC.at 0 rfl) rfl rfl (Nat.le_of_ble_eq_true rfl) ⟨(Nat.le_of_ble_eq_true rfl), (Nat.le_of_ble_eq_true rfl)⟩ (Nat.le_of_ble_eq_true rfl) (Nat.le_of_ble_eq_true rfl) ?_
  refine bw_if_ne 19 13 dX10_singular_10 rfl rfl (fun c10 => ?_) (fun c10 => ?_)
  · exact absurd rfl c10
  · refine bw_aload_n 14 dX10_singular_13 rfl rfl ?_
    refine bw_iconst (1) 15 dX10_singular_14 (by decide) rfl ?_
    refine bw_eqi (y := nI 1) rfl ?_
    refine bw_cVm 18 dX10_singular_15 rfl vX10_118 (m_fail g hC) (hC.at 0 rfl) rfl rfl (Nat.le_of_ble_eq_true rfl) ⟨(Nat.le_of_ble_eq_true rfl), (Nat.le_of_ble_eq_true rfl)⟩ (Nat.le_of_ble_eq_true rfl) (Nat.le_of_ble_eq_true rfl) (fun x A hP => ?_)
    obtain ⟨h4, h5⟩ := hP
    subst h4
    have hC := hC.upd 0 rfl h5
    have hS := hS.upd h5 (by simp)
    refine bw_iret dX10_singular_18 rfl (Nat.le_of_ble_eq_true rfl) (Nat.le_of_ble_eq_true rfl) ?_
    exact ⟨_, rfl, rfl, hS, hC.at 0 rfl⟩
theorem m_determinant (g : bw_G) {A : bw_H} {M n p gg th rn mn pn rd rs pt sn m : Nat} {rr cc C V0 : Nat → Nat} (hG : GFg n p gg) (hC : bw_has A ((M, mdo M n p gg th rn mn pn rd rs pt sn) :: (mmc g M rr cc C ++ [(M + 5, bw_an g 65536 V0)]))) (hCl : ∀ i, C i < 2 ^ n) (hm : mn ≤ 40) (hk : m < mn) (hr : rr m ≤ 8) (hsq : rr m = cc m) : bw_C g (bw_rm 8 0 0) mX10_determinant [.ref M, .int (nI m)] A (bw_pm (mqP g M (mdo M n p gg 0 rn mn pn rd rs pt sn) (nI (mnv hG.2.2.1 (mcf C m) (cc m) (2 ^ rr m - 1) (2 ^ rr m - 1))) rr cc C A)) := by
  have h256 : 2 ^ rr m ≤ 2 ^ 8 := Nat.pow_le_pow_right (by omega) hr
  have hp := Nat.two_pow_pos (rr m)
  have hS : bw_sm [M, M + 5] A A := bw_sm.rf
  refine bw_C.of (by decide) (Nat.le_of_ble_eq_true rfl) rfl ?_
  refine bw_aload_n 1 dX10_determinant_0 rfl rfl ?_
  refine bw_iconst (0) 2 dX10_determinant_1 (by decide) rfl ?_
  refine bw_eqi (y := nI 0) rfl ?_
  refine bw_putU 5 dX10_determinant_2 rfl pX10_1 (hC.at 0 rfl) rfl rfl (Nat.le_of_ble_eq_true rfl) (fun A hU => ?_)
  have hC := hC.upd 0 rfl hU
  have hS := hS.upd hU (by simp)
  clear hU
  refine bw_aload_n 6 dX10_determinant_5 rfl rfl ?_
  refine bw_iload_n 7 dX10_determinant_6 rfl rfl ?_
  refine bw_cVi 10 dX10_determinant_7 rfl vX10_144 (m_isMatrix g (hC.sub [0] (by decide) rfl) (kI_nI (by omega) hk)) (hC.at 0 rfl) rfl rfl (Nat.le_of_ble_eq_true rfl) ⟨(Nat.le_of_ble_eq_true rfl), (Nat.le_of_ble_eq_true rfl)⟩ (Nat.le_of_ble_eq_true rfl) (Nat.le_of_ble_eq_true rfl) ?_
  refine bw_if_ne 19 13 dX10_determinant_10 rfl rfl (fun c10 => ?_) (fun c10 => ?_)
  · refine bw_aload_n 20 dX10_determinant_19 rfl rfl ?_
    refine bw_get 23 dX10_determinant_20 rfl lX10_17 (hC.at 0 rfl) rfl ?_
    refine bw_iload_n 24 dX10_determinant_23 rfl rfl ?_
    refine bw_ialdN 25 dX10_determinant_24 rfl (hC.at 1 rfl) (by omega) (by omega) ?_
    refine bw_aload_n 26 dX10_determinant_25 rfl rfl ?_
    refine bw_get 29 dX10_determinant_26 rfl lX10_20 (hC.at 0 rfl) rfl ?_
    refine bw_iload_n 30 dX10_determinant_29 rfl rfl ?_
    refine bw_ialdN 31 dX10_determinant_30 rfl (hC.at 2 rfl) (by omega) (by omega) ?_
    refine bw_icmp_eq 40 34 dX10_determinant_31 rfl rfl (fun c31 => ?_) (fun c31 => ?_)
    · refine bw_aload_n 41 dX10_determinant_40 rfl rfl ?_
      refine bw_iload_n 42 dX10_determinant_41 rfl rfl ?_
      refine bw_cVv 45 dX10_determinant_42 rfl vX10_154 (m_minors g hG hC hCl (by omega) hr (by omega) rfl rfl) (hC.at 0 rfl) rfl rfl (Nat.le_of_ble_eq_true rfl) ⟨(Nat.le_of_ble_eq_true rfl), (Nat.le_of_ble_eq_true rfl)⟩ (Nat.le_of_ble_eq_true rfl) (Nat.le_of_ble_eq_true rfl) (fun A hP => ?_)
      obtain ⟨V, hV, hs1, hC⟩ := hP
      have hS := hS.trans hs1 (by simp)
      refine bw_iconst (1) 46 dX10_determinant_45 (by decide) rfl ?_
      refine bw_eqi (y := nI 1) rfl ?_
      refine bw_aload_n 47 dX10_determinant_46 rfl rfl ?_
      refine bw_get 50 dX10_determinant_47 rfl lX10_17 (hC.at 0 rfl) rfl ?_
      refine bw_iload_n 51 dX10_determinant_50 rfl rfl ?_
      refine bw_ialdN 52 dX10_determinant_51 rfl (hC.at 1 rfl) (by omega) (by omega) ?_
      refine bw_ishl 53 dX10_determinant_52 rfl ?_
      refine bw_eqi ((xn_shl (a := 1) (rr m) (by omega) (by omega)).trans (by rw [Nat.one_mul])) ?_
      refine bw_iconst (1) 54 dX10_determinant_53 (by decide) rfl ?_
      refine bw_isub 55 dX10_determinant_54 rfl ?_
      refine bw_eqi ((tI_sub (2 ^ rr m)).trans (tI_p (by omega))) ?_
      refine bw_istore_n 56 dX10_determinant_55 rfl (by decide) ?_
      refine bw_aload_n 57 dX10_determinant_56 rfl rfl ?_
      refine bw_get 60 dX10_determinant_57 rfl lX10_27 (hC.at 0 rfl) rfl ?_
      refine bw_iload_n 61 dX10_determinant_60 rfl rfl ?_
      refine bw_bipush (8) 63 dX10_determinant_61 (by decide) rfl ?_
      refine bw_eqi (y := nI 8) rfl ?_
      refine bw_ishl 64 dX10_determinant_63 rfl ?_
      refine bw_eqi (xn_shl 8 (by omega) (by omega)) ?_
      refine bw_iload_n 65 dX10_determinant_64 rfl rfl ?_
      refine bw_ior 66 dX10_determinant_65 rfl ?_
      refine bw_eqi ((xn_or _ _).trans (by rw [or256 (by omega)])) ?_
      refine bw_ialdN 67 dX10_determinant_66 rfl (hC.at 4 rfl) (by omega) (by omega) ?_
      refine bw_eqi (congrArg nI (hV (2 ^ rr m - 1) (2 ^ rr m - 1) (Or.inl ⟨by omega, by rw [← hsq]; omega⟩))) ?_
      refine bw_iret dX10_determinant_67 rfl (Nat.le_of_ble_eq_true rfl) (Nat.le_of_ble_eq_true rfl) ?_
      exact ⟨_, rfl, rfl, hS, V, hC⟩
    · exact absurd (by rw [hsq]) c31
  · exact absurd c10 (by decide)
theorem m_determinantY (g : bw_G) {A : bw_H} {M n p gg th rn mn pn rd rs pt sn m : Nat} {rr cc : Nat → Nat} (hC : bw_has A [(M, mdo M n p gg th rn mn pn rd rs pt sn), (M + 2, bw_an g 40 rr), (M + 3, bw_an g 40 cc)]) (hm : mn ≤ 40) (hk : m < mn) (hr : rr m ≤ 8) (hc : cc m ≤ 8) (h : rr m ≠ cc m) : bw_C g (bw_rm 8 0 0) mX10_determinant [.ref M, .int (nI m)] A (bw_pm (maR M [] (mdo M n p gg 2 rn mn pn rd rs pt sn) (nI 0) A)) := by
  have hS : bw_sm [M] A A := bw_sm.rf
  refine bw_C.of (by decide) (Nat.le_of_ble_eq_true rfl) rfl ?_
  refine bw_aload_n 1 dX10_determinant_0 rfl rfl ?_
  refine bw_iconst (0) 2 dX10_determinant_1 (by decide) rfl ?_
  refine bw_eqi (y := nI 0) rfl ?_
  refine bw_putU 5 dX10_determinant_2 rfl pX10_1 (hC.at 0 rfl) rfl rfl (Nat.le_of_ble_eq_true rfl) (fun A hU => ?_)
  have hC := hC.upd 0 rfl hU
  have hS := hS.upd hU (by simp)
  clear hU
  refine bw_aload_n 6 dX10_determinant_5 rfl rfl ?_
  refine bw_iload_n 7 dX10_determinant_6 rfl rfl ?_
  refine bw_cVi 10 dX10_determinant_7 rfl vX10_144 (m_isMatrix g (hC.sub [0] (by decide) rfl) (kI_nI (by omega) hk)) (hC.at 0 rfl) rfl rfl (Nat.le_of_ble_eq_true rfl) ⟨(Nat.le_of_ble_eq_true rfl), (Nat.le_of_ble_eq_true rfl)⟩ (Nat.le_of_ble_eq_true rfl) (Nat.le_of_ble_eq_true rfl) ?_
  refine bw_if_ne 19 13 dX10_determinant_10 rfl rfl (fun c10 => ?_) (fun c10 => ?_)
  · refine bw_aload_n 20 dX10_determinant_19 rfl rfl ?_
    refine bw_get 23 dX10_determinant_20 rfl lX10_17 (hC.at 0 rfl) rfl ?_
    refine bw_iload_n 24 dX10_determinant_23 rfl rfl ?_
    refine bw_ialdN 25 dX10_determinant_24 rfl (hC.at 1 rfl) (by omega) (by omega) ?_
    refine bw_aload_n 26 dX10_determinant_25 rfl rfl ?_
    refine bw_get 29 dX10_determinant_26 rfl lX10_20 (hC.at 0 rfl) rfl ?_
    refine bw_iload_n 30 dX10_determinant_29 rfl rfl ?_
    refine bw_ialdN 31 dX10_determinant_30 rfl (hC.at 2 rfl) (by omega) (by omega) ?_
    refine bw_icmp_eq 40 34 dX10_determinant_31 rfl rfl (fun c31 => ?_) (fun c31 => ?_)
    · exact absurd ((nI_eq (by omega) (by omega)).mp c31) h
    · refine bw_aload_n 35 dX10_determinant_34 rfl rfl ?_
      refine bw_iconst (2) 36 dX10_determinant_35 (by decide) rfl ?_
      refine bw_eqi (y := nI 2) rfl ?_
      refine bw_cVm 39 dX10_determinant_36 rfl vX10_118 (m_fail g (hC.sub [0] (by decide) rfl)) (hC.at 0 rfl) rfl rfl (Nat.le_of_ble_eq_true rfl) ⟨(Nat.le_of_ble_eq_true rfl), (Nat.le_of_ble_eq_true rfl)⟩ (Nat.le_of_ble_eq_true rfl) (Nat.le_of_ble_eq_true rfl) (fun x A hP => ?_)
      obtain ⟨h4, h5⟩ := hP
      subst h4
      have hC := hC.upd 0 rfl h5
      have hS := hS.upd h5 (by simp)
      refine bw_iret dX10_determinant_39 rfl (Nat.le_of_ble_eq_true rfl) (Nat.le_of_ble_eq_true rfl) ?_
      exact ⟨_, rfl, rfl, hS, hC.at 0 rfl⟩
  · exact absurd c10 (by decide)
theorem m_determinantX (g : bw_G) {A : bw_H} {M n p gg th rn mn pn rd rs pt sn : Nat} {a : Int32} (hC : bw_has A [(M, mdo M n p gg th rn mn pn rd rs pt sn)]) (h : ¬ kI mn a) : bw_C g (bw_rm 8 0 0) mX10_determinant [.ref M, .int a] A (bw_pm (maR M [] (mdo M n p gg 1 rn mn pn rd rs pt sn) (nI 0) A)) := by
  have hS : bw_sm [M] A A := bw_sm.rf
  refine bw_C.of (by decide) (Nat.le_of_ble_eq_true rfl) rfl ?_
  refine bw_aload_n 1 dX10_determinant_0 rfl rfl ?_
  refine bw_iconst (0) 2 dX10_determinant_1 (by decide) rfl ?_
  refine bw_eqi (y := nI 0) rfl ?_
  refine bw_putU 5 dX10_determinant_2 rfl pX10_1 (hC.at 0 rfl) rfl rfl (Nat.le_of_ble_eq_true rfl) (fun A hU => ?_)
  have hC := hC.upd 0 rfl hU
  have hS := hS.upd hU (by simp)
  clear hU
  refine bw_aload_n 6 dX10_determinant_5 rfl rfl ?_
  refine bw_iload_n 7 dX10_determinant_6 rfl rfl ?_
  refine bw_cVi 10 dX10_determinant_7 rfl vX10_144 (m_isMatrixX g hC h) (hC.at 0 rfl) rfl rfl (Nat.le_of_ble_eq_true rfl) ⟨(Nat.le_of_ble_eq_true rfl), (Nat.le_of_ble_eq_true rfl)⟩ (Nat.le_of_ble_eq_true rfl) (Nat.le_of_ble_eq_true rfl) ?_
  refine bw_if_ne 19 13 dX10_determinant_10 rfl rfl (fun c10 => ?_) (fun c10 => ?_)
  · exact absurd rfl c10
  · refine bw_aload_n 14 dX10_determinant_13 rfl rfl ?_
    refine bw_iconst (1) 15 dX10_determinant_14 (by decide) rfl ?_
    refine bw_eqi (y := nI 1) rfl ?_
    refine bw_cVm 18 dX10_determinant_15 rfl vX10_118 (m_fail g hC) (hC.at 0 rfl) rfl rfl (Nat.le_of_ble_eq_true rfl) ⟨(Nat.le_of_ble_eq_true rfl), (Nat.le_of_ble_eq_true rfl)⟩ (Nat.le_of_ble_eq_true rfl) (Nat.le_of_ble_eq_true rfl) (fun x A hP => ?_)
    obtain ⟨h4, h5⟩ := hP
    subst h4
    have hC := hC.upd 0 rfl h5
    have hS := hS.upd h5 (by simp)
    refine bw_iret dX10_determinant_18 rfl (Nat.le_of_ble_eq_true rfl) (Nat.le_of_ble_eq_true rfl) ?_
    exact ⟨_, rfl, rfl, hS, hC.at 0 rfl⟩
/-- the best so far -/
def rkI (f : Nat → Nat → Nat) (c r k b : Nat) : Prop := (b = 0 ∨ ∃ r' k', ((r' < r ∧ k' < 2 ^ c) ∨ (r' = r ∧ k' < k)) ∧ f r' k' ≠ 0 ∧ gbc 8 r' = b) ∧ ∀ r' k', ((r' < r ∧ k' < 2 ^ c) ∨ (r' = r ∧ k' < k)) → f r' k' ≠ 0 → gbc 8 r' ≤ b
theorem rkI.st {f : Nat → Nat → Nat} {c r k b b' : Nat} (h : rkI f c r k b) (hb : (f r k ≠ 0 ∧ b < gbc 8 r ∧ b' = gbc 8 r) ∨ ((f r k = 0 ∨ gbc 8 r ≤ b) ∧ b' = b)) : rkI f c r (k + 1) b' := by
  obtain ⟨h1, h2⟩ := h
  rcases hb with ⟨a1, a2, a3⟩ | ⟨a1, a2⟩
  · subst a3
    refine ⟨Or.inr ⟨r, k, Or.inr ⟨rfl, by omega⟩, a1, rfl⟩, fun r' k' hr hne => ?_⟩
    rcases hr with hr | ⟨e, hk⟩
    · have := h2 r' k' (Or.inl hr) hne
      omega
    · rw [e]
      exact Nat.le_refl _
  · subst a2
    refine ⟨?_, fun r' k' hr hne => ?_⟩
    · rcases h1 with h1 | ⟨r', k', hr, hx⟩
      · exact Or.inl h1
      · exact Or.inr ⟨r', k', by omega, hx⟩
    · by_cases e : r' = r ∧ k' = k
      · obtain ⟨e1, e2⟩ := e
        rw [e1, e2] at hne
        rcases a1 with a1 | a1
        · exact absurd a1 hne
        · rw [e1]
          exact a1
      · exact h2 r' k' (by omega) hne
theorem rkI.row {f : Nat → Nat → Nat} {c r b : Nat} (h : rkI f c r (2 ^ c) b) : rkI f c (r + 1) 0 b := by
  obtain ⟨h1, h2⟩ := h
  refine ⟨?_, fun r' k' hr hne => h2 r' k' (by omega) hne⟩
  rcases h1 with h1 | ⟨r', k', hr, hx⟩
  · exact Or.inl h1
  · exact Or.inr ⟨r', k', by omega, hx⟩
set_option maxHeartbeats 4000000 in
theorem m_rank_k (g : bw_G) {A : bw_H} {M n p gg th rn mn pn rd rs pt sn m h c r : Nat} {rr cc C V : Nat → Nat} {Q : bw_O → bw_H → Prop} (hG : GFg n p gg) (hm : m < 40) (hh : h ≤ 8) (hc : c ≤ 8) (hcc : cc m = c) (hr : r < 2 ^ h) (hV : mnI hG.2.2.1 (mcf C m) c (2 ^ h) 0 V) (hC : bw_has A ((M, mdo M n p gg th rn mn pn rd rs pt sn) :: (mmc g M rr cc C ++ [(M + 5, bw_an g 65536 V)])))
    (kk : ∀ b, b ≤ 8 → rkI (mnv hG.2.2.1 (mcf C m) c) c r (2 ^ c) b → bw_W g (bw_rm 8 0 0) mX10_rank Q 0 0 90 [(0, .ref M), (1, .int (nI m)), (2, .int (nI b)), (3, .int (nI r))] [] A) :
    ∀ (d k : Nat), k + d = 2 ^ c → ∀ b, b ≤ 8 → rkI (mnv hG.2.2.1 (mcf C m) c) c r k b → bw_W g (bw_rm 8 0 0) mX10_rank Q 0 0 43 [(0, .ref M), (1, .int (nI m)), (2, .int (nI b)), (3, .int (nI r)), (4, .int (nI k))] [] A := by
  have h256 : 2 ^ c ≤ 2 ^ 8 := Nat.pow_le_pow_right (by omega) hc
  have hh256 : 2 ^ h ≤ 2 ^ 8 := Nat.pow_le_pow_right (by omega) hh
  have hgr := gbc_le 8 r
  intro d
  induction d with
  | zero =>
    intro k hk b hb8 hI
    have hk : k = 2 ^ c := by omega
    subst hk
    refine bw_iload 45 dX10_rank_43 rfl rfl ?_
    refine bw_iconst (1) 46 dX10_rank_45 (by decide) rfl ?_
    refine bw_eqi (y := nI 1) rfl ?_
    refine bw_aload_n 47 dX10_rank_46 rfl rfl ?_
    refine bw_get 50 dX10_rank_47 rfl lX10_20 (hC.at 0 rfl) rfl ?_
    refine bw_iload_n 51 dX10_rank_50 rfl rfl ?_
    refine bw_ialdN 52 dX10_rank_51 rfl (hC.at 2 rfl) (by omega) (by omega) ?_
    refine bw_eqi (congrArg nI hcc) ?_
    refine bw_ishl 53 dX10_rank_52 rfl ?_
    refine bw_eqi ((xn_shl (a := 1) c (by omega) (by omega)).trans (by rw [Nat.one_mul])) ?_
    refine bw_icmp_ge 90 56 dX10_rank_53 rfl rfl (fun c53 => ?_) (fun c53 => ?_)
    · exact bw_loc [(0, .ref M), (1, .int (nI m)), (2, .int (nI b)), (3, .int (nI r))] ⟨rfl, rfl, rfl, rfl, trivial⟩ (kk b hb8 hI)
    · exact absurd (Int32.le_refl _) c53
  | succ d ih =>
    intro k hk b hb8 hI
    have hrd : V (256 * r + k) = mnv hG.2.2.1 (mcf C m) c r k := hV _ _ (Or.inl ⟨hr, by omega⟩)
    have hml := mnv_lt hG.2.2.1 (mcf C m) c r k
    have h16 := hG.p16
    refine bw_iload 45 dX10_rank_43 rfl rfl ?_
    refine bw_iconst (1) 46 dX10_rank_45 (by decide) rfl ?_
    refine bw_eqi (y := nI 1) rfl ?_
    refine bw_aload_n 47 dX10_rank_46 rfl rfl ?_
    refine bw_get 50 dX10_rank_47 rfl lX10_20 (hC.at 0 rfl) rfl ?_
    refine bw_iload_n 51 dX10_rank_50 rfl rfl ?_
    refine bw_ialdN 52 dX10_rank_51 rfl (hC.at 2 rfl) (by omega) (by omega) ?_
    refine bw_eqi (congrArg nI hcc) ?_
    refine bw_ishl 53 dX10_rank_52 rfl ?_
    refine bw_eqi ((xn_shl (a := 1) c (by omega) (by omega)).trans (by rw [Nat.one_mul])) ?_
    refine bw_icmp_ge 90 56 dX10_rank_53 rfl rfl (fun c53 => ?_) (fun c53 => ?_)
    · exact absurd c53 (nI_ge (by omega) (by omega))
    · skip
      refine bw_aload_n 57 dX10_rank_56 rfl rfl ?_
      refine bw_get 60 dX10_rank_57 rfl lX10_27 (hC.at 0 rfl) rfl ?_
      refine bw_iload_n 61 dX10_rank_60 rfl rfl ?_
      refine bw_bipush (8) 63 dX10_rank_61 (by decide) rfl ?_
      refine bw_eqi (y := nI 8) rfl ?_
      refine bw_ishl 64 dX10_rank_63 rfl ?_
      refine bw_eqi (xn_shl 8 (by omega) (by omega)) ?_
      refine bw_iload 66 dX10_rank_64 rfl rfl ?_
      refine bw_ior 67 dX10_rank_66 rfl ?_
      refine bw_eqi ((xn_or _ _).trans (by rw [or256 (by omega)])) ?_
      refine bw_ialdN 68 dX10_rank_67 rfl (hC.at 4 rfl) (by omega) (by omega) ?_
      refine bw_eqi (congrArg nI hrd) ?_
      refine bw_if_eq 84 71 dX10_rank_68 rfl rfl (fun c68 => ?_) (fun c68 => ?_)
      · have hgo := ih (k + 1) (by omega) b hb8 (hI.st (Or.inr ⟨Or.inl ((xn_eq0 (by omega)).mp c68), rfl⟩))
        refine bw_iincN (1) 87 dX10_rank_84 rfl rfl (by decide) (by decide) ?_
        refine bw_goto 43 dX10_rank_87 rfl ?_
        refine bw_loc _ ?_ hgo
        exact ⟨rfl, rfl, rfl, rfl, congrArg (fun x => some (Value.int x)) (nI_1 ( k )), trivial⟩
      · have hne : mnv hG.2.2.1 (mcf C m) c r k ≠ 0 := fun h => c68 (by rw [h]; rfl)
        refine bw_iload_n 72 dX10_rank_71 rfl rfl ?_
        refine bw_cSi 75 dX10_rank_72 rfl sX10_151 (m_bitsOf g (by omega)) rfl rfl (Nat.le_of_ble_eq_true rfl) ⟨(Nat.le_of_ble_eq_true rfl), (Nat.le_of_ble_eq_true rfl)⟩ (Nat.le_of_ble_eq_true rfl) (Nat.le_of_ble_eq_true rfl) ?_
        refine bw_iload_n 76 dX10_rank_75 rfl rfl ?_
        refine bw_icmp_le 84 79 dX10_rank_76 rfl rfl (fun c76 => ?_) (fun c76 => ?_)
        · have hgo := ih (k + 1) (by omega) b hb8 (hI.st (Or.inr ⟨Or.inr ((nI_leI (by omega) (by omega)).mp c76), rfl⟩))
          refine bw_iincN (1) 87 dX10_rank_84 rfl rfl (by decide) (by decide) ?_
          refine bw_goto 43 dX10_rank_87 rfl ?_
          refine bw_loc _ ?_ hgo
          exact ⟨rfl, rfl, rfl, rfl, congrArg (fun x => some (Value.int x)) (nI_1 ( k )), trivial⟩
        · have hgo := ih (k + 1) (by omega) (gbc 8 r) (by omega) (hI.st (Or.inl ⟨hne, Nat.not_le.mp (fun h => c76 (nI_le h (by omega))), rfl⟩))
          refine bw_iload_n 80 dX10_rank_79 rfl rfl ?_
          refine bw_cSi 83 dX10_rank_80 rfl sX10_151 (m_bitsOf g (by omega)) rfl rfl (Nat.le_of_ble_eq_true rfl) ⟨(Nat.le_of_ble_eq_true rfl), (Nat.le_of_ble_eq_true rfl)⟩ (Nat.le_of_ble_eq_true rfl) (Nat.le_of_ble_eq_true rfl) ?_
          refine bw_istore_n 84 dX10_rank_83 rfl (by decide) ?_
          refine bw_iincN (1) 87 dX10_rank_84 rfl rfl (by decide) (by decide) ?_
          refine bw_goto 43 dX10_rank_87 rfl ?_
          refine bw_loc _ ?_ hgo
          exact ⟨rfl, rfl, rfl, rfl, congrArg (fun x => some (Value.int x)) (nI_1 ( k )), trivial⟩
set_option maxHeartbeats 4000000 in
theorem m_rank_r (g : bw_G) {A0 A : bw_H} {M n p gg th rn mn pn rd rs pt sn m h c z : Nat} {rr cc C V : Nat → Nat} (hG : GFg n p gg) (hm : m < 40) (hh : h ≤ 8) (hc : c ≤ 8) (hrr : rr m = h) (hcc : cc m = c) (hV : mnI hG.2.2.1 (mcf C m) c (2 ^ h) 0 V) (hC : bw_has A ((M, mdo M n p gg th rn mn pn rd rs pt sn) :: (mmc g M rr cc C ++ [(M + 5, bw_an g 65536 V)]))) (hS : bw_sm [M, M + 5] A0 A) (hfin : ∀ b, rkI (mnv hG.2.2.1 (mcf C m) c) c (2 ^ h) 0 b → b = z) :
    ∀ (d r : Nat), r + d = 2 ^ h → ∀ b, b ≤ 8 → rkI (mnv hG.2.2.1 (mcf C m) c) c r 0 b → bw_W g (bw_rm 8 0 0) mX10_rank (bw_pm (mqP g M (mdo M n p gg th rn mn pn rd rs pt sn) (nI z) rr cc C A0)) 0 0 28 [(0, .ref M), (1, .int (nI m)), (2, .int (nI b)), (3, .int (nI r))] [] A := by
  have hh256 : 2 ^ h ≤ 2 ^ 8 := Nat.pow_le_pow_right (by omega) hh
  intro d
  induction d with
  | zero =>
    intro r hr b hb8 hI
    have hr : r = 2 ^ h := by omega
    subst hr
    refine bw_iload_n 29 dX10_rank_28 rfl rfl ?_
    refine bw_iconst (1) 30 dX10_rank_29 (by decide) rfl ?_
    refine bw_eqi (y := nI 1) rfl ?_
    refine bw_aload_n 31 dX10_rank_30 rfl rfl ?_
    refine bw_get 34 dX10_rank_31 rfl lX10_17 (hC.at 0 rfl) rfl ?_
    refine bw_iload_n 35 dX10_rank_34 rfl rfl ?_
    refine bw_ialdN 36 dX10_rank_35 rfl (hC.at 1 rfl) (by omega) (by omega) ?_
    refine bw_eqi (congrArg nI hrr) ?_
    refine bw_ishl 37 dX10_rank_36 rfl ?_
    refine bw_eqi ((xn_shl (a := 1) h (by omega) (by omega)).trans (by rw [Nat.one_mul])) ?_
    refine bw_icmp_ge 96 40 dX10_rank_37 rfl rfl (fun c37 => ?_) (fun c37 => ?_)
    · refine bw_iload_n 97 dX10_rank_96 rfl rfl ?_
      refine bw_iret dX10_rank_97 rfl (Nat.le_of_ble_eq_true rfl) (Nat.le_of_ble_eq_true rfl) ?_
      exact ⟨_, rfl, congrArg nI (hfin b hI), hS, V, hC⟩
    · exact absurd (Int32.le_refl _) c37
  | succ d ih =>
    intro r hr b hb8 hI
    refine bw_iload_n 29 dX10_rank_28 rfl rfl ?_
    refine bw_iconst (1) 30 dX10_rank_29 (by decide) rfl ?_
    refine bw_eqi (y := nI 1) rfl ?_
    refine bw_aload_n 31 dX10_rank_30 rfl rfl ?_
    refine bw_get 34 dX10_rank_31 rfl lX10_17 (hC.at 0 rfl) rfl ?_
    refine bw_iload_n 35 dX10_rank_34 rfl rfl ?_
    refine bw_ialdN 36 dX10_rank_35 rfl (hC.at 1 rfl) (by omega) (by omega) ?_
    refine bw_eqi (congrArg nI hrr) ?_
    refine bw_ishl 37 dX10_rank_36 rfl ?_
    refine bw_eqi ((xn_shl (a := 1) h (by omega) (by omega)).trans (by rw [Nat.one_mul])) ?_
    refine bw_icmp_ge 96 40 dX10_rank_37 rfl rfl (fun c37 => ?_) (fun c37 => ?_)
    · exact absurd c37 (nI_ge (by omega) (by omega))
    · skip
      refine bw_iconst (0) 41 dX10_rank_40 (by decide) rfl ?_
      refine bw_eqi (y := nI 0) rfl ?_
      refine bw_istore 43 dX10_rank_41 rfl (by decide) ?_
      refine bw_loc _ ?_ (m_rank_k g hG hm hh hc hcc (show r < 2 ^ h by omega) hV hC (fun b hb8 hI => ?_) (2 ^ c) 0 (by omega) b hb8 hI)
      · exact ⟨rfl, rfl, rfl, rfl, rfl, trivial⟩
      refine bw_iincN (1) 93 dX10_rank_90 rfl rfl (by decide) (by decide) ?_
      refine bw_goto 28 dX10_rank_93 rfl ?_
      refine bw_loc _ ?_ (ih (r + 1) (by omega) b hb8 hI.row)
      exact ⟨rfl, rfl, rfl, congrArg (fun x => some (Value.int x)) (nI_1 ( r )), trivial⟩
theorem m_rank (g : bw_G) {A : bw_H} {M n p gg th rn mn pn rd rs pt sn m z : Nat} {rr cc C V0 : Nat → Nat} (hG : GFg n p gg) (hC : bw_has A ((M, mdo M n p gg th rn mn pn rd rs pt sn) :: (mmc g M rr cc C ++ [(M + 5, bw_an g 65536 V0)]))) (hCl : ∀ i, C i < 2 ^ n) (hm : mn ≤ 40) (hk : m < mn) (hr : rr m ≤ 8) (hc : cc m ≤ 8) (hfin : ∀ b, rkI (mnv hG.2.2.1 (mcf C m) (cc m)) (cc m) (2 ^ rr m) 0 b → b = z) : bw_C g (bw_rm 8 0 0) mX10_rank [.ref M, .int (nI m)] A (bw_pm (mqP g M (mdo M n p gg 0 rn mn pn rd rs pt sn) (nI z) rr cc C A)) := by
  have hS : bw_sm [M, M + 5] A A := bw_sm.rf
  refine bw_C.of (by decide) (Nat.le_of_ble_eq_true rfl) rfl ?_
  refine bw_aload_n 1 dX10_rank_0 rfl rfl ?_
  refine bw_iconst (0) 2 dX10_rank_1 (by decide) rfl ?_
  refine bw_eqi (y := nI 0) rfl ?_
  refine bw_putU 5 dX10_rank_2 rfl pX10_1 (hC.at 0 rfl) rfl rfl (Nat.le_of_ble_eq_true rfl) (fun A hU => ?_)
  have hC := hC.upd 0 rfl hU
  have hS := hS.upd hU (by simp)
  clear hU
  refine bw_aload_n 6 dX10_rank_5 rfl rfl ?_
  refine bw_iload_n 7 dX10_rank_6 rfl rfl ?_
  refine bw_cVi 10 dX10_rank_7 rfl vX10_144 (m_isMatrix g (hC.sub [0] (by decide) rfl) (kI_nI (by omega) hk)) (hC.at 0 rfl) rfl rfl (Nat.le_of_ble_eq_true rfl) ⟨(Nat.le_of_ble_eq_true rfl), (Nat.le_of_ble_eq_true rfl)⟩ (Nat.le_of_ble_eq_true rfl) (Nat.le_of_ble_eq_true rfl) ?_
  refine bw_if_ne 19 13 dX10_rank_10 rfl rfl (fun c10 => ?_) (fun c10 => ?_)
  · refine bw_aload_n 20 dX10_rank_19 rfl rfl ?_
    refine bw_iload_n 21 dX10_rank_20 rfl rfl ?_
    refine bw_cVv 24 dX10_rank_21 rfl vX10_154 (m_minors g hG hC hCl (by omega) hr hc rfl rfl) (hC.at 0 rfl) rfl rfl (Nat.le_of_ble_eq_true rfl) ⟨(Nat.le_of_ble_eq_true rfl), (Nat.le_of_ble_eq_true rfl)⟩ (Nat.le_of_ble_eq_true rfl) (Nat.le_of_ble_eq_true rfl) (fun A hP => ?_)
    obtain ⟨V, hV, hs1, hC⟩ := hP
    have hS := hS.trans hs1 (by simp)
    refine bw_iconst (0) 25 dX10_rank_24 (by decide) rfl ?_
    refine bw_eqi (y := nI 0) rfl ?_
    refine bw_istore_n 26 dX10_rank_25 rfl (by decide) ?_
    refine bw_iconst (0) 27 dX10_rank_26 (by decide) rfl ?_
    refine bw_eqi (y := nI 0) rfl ?_
    refine bw_istore_n 28 dX10_rank_27 rfl (by decide) ?_
    refine bw_loc _ ?_ (m_rank_r g hG (by omega) hr hc rfl rfl hV hC hS hfin (2 ^ rr m) 0 (by omega) 0 (by omega) ⟨Or.inl rfl, fun r' k' hx => absurd hx (by omega)⟩)
    exact ⟨rfl, rfl, rfl, rfl, trivial⟩
  · exact absurd c10 (by decide)
theorem m_rankX (g : bw_G) {A : bw_H} {M n p gg th rn mn pn rd rs pt sn : Nat} {a : Int32} (hC : bw_has A [(M, mdo M n p gg th rn mn pn rd rs pt sn)]) (h : ¬ kI mn a) : bw_C g (bw_rm 8 0 0) mX10_rank [.ref M, .int a] A (bw_pm (maR M [] (mdo M n p gg 1 rn mn pn rd rs pt sn) (nI 0) A)) := by
  have hS : bw_sm [M] A A := bw_sm.rf
  refine bw_C.of (by decide) (Nat.le_of_ble_eq_true rfl) rfl ?_
  refine bw_aload_n 1 dX10_rank_0 rfl rfl ?_
  refine bw_iconst (0) 2 dX10_rank_1 (by decide) rfl ?_
  refine bw_eqi (y := nI 0) rfl ?_
  refine bw_putU 5 dX10_rank_2 rfl pX10_1 (hC.at 0 rfl) rfl rfl (Nat.le_of_ble_eq_true rfl) (fun A hU => ?_)
  have hC := hC.upd 0 rfl hU
  have hS := hS.upd hU (by simp)
  clear hU
  refine bw_aload_n 6 dX10_rank_5 rfl rfl ?_
  refine bw_iload_n 7 dX10_rank_6 rfl rfl ?_
  refine bw_cVi 10 dX10_rank_7 rfl vX10_144 (m_isMatrixX g hC h) (hC.at 0 rfl) rfl rfl (Nat.le_of_ble_eq_true rfl) ⟨(Nat.le_of_ble_eq_true rfl), (Nat.le_of_ble_eq_true rfl)⟩ (Nat.le_of_ble_eq_true rfl) (Nat.le_of_ble_eq_true rfl) ?_
  refine bw_if_ne 19 13 dX10_rank_10 rfl rfl (fun c10 => ?_) (fun c10 => ?_)
  · exact absurd rfl c10
  · refine bw_aload_n 14 dX10_rank_13 rfl rfl ?_
    refine bw_iconst (1) 15 dX10_rank_14 (by decide) rfl ?_
    refine bw_eqi (y := nI 1) rfl ?_
    refine bw_cVm 18 dX10_rank_15 rfl vX10_118 (m_fail g hC) (hC.at 0 rfl) rfl rfl (Nat.le_of_ble_eq_true rfl) ⟨(Nat.le_of_ble_eq_true rfl), (Nat.le_of_ble_eq_true rfl)⟩ (Nat.le_of_ble_eq_true rfl) (Nat.le_of_ble_eq_true rfl) (fun x A hP => ?_)
    obtain ⟨h4, h5⟩ := hP
    subst h4
    have hC := hC.upd 0 rfl h5
    have hS := hS.upd h5 (by simp)
    refine bw_iret dX10_rank_18 rfl (Nat.le_of_ble_eq_true rfl) (Nat.le_of_ble_eq_true rfl) ?_
    exact ⟨_, rfl, rfl, hS, hC.at 0 rfl⟩
