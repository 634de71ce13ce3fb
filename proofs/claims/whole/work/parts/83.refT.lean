/-! the reference: root -/
/-- the members below v at which f is 0, in their order -/
def rtl (n q : Nat) (f : Nat → Nat) (v : Nat) : List Nat := (List.range v).filter (fun u => decide (gvl n q f u = 0))
theorem rtl_s0 {n q : Nat} {f : Nat → Nat} {v : Nat} (h : gvl n q f v ≠ 0) : rtl n q f (v + 1) = rtl n q f v := by
  unfold rtl
  rw [List.range_succ, List.filter_append]
  simp [h]
theorem rtl_s1 {n q : Nat} {f : Nat → Nat} {v : Nat} (h : gvl n q f v = 0) : rtl n q f (v + 1) = rtl n q f v ++ [v] := by
  unfold rtl
  rw [List.range_succ, List.filter_append]
  simp [h]
theorem rtl_pre {n q : Nat} {f : Nat → Nat} {v : Nat} : ∀ d, ∃ t, rtl n q f (v + d) = rtl n q f v ++ t
  | 0 => ⟨[], (List.append_nil _).symm⟩
  | d + 1 => by
    obtain ⟨t, ht⟩ := rtl_pre (n := n) (q := q) (f := f) (v := v) d
    by_cases h : gvl n q f (v + d) = 0
    · exact ⟨t ++ [v + d], by rw [← Nat.add_assoc, rtl_s1 h, ht, List.append_assoc]⟩
    · exact ⟨t, by rw [← Nat.add_assoc, rtl_s0 h, ht]⟩
theorem rtl_few {n q N : Nat} (hG : GFp n q) (hN : N ≤ 200) {f : Nat → Nat} (hf : pok n N f) (h0 : pd f ≠ 0) : (rtl n q f (2 ^ n)).length < pd f := by
  letI := gfF hG
  letI := @plR (GFt n q) (gfR hG)
  have P := gf_pol hG
  obtain ⟨F, hF⟩ := rp.ex hG P hf
  refine Nat.not_le.mp (fun hle => ?_)
  have hlt : ∀ x ∈ rtl n q f (2 ^ n), x < 2 ^ n := fun x hx => List.mem_range.mp (List.mem_filter.mp hx).1
  have hz : F = 0 := by
    refine PR_few P (l := (rtl n q f (2 ^ n)).map gfz) (gfz_nd _ (List.nodup_range.filter _) hlt) (fun r hr => ?_) ?_
    · obtain ⟨i, hi, e⟩ := List.mem_map.1 hr
      rw [← e]
      exact (gvl_0 hG P hN hF hf (hlt i hi)).mp (of_decide_eq_true (List.mem_filter.mp hi).2)
    · rw [List.length_map]
      exact (rp_dl hG P hF).2 (fun i hi => hf.z hN i (by omega))
  exact (rp_dg hG P hF hf hN h0).ne0 P hz
theorem rtl_len {n q : Nat} {f : Nat → Nat} {v : Nat} (hv : v ≤ 2 ^ n) : (rtl n q f v).length ≤ (rtl n q f (2 ^ n)).length := by
  obtain ⟨t, ht⟩ := rtl_pre (n := n) (q := q) (f := f) (v := v) (2 ^ n - v)
  rw [show v + (2 ^ n - v) = 2 ^ n by omega] at ht
  rw [ht, List.length_append]
  omega
theorem rtl_full {n q : Nat} {f : Nat → Nat} {v : Nat} (hv : v ≤ 2 ^ n) (hl : (rtl n q f (2 ^ n)).length ≤ (rtl n q f v).length) : rtl n q f (2 ^ n) = rtl n q f v := by
  obtain ⟨t, ht⟩ := rtl_pre (n := n) (q := q) (f := f) (v := v) (2 ^ n - v)
  rw [show v + (2 ^ n - v) = 2 ^ n by omega] at ht
  rw [ht, List.length_append] at hl
  rw [ht, List.eq_nil_of_length_eq_zero (show t.length = 0 by omega), List.append_nil]
/-- the roots that are remembered -/
def mrl (l : List Nat) (Rt : Nat → Nat) : Prop := ∀ i, i < l.length → l[i]? = some (Rt i)
theorem mrl_s {l : List Nat} {Rt : Nat → Nat} {v : Nat} (h : mrl l Rt) : mrl (l ++ [v]) (fun i => if i = l.length then v else Rt i) := by
  intro i hi
  rw [List.length_append, List.length_singleton] at hi
  show _ = some (if i = l.length then v else Rt i)
  by_cases he : i = l.length
  · rw [if_pos he, he, List.getElem?_append_right (Nat.le_refl _), Nat.sub_self]
    rfl
  · rw [if_neg he, List.getElem?_append_left (by omega)]
    exact h i (by omega)
/-- what root leaves -/
def mrP (g : bw_G) (M n p gg rn mn pn pt sn a : Nat) (l : List Nat) (v : Int32) (A0 : bw_H) (y : Int32) (A' : bw_H) : Prop := ∃ Rt : Nat → Nat, maR M [M + 10, M + 14] (mdo M n p gg 0 rn mn pn (a + 1) l.length pt sn) v A0 y A' ∧ A'.2 (M + 14) = some (bw_an g 64 Rt) ∧ mrl l Rt ∧ mzz g A' (M + 10)
theorem m_root_fin (g : bw_G) {A A0 : bw_H} {M n p gg rn mn pn pt sn a k : Nat} {dd C f Rt : Nat → Nat} {l : List Nat} (hC : bw_has A ((M, mdo M n p gg 0 rn mn pn (a + 1) l.length pt sn) :: (mpc g M dd C ++ [(M + 10, bw_an g 200 f), (M + 14, bw_an g 64 Rt)]))) (hS : bw_sm [M, M + 10, M + 14] A0 A) (hz : ∀ i, 200 ≤ i → f i = 0) (hl : l.length ≤ 64) (hk : k < 2 ^ 31) (hR : mrl l Rt) : bw_W g (bw_rm 8 0 0) mX10_root (bw_pm (mrP g M n p gg rn mn pn pt sn a l (oI l[k]?) A0)) 0 0 135 [(0, .ref M), (1, .int (nI a)), (2, .int (nI k))] [] A := by
  skip
  refine bw_iload_n 136 dX10_root_135 rfl rfl ?_
  refine bw_aload_n 137 dX10_root_136 rfl rfl ?_
  refine bw_get 140 dX10_root_137 rfl lX10_199 (hC.at 0 rfl) rfl ?_
  refine bw_icmp_ge 152 143 dX10_root_140 rfl rfl (fun c140 => ?_) (fun c140 => ?_)
  · have hge := (nI_leI (by omega) hk).mp c140
    rw [List.getElem?_eq_none hge]
    refine bw_iconst (-1) 153 dX10_root_152 (by decide) rfl ?_
    refine bw_iret dX10_root_153 rfl (Nat.le_of_ble_eq_true rfl) (Nat.le_of_ble_eq_true rfl) ?_
    exact ⟨_, rfl, Rt, ⟨rfl, hS, hC.at 0 rfl⟩, hC.at 4 rfl, hR, ⟨_, hz, hC.at 3 rfl⟩⟩
  · have hlt : k < l.length := Nat.not_le.mp (fun h => c140 (nI_le h hk))
    rw [hR k hlt]
    refine bw_aload_n 144 dX10_root_143 rfl rfl ?_
    refine bw_get 147 dX10_root_144 rfl lX10_57 (hC.at 0 rfl) rfl ?_
    refine bw_iload_n 148 dX10_root_147 rfl rfl ?_
    refine bw_ialdN 149 dX10_root_148 rfl (hC.at 4 rfl) (by omega) (by omega) ?_
    refine bw_goto 153 dX10_root_149 rfl ?_
    refine bw_iret dX10_root_153 rfl (Nat.le_of_ble_eq_true rfl) (Nat.le_of_ble_eq_true rfl) ?_
    exact ⟨_, rfl, Rt, ⟨rfl, hS, hC.at 0 rfl⟩, hC.at 4 rfl, hR, ⟨_, hz, hC.at 3 rfl⟩⟩
set_option maxHeartbeats 4000000 in
theorem m_root_loop (g : bw_G) {A0 : bw_H} {M n p gg rn mn pn pt sn a k : Nat} {dd C f : Nat → Nat} (hG : GFg n p gg) (hf : pok n 65 f) (hpn : pn ≤ 40) (ha : a < pn) (hda : dd a = pd f) (h0 : pd f ≠ 0) (hk : k < 2 ^ 31) :
    ∀ (d v : Nat), v + d = 2 ^ n → ∀ (Rt : Nat → Nat) (A : bw_H), bw_has A ((M, mdo M n p gg 0 rn mn pn (a + 1) (rtl n (2 ^ n ||| p) f v).length pt sn) :: (mpc g M dd C ++ [(M + 10, bw_an g 200 f), (M + 14, bw_an g 64 Rt)])) → mrl (rtl n (2 ^ n ||| p) f v) Rt → bw_sm [M, M + 10, M + 14] A0 A →
      bw_W g (bw_rm 8 0 0) mX10_root (bw_pm (mrP g M n p gg rn mn pn pt sn a (rtl n (2 ^ n ||| p) f (2 ^ n)) (oI (rtl n (2 ^ n ||| p) f (2 ^ n))[k]?) A0)) 0 0 76 [(0, .ref M), (1, .int (nI a)), (2, .int (nI k)), (3, .int (nI v))] [] A := by
  have h16 := hG.p16
  have hpf := hf.le (by omega)
  have hfew := rtl_few hG.2.2.1 (by omega) hf h0
  have e93 : oI (tO (dd a)) = nI (pd f - 1) := by
    rw [← tO_I, hda, ← tI_s, show pd f - 1 + 1 = pd f by omega]
  have hz : ∀ i, 200 ≤ i → f i = 0 := fun i hi => hf.1 i (by omega)
  intro d
  induction d with
  | zero =>
    intro v hv Rt A hC hR hS
    have hv : 2 ^ n = v := by omega
    rw [← hv] at hC hR
    refine bw_iload_n 77 dX10_root_76 rfl rfl ?_
    refine bw_aload_n 78 dX10_root_77 rfl rfl ?_
    refine bw_get 81 dX10_root_78 rfl lX10_78 (hC.at 0 rfl) rfl ?_
    refine bw_icmp_ge 135 84 dX10_root_81 rfl rfl (fun c81 => ?_) (fun c81 => ?_)
    · refine bw_loc [(0, .ref M), (1, .int (nI a)), (2, .int (nI k))] ⟨rfl, rfl, rfl, trivial⟩ (m_root_fin g hC hS hz (by omega) hk hR)
    · exact absurd (nI_le (by omega) (by omega)) c81
  | succ d ih =>
    intro v hv Rt A hC hR hS
    have hlen := rtl_len (n := n) (q := 2 ^ n ||| p) (f := f) (v := v) (by omega)
    refine bw_iload_n 77 dX10_root_76 rfl rfl ?_
    refine bw_aload_n 78 dX10_root_77 rfl rfl ?_
    refine bw_get 81 dX10_root_78 rfl lX10_78 (hC.at 0 rfl) rfl ?_
    refine bw_icmp_ge 135 84 dX10_root_81 rfl rfl (fun c81 => ?_) (fun c81 => ?_)
    · exact absurd c81 (nI_ge (by omega) (by omega))
    · skip
      refine bw_aload_n 85 dX10_root_84 rfl rfl ?_
      refine bw_get 88 dX10_root_85 rfl lX10_199 (hC.at 0 rfl) rfl ?_
      refine bw_aload_n 89 dX10_root_88 rfl rfl ?_
      refine bw_get 92 dX10_root_89 rfl lX10_36 (hC.at 0 rfl) rfl ?_
      refine bw_iload_n 93 dX10_root_92 rfl rfl ?_
      refine bw_ialdO 94 dX10_root_93 rfl (hC.at 1 rfl) (by omega) (by omega) ?_
      refine bw_eqi (e93) ?_
      refine bw_icmp_ge 135 97 dX10_root_94 rfl rfl (fun c94 => ?_) (fun c94 => ?_)
      · have hge := (nI_leI (by omega) (by omega)).mp c94
        rw [rtl_full (v := v) (by omega) (by omega)]
        exact bw_loc [(0, .ref M), (1, .int (nI a)), (2, .int (nI k))] ⟨rfl, rfl, rfl, trivial⟩ (m_root_fin g hC hS hz (by omega) hk hR)
      · have hlt : (rtl n (2 ^ n ||| p) f v).length < pd f - 1 := Nat.not_le.mp (fun h => c94 (nI_le h (by omega)))
        refine bw_aload_n 98 dX10_root_97 rfl rfl ?_
        refine bw_aload_n 99 dX10_root_98 rfl rfl ?_
        refine bw_get 102 dX10_root_99 rfl lX10_42 (hC.at 0 rfl) rfl ?_
        refine bw_iload_n 103 dX10_root_102 rfl rfl ?_
        refine bw_cVi 106 dX10_root_103 rfl vX10_172 (m_atX g hG (hC.sub [0, 3] (by decide) rfl) hf.2 (show v < 2 ^ n by omega)) (hC.at 0 rfl) rfl rfl (Nat.le_of_ble_eq_true rfl) ⟨(Nat.le_of_ble_eq_true rfl), (Nat.le_of_ble_eq_true rfl)⟩ (Nat.le_of_ble_eq_true rfl) (Nat.le_of_ble_eq_true rfl) ?_
        refine bw_if_ne 129 109 dX10_root_106 rfl rfl (fun c106 => ?_) (fun c106 => ?_)
        · have hne : gvl n (2 ^ n ||| p) f v ≠ 0 := fun h => c106 (by rw [h]; rfl)
          refine bw_iincN (1) 132 dX10_root_129 rfl rfl (by decide) (by decide) ?_
          refine bw_goto 76 dX10_root_132 rfl ?_
          first
            | refine bw_loc _ ?_ (ih (v + 1) (by omega) Rt A (by rw [rtl_s0 hne]; exact hC) (by rw [rtl_s0 hne]; exact hR) hS)
            | refine bw_loc _ ?_ (ih (v + 1) (by omega) _ A (by rw [rtl_s1 he, List.length_append]; exact hC) (by rw [rtl_s1 he]; exact mrl_s hR) hS)
          exact ⟨rfl, rfl, rfl, congrArg (fun x => some (Value.int x)) (nI_1 ( v )), trivial⟩
        · have he : gvl n (2 ^ n ||| p) f v = 0 := (xn_eq0 (by have := gvl_lt hG.2.2.1 hf v; omega)).mp c106
          refine bw_aload_n 110 dX10_root_109 rfl rfl ?_
          refine bw_get 113 dX10_root_110 rfl lX10_57 (hC.at 0 rfl) rfl ?_
          refine bw_aload_n 114 dX10_root_113 rfl rfl ?_
          refine bw_get 117 dX10_root_114 rfl lX10_199 (hC.at 0 rfl) rfl ?_
          refine bw_iload_n 118 dX10_root_117 rfl rfl ?_
          refine bw_iastN 119 dX10_root_118 rfl (hC.at 4 rfl) (by omega) (by omega) (G := _) (rfl) (fun A hU => ?_)
          have hC := hC.upd 4 rfl hU
          have hS := hS.upd hU (by simp)
          clear hU
          refine bw_aload_n 120 dX10_root_119 rfl rfl ?_
          refine bw_dup 121 dX10_root_120 rfl rfl ?_
          refine bw_get 124 dX10_root_121 rfl lX10_199 (hC.at 0 rfl) rfl ?_
          refine bw_iconst (1) 125 dX10_root_124 (by decide) rfl ?_
          refine bw_eqi (y := nI 1) rfl ?_
          refine bw_iadd 126 dX10_root_125 rfl ?_
          refine bw_eqi (nI_add (rtl n (2 ^ n ||| p) f v).length 1) ?_
          refine bw_putU 129 dX10_root_126 rfl pX10_199 (hC.at 0 rfl) rfl rfl (Nat.le_of_ble_eq_true rfl) (fun A hU => ?_)
          have hC := hC.upd 0 rfl hU
          have hS := hS.upd hU (by simp)
          clear hU
          refine bw_iincN (1) 132 dX10_root_129 rfl rfl (by decide) (by decide) ?_
          refine bw_goto 76 dX10_root_132 rfl ?_
          first
            | refine bw_loc _ ?_ (ih (v + 1) (by omega) Rt A (by rw [rtl_s0 hne]; exact hC) (by rw [rtl_s0 hne]; exact hR) hS)
            | refine bw_loc _ ?_ (ih (v + 1) (by omega) _ A (by rw [rtl_s1 he, List.length_append]; exact hC) (by rw [rtl_s1 he]; exact mrl_s hR) hS)
          exact ⟨rfl, rfl, rfl, congrArg (fun x => some (Value.int x)) (nI_1 ( v )), trivial⟩
set_option maxHeartbeats 4000000 in
theorem m_root (g : bw_G) {A : bw_H} {M n p gg th rn mn pn rd rs pt sn a k : Nat} {dd C f1 Rt : Nat → Nat} (hG : GFg n p gg) (hC : bw_has A ((M, mdo M n p gg th rn mn pn rd rs pt sn) :: (mpc g M dd C ++ [(M + 10, bw_an g 200 f1), (M + 14, bw_an g 64 Rt)]))) (hCl : ∀ i, C i < 2 ^ n) (hz : ∀ i, 200 ≤ i → f1 i = 0) (hpn : pn ≤ 40) (ha : a < pn) (hrd : rd ≤ 40) (hda : dd a = pd (gcf C a)) (h0 : pd (gcf C a) ≠ 0) (hk : k < 2 ^ 31) (hrk : ∀ b, rd = b + 1 → rs = (rtl n (2 ^ n ||| p) (gcf C b) (2 ^ n)).length ∧ mrl (rtl n (2 ^ n ||| p) (gcf C b) (2 ^ n)) Rt) : bw_C g (bw_rm 8 0 0) mX10_root [.ref M, .int (nI a), .int (nI k)] A (bw_pm (mrP g M n p gg rn mn pn pt sn a (rtl n (2 ^ n ||| p) (gcf C a) (2 ^ n)) (oI (rtl n (2 ^ n ||| p) (gcf C a) (2 ^ n))[k]?) A)) := by
  have h16 := hG.p16
  have hfa := gcf_ok hCl a
  have hpf := hfa.le (by omega)
  have hfew := rtl_few hG.2.2.1 (by omega) hfa h0
  have hS : bw_sm [M, M + 10, M + 14] A A := bw_sm.rf
  refine bw_C.of (by decide) (Nat.le_of_ble_eq_true rfl) rfl ?_
  refine bw_aload_n 1 dX10_root_0 rfl rfl ?_
  refine bw_iconst (0) 2 dX10_root_1 (by decide) rfl ?_
  refine bw_eqi (y := nI 0) rfl ?_
  refine bw_putU 5 dX10_root_2 rfl pX10_1 (hC.at 0 rfl) rfl rfl (Nat.le_of_ble_eq_true rfl) (fun A hU => ?_)
  have hC := hC.upd 0 rfl hU
  have hS := hS.upd hU (by simp)
  clear hU
  refine bw_aload_n 6 dX10_root_5 rfl rfl ?_
  refine bw_iload_n 7 dX10_root_6 rfl rfl ?_
  refine bw_cVi 10 dX10_root_7 rfl vX10_182 (m_isPolynomial g (hC.sub [0] (by decide) rfl) (kI_nI (by omega) ha)) (hC.at 0 rfl) rfl rfl (Nat.le_of_ble_eq_true rfl) ⟨(Nat.le_of_ble_eq_true rfl), (Nat.le_of_ble_eq_true rfl)⟩ (Nat.le_of_ble_eq_true rfl) (Nat.le_of_ble_eq_true rfl) ?_
  refine bw_if_eq 17 13 dX10_root_10 rfl rfl (fun c10 => ?_) (fun c10 => ?_)
  · exact absurd c10 (by decide)
  · refine bw_iload_n 14 dX10_root_13 rfl rfl ?_
    refine bw_if_ge 23 17 dX10_root_14 rfl rfl (fun c14 => ?_) (fun c14 => ?_)
    · refine bw_aload_n 24 dX10_root_23 rfl rfl ?_
      refine bw_get 27 dX10_root_24 rfl lX10_36 (hC.at 0 rfl) rfl ?_
      refine bw_iload_n 28 dX10_root_27 rfl rfl ?_
      refine bw_ialdO 29 dX10_root_28 rfl (hC.at 1 rfl) (by omega) (by omega) ?_
      refine bw_eqi ((tO_I (dd a)).symm) ?_
      refine bw_iconst (-1) 30 dX10_root_29 (by decide) rfl ?_
      refine bw_icmp_ne 47 33 dX10_root_30 rfl rfl (fun c30 => ?_) (fun c30 => ?_)
      · refine bw_aload_n 48 dX10_root_47 rfl rfl ?_
        refine bw_get 51 dX10_root_48 rfl lX10_54 (hC.at 0 rfl) rfl ?_
        refine bw_iload_n 52 dX10_root_51 rfl rfl ?_
        refine bw_icmp_eq 135 55 dX10_root_52 rfl rfl (fun c52 => ?_) (fun c52 => ?_)
        · have he : rd = a + 1 := tI_inj (by omega) (by omega) (c52.trans (tI_s a).symm)
          subst he
          have e2 := hrk a rfl
          rw [e2.1] at hC
          exact bw_loc [(0, .ref M), (1, .int (nI a)), (2, .int (nI k))] ⟨rfl, rfl, rfl, trivial⟩ (m_root_fin g hC hS hz (by omega) hk e2.2)
        · refine bw_aload_n 56 dX10_root_55 rfl rfl ?_
          refine bw_iload_n 57 dX10_root_56 rfl rfl ?_
          refine bw_eqi ((tI_s a).symm) ?_
          refine bw_putU 60 dX10_root_57 rfl pX10_54 (hC.at 0 rfl) rfl rfl (Nat.le_of_ble_eq_true rfl) (fun A hU => ?_)
          have hC := hC.upd 0 rfl hU
          have hS := hS.upd hU (by simp)
          clear hU
          refine bw_aload_n 61 dX10_root_60 rfl rfl ?_
          refine bw_iconst (0) 62 dX10_root_61 (by decide) rfl ?_
          refine bw_eqi (y := nI 0) rfl ?_
          refine bw_putU 65 dX10_root_62 rfl pX10_199 (hC.at 0 rfl) rfl rfl (Nat.le_of_ble_eq_true rfl) (fun A hU => ?_)
          have hC := hC.upd 0 rfl hU
          have hS := hS.upd hU (by simp)
          clear hU
          refine bw_aload_n 66 dX10_root_65 rfl rfl ?_
          refine bw_aload_n 67 dX10_root_66 rfl rfl ?_
          refine bw_get 70 dX10_root_67 rfl lX10_42 (hC.at 0 rfl) rfl ?_
          refine bw_iload_n 71 dX10_root_70 rfl rfl ?_
          refine bw_cVv 74 dX10_root_71 rfl vX10_185 (m_load g (hC.sub [3, 0, 2] (by decide) rfl) hz (by omega)) (hC.at 0 rfl) rfl rfl (Nat.le_of_ble_eq_true rfl) ⟨(Nat.le_of_ble_eq_true rfl), (Nat.le_of_ble_eq_true rfl)⟩ (Nat.le_of_ble_eq_true rfl) (Nat.le_of_ble_eq_true rfl) (fun A hP => ?_)
          obtain ⟨hs1, hs2⟩ := hP
          have hU := sm_up hs1 hs2
          have hC := hC.upd 3 rfl hU
          have hS := hS.upd hU (by simp)
          clear hU
          refine bw_iconst (0) 75 dX10_root_74 (by decide) rfl ?_
          refine bw_eqi (y := nI 0) rfl ?_
          refine bw_istore_n 76 dX10_root_75 rfl (by decide) ?_
          refine bw_loc _ ?_ (m_root_loop g hG hfa hpn ha hda h0 hk (2 ^ n) 0 (by omega) Rt A hC (fun i hi => absurd hi (Nat.not_lt_zero i)) hS)
          exact ⟨rfl, rfl, rfl, rfl, trivial⟩
      · exact absurd (tI_inj (b := 0) (by omega) (by omega) (c30.trans tI_0.symm)) (by omega)
    · exact absurd (Int32.not_lt.mp (nI_pos hk)) c14
theorem m_root0 (g : bw_G) {A : bw_H} {M n p gg th rn mn pn rd rs pt sn a k : Nat} {dd : Nat → Nat} (hn : 2 ^ n ≤ 65536) (hC : bw_has A [(M, mdo M n p gg th rn mn pn rd rs pt sn), (M + 8, bw_ao g 40 (fun i => tO (dd i)))]) (hpn : pn ≤ 40) (ha : a < pn) (h0 : dd a = 0) (hk : k < 2 ^ 31) : bw_C g (bw_rm 8 0 0) mX10_root [.ref M, .int (nI a), .int (nI k)] A (bw_pm (maR M [] (mdo M n p gg 0 rn mn pn rd rs pt sn) (if k < 2 ^ n then nI k else -1) A)) := by
  have hS : bw_sm [M] A A := bw_sm.rf
  refine bw_C.of (by decide) (Nat.le_of_ble_eq_true rfl) rfl ?_
  refine bw_aload_n 1 dX10_root_0 rfl rfl ?_
  refine bw_iconst (0) 2 dX10_root_1 (by decide) rfl ?_
  refine bw_eqi (y := nI 0) rfl ?_
  refine bw_putU 5 dX10_root_2 rfl pX10_1 (hC.at 0 rfl) rfl rfl (Nat.le_of_ble_eq_true rfl) (fun A hU => ?_)
  have hC := hC.upd 0 rfl hU
  have hS := hS.upd hU (by simp)
  clear hU
  refine bw_aload_n 6 dX10_root_5 rfl rfl ?_
  refine bw_iload_n 7 dX10_root_6 rfl rfl ?_
  refine bw_cVi 10 dX10_root_7 rfl vX10_182 (m_isPolynomial g (hC.sub [0] (by decide) rfl) (kI_nI (by omega) ha)) (hC.at 0 rfl) rfl rfl (Nat.le_of_ble_eq_true rfl) ⟨(Nat.le_of_ble_eq_true rfl), (Nat.le_of_ble_eq_true rfl)⟩ (Nat.le_of_ble_eq_true rfl) (Nat.le_of_ble_eq_true rfl) ?_
  refine bw_if_eq 17 13 dX10_root_10 rfl rfl (fun c10 => ?_) (fun c10 => ?_)
  · exact absurd c10 (by decide)
  · refine bw_iload_n 14 dX10_root_13 rfl rfl ?_
    refine bw_if_ge 23 17 dX10_root_14 rfl rfl (fun c14 => ?_) (fun c14 => ?_)
    · refine bw_aload_n 24 dX10_root_23 rfl rfl ?_
      refine bw_get 27 dX10_root_24 rfl lX10_36 (hC.at 0 rfl) rfl ?_
      refine bw_iload_n 28 dX10_root_27 rfl rfl ?_
      refine bw_ialdO 29 dX10_root_28 rfl (hC.at 1 rfl) (by omega) (by omega) ?_
      refine bw_eqi ((tO_I (dd a)).symm) ?_
      refine bw_iconst (-1) 30 dX10_root_29 (by decide) rfl ?_
      refine bw_icmp_ne 47 33 dX10_root_30 rfl rfl (fun c30 => ?_) (fun c30 => ?_)
      · exact absurd (by rw [h0]; rfl) c30
      · refine bw_iload_n 34 dX10_root_33 rfl rfl ?_
        refine bw_aload_n 35 dX10_root_34 rfl rfl ?_
        refine bw_get 38 dX10_root_35 rfl lX10_78 (hC.at 0 rfl) rfl ?_
        refine bw_icmp_ge 45 41 dX10_root_38 rfl rfl (fun c38 => ?_) (fun c38 => ?_)
        · have hge := (nI_leI (by omega) hk).mp c38
          rw [if_neg (by omega)]
          refine bw_iconst (-1) 46 dX10_root_45 (by decide) rfl ?_
          refine bw_iret dX10_root_46 rfl (Nat.le_of_ble_eq_true rfl) (Nat.le_of_ble_eq_true rfl) ?_
          exact ⟨_, rfl, rfl, hS, hC.at 0 rfl⟩
        · have hlt : k < 2 ^ n := Nat.not_le.mp (fun h => c38 (nI_le h hk))
          rw [if_pos hlt]
          refine bw_iload_n 42 dX10_root_41 rfl rfl ?_
          refine bw_goto 46 dX10_root_42 rfl ?_
          refine bw_iret dX10_root_46 rfl (Nat.le_of_ble_eq_true rfl) (Nat.le_of_ble_eq_true rfl) ?_
          exact ⟨_, rfl, rfl, hS, hC.at 0 rfl⟩
    · exact absurd (Int32.not_lt.mp (nI_pos hk)) c14
theorem m_rootX (g : bw_G) {A : bw_H} {M n p gg th rn mn pn rd rs pt sn : Nat} {a k : Int32} (hC : bw_has A [(M, mdo M n p gg th rn mn pn rd rs pt sn)]) (h : ¬ (kI pn a ∧ ¬ k < 0)) : bw_C g (bw_rm 8 0 0) mX10_root [.ref M, .int a, .int k] A (bw_pm (maR M [] (mdo M n p gg 1 rn mn pn rd rs pt sn) (nI 0) A)) := by
  have hS : bw_sm [M] A A := bw_sm.rf
  refine bw_C.of (by decide) (Nat.le_of_ble_eq_true rfl) rfl ?_
  by_cases ha : kI pn a
  · skip
    refine bw_aload_n 1 dX10_root_0 rfl rfl ?_
    refine bw_iconst (0) 2 dX10_root_1 (by decide) rfl ?_
    refine bw_eqi (y := nI 0) rfl ?_
    refine bw_putU 5 dX10_root_2 rfl pX10_1 (hC.at 0 rfl) rfl rfl (Nat.le_of_ble_eq_true rfl) (fun A hU => ?_)
    have hC := hC.upd 0 rfl hU
    have hS := hS.upd hU (by simp)
    clear hU
    refine bw_aload_n 6 dX10_root_5 rfl rfl ?_
    refine bw_iload_n 7 dX10_root_6 rfl rfl ?_
    refine bw_cVi 10 dX10_root_7 rfl vX10_182 (m_isPolynomial g hC ha) (hC.at 0 rfl) rfl rfl (Nat.le_of_ble_eq_true rfl) ⟨(Nat.le_of_ble_eq_true rfl), (Nat.le_of_ble_eq_true rfl)⟩ (Nat.le_of_ble_eq_true rfl) (Nat.le_of_ble_eq_true rfl) ?_
    refine bw_if_eq 17 13 dX10_root_10 rfl rfl (fun c10 => ?_) (fun c10 => ?_)
    · exact absurd c10 (by decide)
    · refine bw_iload_n 14 dX10_root_13 rfl rfl ?_
      refine bw_if_ge 23 17 dX10_root_14 rfl rfl (fun c14 => ?_) (fun c14 => ?_)
      · exact absurd ⟨ha, fun hb => absurd c14 (Int32.not_le.mpr hb)⟩ h
      · refine bw_aload_n 18 dX10_root_17 rfl rfl ?_
        refine bw_iconst (1) 19 dX10_root_18 (by decide) rfl ?_
        refine bw_eqi (y := nI 1) rfl ?_
        refine bw_cVm 22 dX10_root_19 rfl vX10_118 (m_fail g hC) (hC.at 0 rfl) rfl rfl (Nat.le_of_ble_eq_true rfl) ⟨(Nat.le_of_ble_eq_true rfl), (Nat.le_of_ble_eq_true rfl)⟩ (Nat.le_of_ble_eq_true rfl) (Nat.le_of_ble_eq_true rfl) (fun x A hP => ?_)
        obtain ⟨h4, h5⟩ := hP
        subst h4
        have hC := hC.upd 0 rfl h5
        have hS := hS.upd h5 (by simp)
        refine bw_iret dX10_root_22 rfl (Nat.le_of_ble_eq_true rfl) (Nat.le_of_ble_eq_true rfl) ?_
        exact ⟨_, rfl, rfl, hS, hC.at 0 rfl⟩
  · skip
    refine bw_aload_n 1 dX10_root_0 rfl rfl ?_
    refine bw_iconst (0) 2 dX10_root_1 (by decide) rfl ?_
    refine bw_eqi (y := nI 0) rfl ?_
    refine bw_putU 5 dX10_root_2 rfl pX10_1 (hC.at 0 rfl) rfl rfl (Nat.le_of_ble_eq_true rfl) (fun A hU => ?_)
    have hC := hC.upd 0 rfl hU
    have hS := hS.upd hU (by simp)
    clear hU
    refine bw_aload_n 6 dX10_root_5 rfl rfl ?_
    refine bw_iload_n 7 dX10_root_6 rfl rfl ?_
    refine bw_cVi 10 dX10_root_7 rfl vX10_182 (m_isPolynomialX g hC ha) (hC.at 0 rfl) rfl rfl (Nat.le_of_ble_eq_true rfl) ⟨(Nat.le_of_ble_eq_true rfl), (Nat.le_of_ble_eq_true rfl)⟩ (Nat.le_of_ble_eq_true rfl) (Nat.le_of_ble_eq_true rfl) ?_
    refine bw_if_eq 17 13 dX10_root_10 rfl rfl (fun c10 => ?_) (fun c10 => ?_)
    · skip
      refine bw_aload_n 18 dX10_root_17 rfl rfl ?_
      refine bw_iconst (1) 19 dX10_root_18 (by decide) rfl ?_
      refine bw_eqi (y := nI 1) rfl ?_
      refine bw_cVm 22 dX10_root_19 rfl vX10_118 (m_fail g hC) (hC.at 0 rfl) rfl rfl (Nat.le_of_ble_eq_true rfl) ⟨(Nat.le_of_ble_eq_true rfl), (Nat.le_of_ble_eq_true rfl)⟩ (Nat.le_of_ble_eq_true rfl) (Nat.le_of_ble_eq_true rfl) (fun x A hP => ?_)
      obtain ⟨h4, h5⟩ := hP
      subst h4
      have hC := hC.upd 0 rfl h5
      have hS := hS.upd h5 (by simp)
      refine bw_iret dX10_root_22 rfl (Nat.le_of_ble_eq_true rfl) (Nat.le_of_ble_eq_true rfl) ?_
      exact ⟨_, rfl, rfl, hS, hC.at 0 rfl⟩
    · exact absurd rfl c10
