/-! the reference: lookAtParts, parts -/
abbrev mlL (M : Nat) : List Nat := [M + 10, M + 11, M + 12, M + 13, M + 15, M + 16, M + 17]
noncomputable abbrev mlc (g : bw_G) (M : Nat) (C o1 o2 o3 o4 c l w : Nat → Nat) : List (Nat × va_E) := [(M + 9, bw_an g 2600 C), (M + 10, bw_an g 200 o1), (M + 11, bw_an g 200 o2), (M + 12, bw_an g 200 o3), (M + 13, bw_an g 200 o4), (M + 15, bw_an g 65 c), (M + 16, bw_an g 200 l), (M + 17, bw_an g 200 w)]
/-- nothing beyond the end -/
def zz (f : Nat → Nat) : Prop := ∀ i, 200 ≤ i → f i = 0
theorem pok.zz {n N : Nat} {f : Nat → Nat} (h : pok n N f) (hN : N ≤ 200) : zz f := fun i hi => h.1 i (by omega)
set_option maxHeartbeats 8000000 in
theorem m_lap_in (g : bw_G) {A0 : bw_H} {M n p gg th rn mn pn rd rs pt sn d : Nat} {C cf : Nat → Nat} {fin : (Nat → Nat) × (Nat → Nat) × Nat} {Q : bw_O → bw_H → Prop} (hG : GFg n p gg) (hd1 : 1 ≤ d) (hd : d ≤ 64)
    (kk : ∀ (A : bw_H) (o1 o2 o3 o4 : Nat → Nat), bw_has A ((M, mdo M n p gg th rn mn pn rd rs pt sn) :: mlc g M C o1 o2 o3 o4 cf fin.1 fin.2.1) → zz o1 → zz o2 → zz o3 → zz o4 → bw_sm (mlL M) A0 A → bw_W g (bw_rm 5 0 0) mX10_lookAtParts Q 0 0 241 [(0, .ref M), (2, .int (nI d))] [] A) :
    ∀ (r : Nat) (l w c : Nat → Nat) (t : Nat), pok n 65 l → pok n 65 w → pd l ≠ 0 → pd l ≤ r + 1 → c d = t → gmi n (2 ^ n ||| p) d r l w t = fin → (fun i => if i = d then fin.2.2 else c i) = cf → ∀ (A : bw_H) (o1 o2 o3 o4 : Nat → Nat), bw_has A ((M, mdo M n p gg th rn mn pn rd rs pt sn) :: mlc g M C o1 o2 o3 o4 c l w) → zz o1 → zz o2 → zz o3 → zz o4 → bw_sm (mlL M) A0 A →
      bw_W g (bw_rm 5 0 0) mX10_lookAtParts Q 0 0 94 [(0, .ref M), (2, .int (nI d)), (3, .int (nI 1))] [] A := by
  have h16 := hG.p16
  have stop : ∀ (l w c : Nat → Nat) (t : Nat), c d = t → (l, w, t) = fin → (fun i => if i = d then fin.2.2 else c i) = cf → ∀ (A : bw_H) (o1 o2 o3 o4 : Nat → Nat), bw_has A ((M, mdo M n p gg th rn mn pn rd rs pt sn) :: mlc g M C o1 o2 o3 o4 c l w) → zz o1 → zz o2 → zz o3 → zz o4 → bw_sm (mlL M) A0 A → bw_W g (bw_rm 5 0 0) mX10_lookAtParts Q 0 0 241 [(0, .ref M), (2, .int (nI d))] [] A := by
    intro l w c t hct he hcf A o1 o2 o3 o4 hC z1 z2 z3 z4 hS
    refine kk A o1 o2 o3 o4 ?_ z1 z2 z3 z4 hS
    have hc : c = cf := by
      rw [← hcf, ← he]
      funext i
      by_cases h : i = d
      · rw [if_pos h, h]
        exact hct
      · rw [if_neg h]
    rw [← he, ← hc]
    exact hC
  intro r
  induction r with
  | zero =>
    intro l w c t hl hw h0 hr hct he hcf A o1 o2 o3 o4 hC z1 z2 z3 z4 hS
    refine bw_iload_n 95 dX10_lookAtParts_94 rfl rfl ?_
    refine bw_if_eq 241 98 dX10_lookAtParts_95 rfl rfl (fun c95 => ?_) (fun c95 => ?_)
    · exact absurd c95 (by decide)
    · refine bw_aload_n 99 dX10_lookAtParts_98 rfl rfl ?_
      refine bw_get 102 dX10_lookAtParts_99 rfl lX10_66 (hC.at 0 rfl) rfl ?_
      refine bw_cSi 105 dX10_lookAtParts_102 rfl sX10_165 (m_high g (hC.sub [7] (by decide) rfl) (fun i => by have := hl.2 i; omega)) rfl rfl (Nat.le_of_ble_eq_true rfl) ⟨(Nat.le_of_ble_eq_true rfl), (Nat.le_of_ble_eq_true rfl)⟩ (Nat.le_of_ble_eq_true rfl) (Nat.le_of_ble_eq_true rfl) ?_
      refine bw_if_le 241 108 dX10_lookAtParts_105 rfl rfl (fun c105 => ?_) (fun c105 => ?_)
      · refine bw_loc _ ?_ (stop l w c t hct he hcf A o1 o2 o3 o4 hC z1 z2 z3 z4 hS)
        exact ⟨rfl, rfl, trivial⟩
      · exact absurd ((tI_le0 (by omega)).mpr hr) c105
  | succ r ih =>
    intro l w c t hl hw h0 hr hct he hcf A o1 o2 o3 o4 hC z1 z2 z3 z4 hS
    have hlp := hl.le (by omega)
    by_cases h1 : pd l ≤ 1
    · rw [show gmi n (2 ^ n ||| p) d (r + 1) l w t = (l, w, t) from if_pos h1] at he
      refine bw_iload_n 95 dX10_lookAtParts_94 rfl rfl ?_
      refine bw_if_eq 241 98 dX10_lookAtParts_95 rfl rfl (fun c95 => ?_) (fun c95 => ?_)
      · exact absurd c95 (by decide)
      · refine bw_aload_n 99 dX10_lookAtParts_98 rfl rfl ?_
        refine bw_get 102 dX10_lookAtParts_99 rfl lX10_66 (hC.at 0 rfl) rfl ?_
        refine bw_cSi 105 dX10_lookAtParts_102 rfl sX10_165 (m_high g (hC.sub [7] (by decide) rfl) (fun i => by have := hl.2 i; omega)) rfl rfl (Nat.le_of_ble_eq_true rfl) ⟨(Nat.le_of_ble_eq_true rfl), (Nat.le_of_ble_eq_true rfl)⟩ (Nat.le_of_ble_eq_true rfl) (Nat.le_of_ble_eq_true rfl) ?_
        refine bw_if_le 241 108 dX10_lookAtParts_105 rfl rfl (fun c105 => ?_) (fun c105 => ?_)
        · refine bw_loc _ ?_ (stop l w c t hct he hcf A o1 o2 o3 o4 hC z1 z2 z3 z4 hS)
          exact ⟨rfl, rfl, trivial⟩
        · exact absurd ((tI_le0 (by omega)).mpr h1) c105
    · have hXo : pok n 65 (gps n (2 ^ n ||| p) gX w 1) := gps_ok hG.2.2.1 (pok.X hG.2.2.1.one (by omega)) hw hG.2.2.1.one
      have hDo := ggcd_ok hG.2.2.1 (N := 65) (by omega) hl hXo
      have hDp := hDo.le (by omega)
      have hgle := ggcd_leA hG (N := 65) (by omega) hl hXo h0
      by_cases h2 : pd (ggcd n (2 ^ n ||| p) l (gps n (2 ^ n ||| p) gX w 1)) ≤ 1
      · rw [show gmi n (2 ^ n ||| p) d (r + 1) l w t = (l, w, t) by show (if pd l ≤ 1 then _ else if pd (ggcd n (2 ^ n ||| p) l (gps n (2 ^ n ||| p) gX w 1)) ≤ 1 then _ else _) = _; rw [if_neg h1, if_pos h2]] at he
        have ob : ∀ (A : bw_H) (o1 o2 o3 o4 : Nat → Nat), bw_has A ((M, mdo M n p gg th rn mn pn rd rs pt sn) :: mlc g M C o1 o2 o3 o4 c l w) → zz o1 → zz o2 → zz o3 → zz o4 → bw_sm (mlL M) A0 A → bw_W g (bw_rm 5 0 0) mX10_lookAtParts Q 0 0 172 [(0, .ref M), (2, .int (nI d)), (3, .int (nI 0))] [] A := by
          intro A o1 o2 o3 o4 hC z1 z2 z3 z4 hS
          refine bw_goto 94 dX10_lookAtParts_172 rfl ?_
          refine bw_iload_n 95 dX10_lookAtParts_94 rfl rfl ?_
          refine bw_if_eq 241 98 dX10_lookAtParts_95 rfl rfl (fun c95 => ?_) (fun c95 => ?_)
          · exact bw_loc [(0, .ref M), (2, .int (nI d))] ⟨rfl, rfl, trivial⟩ (stop l w c t hct he hcf A o1 o2 o3 o4 hC z1 z2 z3 z4 hS)
          · exact absurd rfl c95
        refine bw_iload_n 95 dX10_lookAtParts_94 rfl rfl ?_
        refine bw_if_eq 241 98 dX10_lookAtParts_95 rfl rfl (fun c95 => ?_) (fun c95 => ?_)
        · exact absurd c95 (by decide)
        · refine bw_aload_n 99 dX10_lookAtParts_98 rfl rfl ?_
          refine bw_get 102 dX10_lookAtParts_99 rfl lX10_66 (hC.at 0 rfl) rfl ?_
          refine bw_cSi 105 dX10_lookAtParts_102 rfl sX10_165 (m_high g (hC.sub [7] (by decide) rfl) (fun i => by have := hl.2 i; omega)) rfl rfl (Nat.le_of_ble_eq_true rfl) ⟨(Nat.le_of_ble_eq_true rfl), (Nat.le_of_ble_eq_true rfl)⟩ (Nat.le_of_ble_eq_true rfl) (Nat.le_of_ble_eq_true rfl) ?_
          refine bw_if_le 241 108 dX10_lookAtParts_105 rfl rfl (fun c105 => ?_) (fun c105 => ?_)
          · exact absurd ((tI_le0 (by omega)).mp c105) h1
          · refine bw_aload_n 109 dX10_lookAtParts_108 rfl rfl ?_
            refine bw_get 112 dX10_lookAtParts_109 rfl lX10_42 (hC.at 0 rfl) rfl ?_
            refine bw_aload_n 113 dX10_lookAtParts_112 rfl rfl ?_
            refine bw_get 116 dX10_lookAtParts_113 rfl lX10_66 (hC.at 0 rfl) rfl ?_
            refine bw_cSv 119 dX10_lookAtParts_116 rfl sX10_193 (m_copy g (hC.sub [2, 7] (by decide) rfl) z1 (hl.zz (by omega))) rfl rfl (Nat.le_of_ble_eq_true rfl) ⟨(Nat.le_of_ble_eq_true rfl), (Nat.le_of_ble_eq_true rfl)⟩ (Nat.le_of_ble_eq_true rfl) (Nat.le_of_ble_eq_true rfl) (fun A hP => ?_)
            obtain ⟨hs1, hs2⟩ := hP
            have hU := sm_up hs1 hs2
            have hC := hC.upd 2 rfl hU
            have hS := hS.upd hU (by simp)
            clear hU
            refine bw_aload_n 120 dX10_lookAtParts_119 rfl rfl ?_
            refine bw_get 123 dX10_lookAtParts_120 rfl lX10_45 (hC.at 0 rfl) rfl ?_
            refine bw_aload_n 124 dX10_lookAtParts_123 rfl rfl ?_
            refine bw_get 127 dX10_lookAtParts_124 rfl lX10_69 (hC.at 0 rfl) rfl ?_
            refine bw_cSv 130 dX10_lookAtParts_127 rfl sX10_193 (m_copy g (hC.sub [3, 8] (by decide) rfl) z2 (hw.zz (by omega))) rfl rfl (Nat.le_of_ble_eq_true rfl) ⟨(Nat.le_of_ble_eq_true rfl), (Nat.le_of_ble_eq_true rfl)⟩ (Nat.le_of_ble_eq_true rfl) (Nat.le_of_ble_eq_true rfl) (fun A hP => ?_)
            obtain ⟨hs1, hs2⟩ := hP
            have hU := sm_up hs1 hs2
            have hC := hC.upd 3 rfl hU
            have hS := hS.upd hU (by simp)
            clear hU
            refine bw_aload_n 131 dX10_lookAtParts_130 rfl rfl ?_
            refine bw_get 134 dX10_lookAtParts_131 rfl lX10_45 (hC.at 0 rfl) rfl ?_
            refine bw_iconst (1) 135 dX10_lookAtParts_134 (by decide) rfl ?_
            refine bw_eqi (y := nI 1) rfl ?_
            refine bw_dup2 136 dX10_lookAtParts_135 rfl rfl rfl ?_
            refine bw_ialdN 137 dX10_lookAtParts_136 rfl (hC.at 3 rfl) (by omega) (by omega) ?_
            refine bw_iconst (1) 138 dX10_lookAtParts_137 (by decide) rfl ?_
            refine bw_eqi (y := nI 1) rfl ?_
            refine bw_ixor 139 dX10_lookAtParts_138 rfl ?_
            refine bw_eqi (xn_xor _ _) ?_
            refine bw_iastN 140 dX10_lookAtParts_139 rfl (hC.at 3 rfl) (by omega) (by omega) (G := gps n (2 ^ n ||| p) gX w 1) (gX_two hw.2) (fun A hU => ?_)
            have hC := hC.upd 3 rfl hU
            have hS := hS.upd hU (by simp)
            clear hU
            refine bw_aload_n 141 dX10_lookAtParts_140 rfl rfl ?_
            refine bw_aload_n 142 dX10_lookAtParts_141 rfl rfl ?_
            refine bw_get 145 dX10_lookAtParts_142 rfl lX10_42 (hC.at 0 rfl) rfl ?_
            refine bw_aload_n 146 dX10_lookAtParts_145 rfl rfl ?_
            refine bw_get 149 dX10_lookAtParts_146 rfl lX10_45 (hC.at 0 rfl) rfl ?_
            refine bw_cVv 152 dX10_lookAtParts_149 rfl vX10_196 (m_divisor g hG (hC.sub [0, 2, 3, 4, 5] (by decide) rfl) (hl.mono (by omega)) (hXo.mono (by omega)) z3 z4) (hC.at 0 rfl) rfl rfl (Nat.le_of_ble_eq_true rfl) ⟨(Nat.le_of_ble_eq_true rfl), (Nat.le_of_ble_eq_true rfl)⟩ (Nat.le_of_ble_eq_true rfl) (Nat.le_of_ble_eq_true rfl) (fun A hP => ?_)
            obtain ⟨hs1, hs2, ⟨e2, y2, k2⟩, ⟨e3, y3, k3⟩, ⟨e4, y4, k4⟩⟩ := hP
            have hC := (((hC.up 2 rfl).up 3 rfl).up 4 rfl).upd 5 rfl (sm_up4 hs1 (hC.sub [2, 3, 4, 5] (by decide) rfl).2 hs2 k2 k3 k4)
            have hS := hS.trans hs1 (by simp <;> omega)
            refine bw_aload_n 153 dX10_lookAtParts_152 rfl rfl ?_
            refine bw_get 156 dX10_lookAtParts_153 rfl lX10_42 (hC.at 0 rfl) rfl ?_
            refine bw_cSi 159 dX10_lookAtParts_156 rfl sX10_165 (m_high g (hC.sub [2] (by decide) rfl) (fun i => by have := hDo.2 i; omega)) rfl rfl (Nat.le_of_ble_eq_true rfl) ⟨(Nat.le_of_ble_eq_true rfl), (Nat.le_of_ble_eq_true rfl)⟩ (Nat.le_of_ble_eq_true rfl) (Nat.le_of_ble_eq_true rfl) ?_
            refine bw_if_le 166 162 dX10_lookAtParts_159 rfl rfl (fun c159 => ?_) (fun c159 => ?_)
            · refine bw_iconst (0) 167 dX10_lookAtParts_166 (by decide) rfl ?_
              refine bw_eqi (y := nI 0) rfl ?_
              refine bw_istore_n 168 dX10_lookAtParts_167 rfl (by decide) ?_
              refine bw_iload_n 169 dX10_lookAtParts_168 rfl rfl ?_
              refine bw_if_ne 175 172 dX10_lookAtParts_169 rfl rfl (fun c169 => ?_) (fun c169 => ?_)
              · exact absurd rfl c169
              · refine bw_loc _ ?_ (ob A _ _ _ _ hC (hDo.zz (by omega)) y2 y3 y4 hS)
                exact ⟨rfl, rfl, rfl, trivial⟩
            · exact absurd ((tI_le0 (by omega)).mpr h2) c159
      · have hQ := (gqu_ok (h := ggcd n (2 ^ n ||| p) l (gps n (2 ^ n ||| p) gX w 1)) hG.2.2.1 hl (by omega)).mono (show 65 - (pd (ggcd n (2 ^ n ||| p) l (gps n (2 ^ n ||| p) gX w 1)) - 1) ≤ 65 by omega)
        have hQd := gqu_pd hG (N := 65) (by omega) hl hDo.2 (by omega) hgle
        have hR := (grs_ok (h := ggcd n (2 ^ n ||| p) l (gps n (2 ^ n ||| p) gX w 1)) hG.2.2.1 (hl.mono (show 65 ≤ 200 by omega))).mono (show pd (ggcd n (2 ^ n ||| p) l (gps n (2 ^ n ||| p) gX w 1)) - 1 ≤ 200 by omega)
        rw [show gmi n (2 ^ n ||| p) d (r + 1) l w t = gmi n (2 ^ n ||| p) d r (gqu n (2 ^ n ||| p) l (ggcd n (2 ^ n ||| p) l (gps n (2 ^ n ||| p) gX w 1))) (if 2 ≤ pd (gqu n (2 ^ n ||| p) l (ggcd n (2 ^ n ||| p) l (gps n (2 ^ n ||| p) gX w 1))) then grs n (2 ^ n ||| p) w (gqu n (2 ^ n ||| p) l (ggcd n (2 ^ n ||| p) l (gps n (2 ^ n ||| p) gX w 1))) else w) (t + (pd (ggcd n (2 ^ n ||| p) l (gps n (2 ^ n ||| p) gX w 1)) - 1) / d) by show (if pd l ≤ 1 then _ else if pd (ggcd n (2 ^ n ||| p) l (gps n (2 ^ n ||| p) gX w 1)) ≤ 1 then _ else _) = _; rw [if_neg h1, if_neg h2]] at he
        generalize hgd : ggcd n (2 ^ n ||| p) l (gps n (2 ^ n ||| p) gX w 1) = D at *
        generalize hgq : gqu n (2 ^ n ||| p) l D = E at *
        have hw' : pok n 65 (if 2 ≤ pd E then grs n (2 ^ n ||| p) w E else w) := by
          split
          · exact (grs_ok (h := E) hG.2.2.1 hw).mono (by omega)
          · exact hw
        have hcf' : (fun i => if i = d then fin.2.2 else (fun i => if i = d then t + (pd D - 1) / d else c i) i) = cf := by
          rw [← hcf]
          funext i
          by_cases h : i = d
          · rw [if_pos h, if_pos h]
          · rw [if_neg h, if_neg h]
            exact if_neg h
        refine bw_iload_n 95 dX10_lookAtParts_94 rfl rfl ?_
        refine bw_if_eq 241 98 dX10_lookAtParts_95 rfl rfl (fun c95 => ?_) (fun c95 => ?_)
        · exact absurd c95 (by decide)
        · refine bw_aload_n 99 dX10_lookAtParts_98 rfl rfl ?_
          refine bw_get 102 dX10_lookAtParts_99 rfl lX10_66 (hC.at 0 rfl) rfl ?_
          refine bw_cSi 105 dX10_lookAtParts_102 rfl sX10_165 (m_high g (hC.sub [7] (by decide) rfl) (fun i => by have := hl.2 i; omega)) rfl rfl (Nat.le_of_ble_eq_true rfl) ⟨(Nat.le_of_ble_eq_true rfl), (Nat.le_of_ble_eq_true rfl)⟩ (Nat.le_of_ble_eq_true rfl) (Nat.le_of_ble_eq_true rfl) ?_
          refine bw_if_le 241 108 dX10_lookAtParts_105 rfl rfl (fun c105 => ?_) (fun c105 => ?_)
          · exact absurd ((tI_le0 (by omega)).mp c105) h1
          · refine bw_aload_n 109 dX10_lookAtParts_108 rfl rfl ?_
            refine bw_get 112 dX10_lookAtParts_109 rfl lX10_42 (hC.at 0 rfl) rfl ?_
            refine bw_aload_n 113 dX10_lookAtParts_112 rfl rfl ?_
            refine bw_get 116 dX10_lookAtParts_113 rfl lX10_66 (hC.at 0 rfl) rfl ?_
            refine bw_cSv 119 dX10_lookAtParts_116 rfl sX10_193 (m_copy g (hC.sub [2, 7] (by decide) rfl) z1 (hl.zz (by omega))) rfl rfl (Nat.le_of_ble_eq_true rfl) ⟨(Nat.le_of_ble_eq_true rfl), (Nat.le_of_ble_eq_true rfl)⟩ (Nat.le_of_ble_eq_true rfl) (Nat.le_of_ble_eq_true rfl) (fun A hP => ?_)
            obtain ⟨hs1, hs2⟩ := hP
            have hU := sm_up hs1 hs2
            have hC := hC.upd 2 rfl hU
            have hS := hS.upd hU (by simp)
            clear hU
            refine bw_aload_n 120 dX10_lookAtParts_119 rfl rfl ?_
            refine bw_get 123 dX10_lookAtParts_120 rfl lX10_45 (hC.at 0 rfl) rfl ?_
            refine bw_aload_n 124 dX10_lookAtParts_123 rfl rfl ?_
            refine bw_get 127 dX10_lookAtParts_124 rfl lX10_69 (hC.at 0 rfl) rfl ?_
            refine bw_cSv 130 dX10_lookAtParts_127 rfl sX10_193 (m_copy g (hC.sub [3, 8] (by decide) rfl) z2 (hw.zz (by omega))) rfl rfl (Nat.le_of_ble_eq_true rfl) ⟨(Nat.le_of_ble_eq_true rfl), (Nat.le_of_ble_eq_true rfl)⟩ (Nat.le_of_ble_eq_true rfl) (Nat.le_of_ble_eq_true rfl) (fun A hP => ?_)
            obtain ⟨hs1, hs2⟩ := hP
            have hU := sm_up hs1 hs2
            have hC := hC.upd 3 rfl hU
            have hS := hS.upd hU (by simp)
            clear hU
            refine bw_aload_n 131 dX10_lookAtParts_130 rfl rfl ?_
            refine bw_get 134 dX10_lookAtParts_131 rfl lX10_45 (hC.at 0 rfl) rfl ?_
            refine bw_iconst (1) 135 dX10_lookAtParts_134 (by decide) rfl ?_
            refine bw_eqi (y := nI 1) rfl ?_
            refine bw_dup2 136 dX10_lookAtParts_135 rfl rfl rfl ?_
            refine bw_ialdN 137 dX10_lookAtParts_136 rfl (hC.at 3 rfl) (by omega) (by omega) ?_
            refine bw_iconst (1) 138 dX10_lookAtParts_137 (by decide) rfl ?_
            refine bw_eqi (y := nI 1) rfl ?_
            refine bw_ixor 139 dX10_lookAtParts_138 rfl ?_
            refine bw_eqi (xn_xor _ _) ?_
            refine bw_iastN 140 dX10_lookAtParts_139 rfl (hC.at 3 rfl) (by omega) (by omega) (G := gps n (2 ^ n ||| p) gX w 1) (gX_two hw.2) (fun A hU => ?_)
            have hC := hC.upd 3 rfl hU
            have hS := hS.upd hU (by simp)
            clear hU
            refine bw_aload_n 141 dX10_lookAtParts_140 rfl rfl ?_
            refine bw_aload_n 142 dX10_lookAtParts_141 rfl rfl ?_
            refine bw_get 145 dX10_lookAtParts_142 rfl lX10_42 (hC.at 0 rfl) rfl ?_
            refine bw_aload_n 146 dX10_lookAtParts_145 rfl rfl ?_
            refine bw_get 149 dX10_lookAtParts_146 rfl lX10_45 (hC.at 0 rfl) rfl ?_
            refine bw_cVv 152 dX10_lookAtParts_149 rfl vX10_196 (m_divisor g hG (hC.sub [0, 2, 3, 4, 5] (by decide) rfl) (hl.mono (by omega)) (hXo.mono (by omega)) z3 z4) (hC.at 0 rfl) rfl rfl (Nat.le_of_ble_eq_true rfl) ⟨(Nat.le_of_ble_eq_true rfl), (Nat.le_of_ble_eq_true rfl)⟩ (Nat.le_of_ble_eq_true rfl) (Nat.le_of_ble_eq_true rfl) (fun A hP => ?_)
            obtain ⟨hs1, hs2, ⟨e2, y2, k2⟩, ⟨e3, y3, k3⟩, ⟨e4, y4, k4⟩⟩ := hP
            have hC := (((hC.up 2 rfl).up 3 rfl).up 4 rfl).upd 5 rfl (sm_up4 hs1 (hC.sub [2, 3, 4, 5] (by decide) rfl).2 hs2 k2 k3 k4)
            have hS := hS.trans hs1 (by simp <;> omega)
            rw [hgd] at hC
            refine bw_aload_n 153 dX10_lookAtParts_152 rfl rfl ?_
            refine bw_get 156 dX10_lookAtParts_153 rfl lX10_42 (hC.at 0 rfl) rfl ?_
            refine bw_cSi 159 dX10_lookAtParts_156 rfl sX10_165 (m_high g (hC.sub [2] (by decide) rfl) (fun i => by have := hDo.2 i; omega)) rfl rfl (Nat.le_of_ble_eq_true rfl) ⟨(Nat.le_of_ble_eq_true rfl), (Nat.le_of_ble_eq_true rfl)⟩ (Nat.le_of_ble_eq_true rfl) (Nat.le_of_ble_eq_true rfl) ?_
            refine bw_if_le 166 162 dX10_lookAtParts_159 rfl rfl (fun c159 => ?_) (fun c159 => ?_)
            · exact absurd ((tI_le0 (by omega)).mp c159) h2
            · skip
              refine bw_iconst (1) 163 dX10_lookAtParts_162 (by decide) rfl ?_
              refine bw_eqi (y := nI 1) rfl ?_
              refine bw_goto 167 dX10_lookAtParts_163 rfl ?_
              refine bw_istore_n 168 dX10_lookAtParts_167 rfl (by decide) ?_
              refine bw_iload_n 169 dX10_lookAtParts_168 rfl rfl ?_
              refine bw_if_ne 175 172 dX10_lookAtParts_169 rfl rfl (fun c169 => ?_) (fun c169 => ?_)
              · skip
                refine bw_aload_n 176 dX10_lookAtParts_175 rfl rfl ?_
                refine bw_get 179 dX10_lookAtParts_176 rfl lX10_63 (hC.at 0 rfl) rfl ?_
                refine bw_iload_n 180 dX10_lookAtParts_179 rfl rfl ?_
                refine bw_dup2 181 dX10_lookAtParts_180 rfl rfl rfl ?_
                refine bw_ialdN 182 dX10_lookAtParts_181 rfl (hC.at 6 rfl) (by omega) (by omega) ?_
                refine bw_eqi (congrArg nI hct) ?_
                refine bw_aload_n 183 dX10_lookAtParts_182 rfl rfl ?_
                refine bw_get 186 dX10_lookAtParts_183 rfl lX10_42 (hC.at 0 rfl) rfl ?_
                refine bw_cSi 189 dX10_lookAtParts_186 rfl sX10_165 (m_high g (hC.sub [2] (by decide) rfl) (fun i => by have := hDo.2 i; omega)) rfl rfl (Nat.le_of_ble_eq_true rfl) ⟨(Nat.le_of_ble_eq_true rfl), (Nat.le_of_ble_eq_true rfl)⟩ (Nat.le_of_ble_eq_true rfl) (Nat.le_of_ble_eq_true rfl) ?_
                refine bw_eqi (show tI (pd D) = nI (pd D - 1) by rw [← tI_s, show pd D - 1 + 1 = pd D by omega]) ?_
                refine bw_iload_n 190 dX10_lookAtParts_189 rfl rfl ?_
                refine bw_idiv 191 dX10_lookAtParts_190 (by exact fun h => absurd ((xn_eq0 (by omega)).mp h) (by omega)) rfl ?_
                refine bw_eqi (pk_div (a := pd D - 1) (d := d) (by omega) (by omega) (by omega)) ?_
                refine bw_iadd 192 dX10_lookAtParts_191 rfl ?_
                refine bw_eqi (nI_add t ((pd D - 1) / d)) ?_
                refine bw_iastN 193 dX10_lookAtParts_192 rfl (hC.at 6 rfl) (by omega) (by omega) (G := _) (rfl) (fun A hU => ?_)
                have hC := hC.upd 6 rfl hU
                have hS := hS.upd hU (by simp)
                clear hU
                refine bw_aload_n 194 dX10_lookAtParts_193 rfl rfl ?_
                refine bw_aload_n 195 dX10_lookAtParts_194 rfl rfl ?_
                refine bw_get 198 dX10_lookAtParts_195 rfl lX10_66 (hC.at 0 rfl) rfl ?_
                refine bw_aload_n 199 dX10_lookAtParts_198 rfl rfl ?_
                refine bw_get 202 dX10_lookAtParts_199 rfl lX10_42 (hC.at 0 rfl) rfl ?_
                refine bw_cVv 205 dX10_lookAtParts_202 rfl vX10_189 (m_split g hG (hC.sub [0, 7, 2, 4] (by decide) rfl) (hl.mono (by omega)) (hDo.mono (by omega)) y3 (by omega)) (hC.at 0 rfl) rfl rfl (Nat.le_of_ble_eq_true rfl) ⟨(Nat.le_of_ble_eq_true rfl), (Nat.le_of_ble_eq_true rfl)⟩ (Nat.le_of_ble_eq_true rfl) (Nat.le_of_ble_eq_true rfl) (fun A hP => ?_)
                obtain ⟨hs1, hs2⟩ := hP
                rw [hgq] at hs2
                have hC := (hC.up 7 rfl).upd 4 rfl (sm_up2 hs1 hs2)
                have hS := hS.trans hs1 (by simp <;> omega)
                refine bw_aload_n 206 dX10_lookAtParts_205 rfl rfl ?_
                refine bw_get 209 dX10_lookAtParts_206 rfl lX10_66 (hC.at 0 rfl) rfl ?_
                refine bw_aload_n 210 dX10_lookAtParts_209 rfl rfl ?_
                refine bw_get 213 dX10_lookAtParts_210 rfl lX10_48 (hC.at 0 rfl) rfl ?_
                refine bw_cSv 216 dX10_lookAtParts_213 rfl sX10_193 (m_copy g (hC.sub [7, 4] (by decide) rfl) hR.1 (hQ.zz (by omega))) rfl rfl (Nat.le_of_ble_eq_true rfl) ⟨(Nat.le_of_ble_eq_true rfl), (Nat.le_of_ble_eq_true rfl)⟩ (Nat.le_of_ble_eq_true rfl) (Nat.le_of_ble_eq_true rfl) (fun A hP => ?_)
                obtain ⟨hs1, hs2⟩ := hP
                have hU := sm_up hs1 hs2
                have hC := hC.upd 7 rfl hU
                have hS := hS.upd hU (by simp)
                clear hU
                refine bw_aload_n 217 dX10_lookAtParts_216 rfl rfl ?_
                refine bw_get 220 dX10_lookAtParts_217 rfl lX10_66 (hC.at 0 rfl) rfl ?_
                refine bw_cSi 223 dX10_lookAtParts_220 rfl sX10_165 (m_high g (hC.sub [7] (by decide) rfl) (fun i => by have := hQ.2 i; omega)) rfl rfl (Nat.le_of_ble_eq_true rfl) ⟨(Nat.le_of_ble_eq_true rfl), (Nat.le_of_ble_eq_true rfl)⟩ (Nat.le_of_ble_eq_true rfl) (Nat.le_of_ble_eq_true rfl) ?_
                refine bw_if_le 94 226 dX10_lookAtParts_223 rfl rfl (fun c223 => ?_) (fun c223 => ?_)
                · have hle := (tI_le0 (by have := hQ.le (by omega); omega)).mp c223
                  have hww : (if 2 ≤ pd E then grs n (2 ^ n ||| p) w E else w) = w := if_neg (by omega)
                  have zo := hQ.zz (show 65 ≤ 200 by omega)
                  refine bw_loc _ ?_ (ih E _ (fun i => if i = d then t + (pd D - 1) / d else c i) _ hQ hw' (by omega) (by omega) (if_pos rfl) he hcf' A _ _ _ _ (by rw [hww]; exact hC) (hDo.zz (by omega)) y2 zo y4 hS)
                  exact ⟨rfl, rfl, rfl, trivial⟩
                · have hgt : 2 ≤ pd E := Nat.not_lt.mp (fun h => c223 ((tI_le0 (by omega)).mpr (by omega)))
                  have hww : (if 2 ≤ pd E then grs n (2 ^ n ||| p) w E else w) = grs n (2 ^ n ||| p) w E := if_pos hgt
                  refine bw_aload_n 227 dX10_lookAtParts_226 rfl rfl ?_
                  refine bw_aload_n 228 dX10_lookAtParts_227 rfl rfl ?_
                  refine bw_get 231 dX10_lookAtParts_228 rfl lX10_69 (hC.at 0 rfl) rfl ?_
                  refine bw_aload_n 232 dX10_lookAtParts_231 rfl rfl ?_
                  refine bw_get 235 dX10_lookAtParts_232 rfl lX10_66 (hC.at 0 rfl) rfl ?_
                  refine bw_cVv 238 dX10_lookAtParts_235 rfl vX10_189 (m_split g hG (hC.sub [0, 8, 7, 4] (by decide) rfl) (hw.mono (by omega)) (hQ.mono (by omega)) (hQ.zz (by omega)) (by omega)) (hC.at 0 rfl) rfl rfl (Nat.le_of_ble_eq_true rfl) ⟨(Nat.le_of_ble_eq_true rfl), (Nat.le_of_ble_eq_true rfl)⟩ (Nat.le_of_ble_eq_true rfl) (Nat.le_of_ble_eq_true rfl) (fun A hP => ?_)
                  obtain ⟨hs1, hs2⟩ := hP
                  have zo := ((gqu_ok (h := E) hG.2.2.1 hw (by omega)).mono (show 65 - (pd E - 1) ≤ 200 by omega)).zz (by omega)
                  have hC := (hC.up 8 rfl).upd 4 rfl (sm_up2 hs1 hs2)
                  have hS := hS.trans hs1 (by simp <;> omega)
                  refine bw_goto 94 dX10_lookAtParts_238 rfl ?_
                  refine bw_loc _ ?_ (ih E _ (fun i => if i = d then t + (pd D - 1) / d else c i) _ hQ hw' (by omega) (by omega) (if_pos rfl) he hcf' A _ _ _ _ (by rw [hww]; exact hC) (hDo.zz (by omega)) y2 zo y4 hS)
                  exact ⟨rfl, rfl, rfl, trivial⟩
              · exact absurd c169 (by decide)
set_option maxHeartbeats 4000000 in
theorem m_lap_sq (g : bw_G) {A0 : bw_H} {M n p gg th rn mn pn rd rs pt sn d : Nat} {C o1 o2 o4 c l fin : Nat → Nat} {Q : bw_O → bw_H → Prop} (hG : GFg n p gg) (hl : pok n 65 l) (h0 : pd l ≠ 0)
    (kk : ∀ (A : bw_H) (o3 : Nat → Nat), bw_has A ((M, mdo M n p gg th rn mn pn rd rs pt sn) :: mlc g M C o1 o2 o3 o4 c l fin) → zz o3 → pok n 65 fin → bw_sm (mlL M) A0 A → bw_W g (bw_rm 5 0 0) mX10_lookAtParts Q 0 0 92 [(0, .ref M), (2, .int (nI d))] [] A) :
    ∀ (e k : Nat), k + e = n → ∀ (w : Nat → Nat), pok n 65 w → gsn n (2 ^ n ||| p) l e w = fin → ∀ (A : bw_H) (o3 : Nat → Nat), bw_has A ((M, mdo M n p gg th rn mn pn rd rs pt sn) :: mlc g M C o1 o2 o3 o4 c l w) → zz o3 → bw_sm (mlL M) A0 A →
      bw_W g (bw_rm 5 0 0) mX10_lookAtParts Q 0 0 70 [(0, .ref M), (2, .int (nI d)), (3, .int (nI k))] [] A := by
  have hn16 := hG.n16
  have hlp := hl.le (by omega)
  intro e
  induction e with
  | zero =>
    intro k hk w hw he A o3 hC z3 hS
    have hk : k = n := by omega
    subst hk
    have he : w = fin := he
    subst he
    refine bw_iload_n 71 dX10_lookAtParts_70 rfl rfl ?_
    refine bw_aload_n 72 dX10_lookAtParts_71 rfl rfl ?_
    refine bw_get 75 dX10_lookAtParts_72 rfl lX10_75 (hC.at 0 rfl) rfl ?_
    refine bw_icmp_ge 92 78 dX10_lookAtParts_75 rfl rfl (fun c75 => ?_) (fun c75 => ?_)
    · exact bw_loc [(0, .ref M), (2, .int (nI d))] ⟨rfl, rfl, trivial⟩ (kk A o3 hC z3 hw hS)
    · exact absurd (Int32.le_refl _) c75
  | succ e ih =>
    intro k hk w hw he A o3 hC z3 hS
    have hsq : pok n 200 (gsq n (2 ^ n ||| p) w) := gsq_ok hG.2.2.1 hw (by omega)
    refine bw_iload_n 71 dX10_lookAtParts_70 rfl rfl ?_
    refine bw_aload_n 72 dX10_lookAtParts_71 rfl rfl ?_
    refine bw_get 75 dX10_lookAtParts_72 rfl lX10_75 (hC.at 0 rfl) rfl ?_
    refine bw_icmp_ge 92 78 dX10_lookAtParts_75 rfl rfl (fun c75 => ?_) (fun c75 => ?_)
    · exact absurd c75 (nI_ge (by omega) (by omega))
    · skip
      refine bw_aload_n 79 dX10_lookAtParts_78 rfl rfl ?_
      refine bw_aload_n 80 dX10_lookAtParts_79 rfl rfl ?_
      refine bw_get 83 dX10_lookAtParts_80 rfl lX10_69 (hC.at 0 rfl) rfl ?_
      refine bw_cVv 86 dX10_lookAtParts_83 rfl vX10_202 (m_square g hG (hC.sub [0, 8, 4, 7] (by decide) rfl) hw hl h0 z3) (hC.at 0 rfl) rfl rfl (Nat.le_of_ble_eq_true rfl) ⟨(Nat.le_of_ble_eq_true rfl), (Nat.le_of_ble_eq_true rfl)⟩ (Nat.le_of_ble_eq_true rfl) (Nat.le_of_ble_eq_true rfl) (fun A hP => ?_)
      obtain ⟨hs1, hs2⟩ := hP
      have hC := (hC.up 8 rfl).upd 4 rfl (sm_up2 hs1 hs2)
      have hS := hS.trans hs1 (by simp <;> omega)
      refine bw_iincN (1) 89 dX10_lookAtParts_86 rfl rfl (by decide) (by decide) ?_
      refine bw_goto 70 dX10_lookAtParts_89 rfl ?_
      refine bw_loc _ ?_ (ih (k + 1) (by omega) _ ((grs_ok (h := l) hG.2.2.1 hsq).mono (by omega)) he A _ hC (((gqu_ok (h := l) hG.2.2.1 hsq (by omega)).mono (show 200 - (pd l - 1) ≤ 200 by omega)).zz (by omega)) hS)
      exact ⟨rfl, rfl, congrArg (fun x => some (Value.int x)) (nI_1 ( k )), trivial⟩
/-- what lookAtParts leaves -/
def mlP (g : bw_G) (M : Nat) (c : Nat → Nat) (A0 A' : bw_H) : Prop := bw_sm (mlL M) A0 A' ∧ A'.2 (M + 15) = some (bw_an g 65 c) ∧ ∀ X ∈ [M + 10, M + 11, M + 12, M + 13, M + 16, M + 17], mzz g A' X
theorem mlP.of {g : bw_G} {M : Nat} {A0 A : bw_H} {e : va_E} {C o1 o2 o3 o4 c l w : Nat → Nat} (hC : bw_has A ((M, e) :: mlc g M C o1 o2 o3 o4 c l w)) (z1 : zz o1) (z2 : zz o2) (z3 : zz o3) (z4 : zz o4) (zl : zz l) (zw : zz w) (hS : bw_sm (mlL M) A0 A) : mlP g M c A0 A := by
  refine ⟨hS, hC.at 6 rfl, ?_⟩
  intro W hW
  rcases List.mem_cons.mp hW with h | hW
  · rw [h]; exact ⟨_, z1, hC.at 2 rfl⟩
  · rcases List.mem_cons.mp hW with h | hW
    · rw [h]; exact ⟨_, z2, hC.at 3 rfl⟩
    · exact mz4 (hC.at 4 rfl) (hC.at 5 rfl) (hC.at 7 rfl) (hC.at 8 rfl) z3 z4 zl zw W hW
set_option maxHeartbeats 4000000 in
theorem m_lap_out (g : bw_G) {A0 : bw_H} {M n p gg th rn mn pn rd rs pt sn : Nat} {C : Nat → Nat} (hG : GFg n p gg) :
    ∀ (r d : Nat), d + r = 65 → 1 ≤ d → ∀ (l w c : Nat → Nat), ptJ hG.2.2.1 d l w → ∀ (A : bw_H) (o1 o2 o3 o4 : Nat → Nat), bw_has A ((M, mdo M n p gg th rn mn pn rd rs pt sn) :: mlc g M C o1 o2 o3 o4 c l w) → zz o1 → zz o2 → zz o3 → zz o4 → bw_sm (mlL M) A0 A →
      bw_W g (bw_rm 5 0 0) mX10_lookAtParts (bw_pv (mlP g M (gmo n (2 ^ n ||| p) r d l w c) A0)) 0 0 58 [(0, .ref M), (2, .int (nI d))] [] A := by
  have h16 := hG.p16
  have stop : ∀ (r d : Nat) (l w c : Nat → Nat), ptJ hG.2.2.1 d l w → pd l ≤ 1 → ∀ (A : bw_H) (o1 o2 o3 o4 : Nat → Nat), bw_has A ((M, mdo M n p gg th rn mn pn rd rs pt sn) :: mlc g M C o1 o2 o3 o4 c l w) → zz o1 → zz o2 → zz o3 → zz o4 → bw_sm (mlL M) A0 A →
      bw_W g (bw_rm 5 0 0) mX10_lookAtParts (bw_pv (mlP g M (gmo n (2 ^ n ||| p) r d l w c) A0)) 0 0 58 [(0, .ref M), (2, .int (nI d))] [] A := by
    intro r d l w c hJ h1 A o1 o2 o3 o4 hC z1 z2 z3 z4 hS
    obtain ⟨hl, hw, h0⟩ := hJ.ok
    rw [gmo_1 _ _ _ _ _ h1]
    refine bw_aload_n 59 dX10_lookAtParts_58 rfl rfl ?_
    refine bw_get 62 dX10_lookAtParts_59 rfl lX10_66 (hC.at 0 rfl) rfl ?_
    refine bw_cSi 65 dX10_lookAtParts_62 rfl sX10_165 (m_high g (hC.sub [7] (by decide) rfl) (fun i => by have := hl.2 i; omega)) rfl rfl (Nat.le_of_ble_eq_true rfl) ⟨(Nat.le_of_ble_eq_true rfl), (Nat.le_of_ble_eq_true rfl)⟩ (Nat.le_of_ble_eq_true rfl) (Nat.le_of_ble_eq_true rfl) ?_
    refine bw_if_le 247 68 dX10_lookAtParts_65 rfl rfl (fun c65 => ?_) (fun c65 => ?_)
    · refine bw_vret dX10_lookAtParts_247 rfl (Nat.le_of_ble_eq_true rfl) (Nat.le_of_ble_eq_true rfl) ?_
      exact ⟨rfl, mlP.of hC z1 z2 z3 z4 (hl.zz (by omega)) (hw.zz (by omega)) hS⟩
    · exact absurd ((tI_le0 (by omega)).mpr h1) c65
  intro r
  induction r with
  | zero =>
    intro d hd hd1 l w c hJ A o1 o2 o3 o4 hC z1 z2 z3 z4 hS
    exact stop 0 d l w c hJ (ptJ_end hG.2.2.1 hJ (by omega)) A o1 o2 o3 o4 hC z1 z2 z3 z4 hS
  | succ r ih =>
    intro d hd hd1 l w c hJ A o1 o2 o3 o4 hC z1 z2 z3 z4 hS
    by_cases h1 : pd l ≤ 1
    · exact stop (r + 1) d l w c hJ h1 A o1 o2 o3 o4 hC z1 z2 z3 z4 hS
    · obtain ⟨hl, hw, h0⟩ := hJ.ok
      have hlp := hl.le (by omega)
      rw [show gmo n (2 ^ n ||| p) (r + 1) d l w c = gmo n (2 ^ n ||| p) r (d + 1) (gmi n (2 ^ n ||| p) d 64 l (gsn n (2 ^ n ||| p) l n w) (c d)).1 (gmi n (2 ^ n ||| p) d 64 l (gsn n (2 ^ n ||| p) l n w) (c d)).2.1 (fun i => if i = d then (gmi n (2 ^ n ||| p) d 64 l (gsn n (2 ^ n ||| p) l n w) (c d)).2.2 else c i) from if_neg h1]
      have fin : ∀ (A : bw_H) (o1 o2 o3 o4 : Nat → Nat), bw_has A ((M, mdo M n p gg th rn mn pn rd rs pt sn) :: mlc g M C o1 o2 o3 o4 (fun i => if i = d then (gmi n (2 ^ n ||| p) d 64 l (gsn n (2 ^ n ||| p) l n w) (c d)).2.2 else c i) (gmi n (2 ^ n ||| p) d 64 l (gsn n (2 ^ n ||| p) l n w) (c d)).1 (gmi n (2 ^ n ||| p) d 64 l (gsn n (2 ^ n ||| p) l n w) (c d)).2.1) → zz o1 → zz o2 → zz o3 → zz o4 → bw_sm (mlL M) A0 A → bw_W g (bw_rm 5 0 0) mX10_lookAtParts (bw_pv (mlP g M (gmo n (2 ^ n ||| p) r (d + 1) (gmi n (2 ^ n ||| p) d 64 l (gsn n (2 ^ n ||| p) l n w) (c d)).1 (gmi n (2 ^ n ||| p) d 64 l (gsn n (2 ^ n ||| p) l n w) (c d)).2.1 (fun i => if i = d then (gmi n (2 ^ n ||| p) d 64 l (gsn n (2 ^ n ||| p) l n w) (c d)).2.2 else c i)) A0)) 0 0 241 [(0, .ref M), (2, .int (nI d))] [] A := by
        intro A o1 o2 o3 o4 hC z1 z2 z3 z4 hS
        refine bw_iincN (1) 244 dX10_lookAtParts_241 rfl rfl (by decide) (by decide) ?_
        refine bw_goto 58 dX10_lookAtParts_244 rfl ?_
        refine bw_loc _ ?_ (ih (d + 1) (by omega) (by omega) _ _ _ (ptJ_s hG.2.2.1 hd1 hJ (by omega) (c d)) A o1 o2 o3 o4 hC z1 z2 z3 z4 hS)
        exact ⟨rfl, congrArg (fun x => some (Value.int x)) (nI_1 ( d )), trivial⟩
      have mid : ∀ (A : bw_H) (o3 : Nat → Nat), bw_has A ((M, mdo M n p gg th rn mn pn rd rs pt sn) :: mlc g M C o1 o2 o3 o4 c l (gsn n (2 ^ n ||| p) l n w)) → zz o3 → pok n 65 (gsn n (2 ^ n ||| p) l n w) → bw_sm (mlL M) A0 A → bw_W g (bw_rm 5 0 0) mX10_lookAtParts (bw_pv (mlP g M (gmo n (2 ^ n ||| p) r (d + 1) (gmi n (2 ^ n ||| p) d 64 l (gsn n (2 ^ n ||| p) l n w) (c d)).1 (gmi n (2 ^ n ||| p) d 64 l (gsn n (2 ^ n ||| p) l n w) (c d)).2.1 (fun i => if i = d then (gmi n (2 ^ n ||| p) d 64 l (gsn n (2 ^ n ||| p) l n w) (c d)).2.2 else c i)) A0)) 0 0 92 [(0, .ref M), (2, .int (nI d))] [] A := by
        intro A o3 hC z3 hw' hS
        refine bw_iconst (1) 93 dX10_lookAtParts_92 (by decide) rfl ?_
        refine bw_eqi (y := nI 1) rfl ?_
        refine bw_istore_n 94 dX10_lookAtParts_93 rfl (by decide) ?_
        refine bw_loc _ ?_ (m_lap_in g hG hd1 (by omega) fin 64 l _ c (c d) hl hw' h0 (by omega) rfl rfl rfl A o1 o2 o3 o4 hC z1 z2 z3 z4 hS)
        exact ⟨rfl, rfl, rfl, trivial⟩
      refine bw_aload_n 59 dX10_lookAtParts_58 rfl rfl ?_
      refine bw_get 62 dX10_lookAtParts_59 rfl lX10_66 (hC.at 0 rfl) rfl ?_
      refine bw_cSi 65 dX10_lookAtParts_62 rfl sX10_165 (m_high g (hC.sub [7] (by decide) rfl) (fun i => by have := hl.2 i; omega)) rfl rfl (Nat.le_of_ble_eq_true rfl) ⟨(Nat.le_of_ble_eq_true rfl), (Nat.le_of_ble_eq_true rfl)⟩ (Nat.le_of_ble_eq_true rfl) (Nat.le_of_ble_eq_true rfl) ?_
      refine bw_if_le 247 68 dX10_lookAtParts_65 rfl rfl (fun c65 => ?_) (fun c65 => ?_)
      · exact absurd ((tI_le0 (by omega)).mp c65) h1
      · refine bw_iconst (0) 69 dX10_lookAtParts_68 (by decide) rfl ?_
        refine bw_eqi (y := nI 0) rfl ?_
        refine bw_istore_n 70 dX10_lookAtParts_69 rfl (by decide) ?_
        refine bw_loc _ ?_ (m_lap_sq g hG hl h0 mid n 0 (by omega) w hw rfl A o3 hC z3 hS)
        exact ⟨rfl, rfl, rfl, trivial⟩
/-- the first k are 0 -/
def gzp (c : Nat → Nat) (k i : Nat) : Nat := if i < k then 0 else c i
theorem gzp_s {c : Nat → Nat} {k : Nat} : (fun i => if i = k then 0 else gzp c k i) = gzp c (k + 1) := by
  funext i
  unfold gzp
  by_cases h : i = k
  · rw [if_pos h, if_pos (by omega)]
  · rw [if_neg h]
    by_cases h2 : i < k
    · rw [if_pos h2, if_pos (by omega)]
    · rw [if_neg h2, if_neg (by omega)]
set_option maxHeartbeats 4000000 in
theorem m_lap_zero (g : bw_G) {A0 : bw_H} {M n p gg th rn mn pn rd rs pt sn a : Nat} {C o1 o2 o3 o4 c l w : Nat → Nat} {Q : bw_O → bw_H → Prop}
    (kk : ∀ (A : bw_H), bw_has A ((M, mdo M n p gg th rn mn pn rd rs pt sn) :: mlc g M C o1 o2 o3 o4 (gzp c 65) l w) → bw_sm (mlL M) A0 A → bw_W g (bw_rm 5 0 0) mX10_lookAtParts Q 0 0 21 [(0, .ref M), (1, .int (nI a))] [] A) :
    ∀ (e k : Nat), k + e = 65 → ∀ (A : bw_H), bw_has A ((M, mdo M n p gg th rn mn pn rd rs pt sn) :: mlc g M C o1 o2 o3 o4 (gzp c k) l w) → bw_sm (mlL M) A0 A →
      bw_W g (bw_rm 5 0 0) mX10_lookAtParts Q 0 0 2 [(0, .ref M), (1, .int (nI a)), (2, .int (nI k))] [] A := by
  intro e
  induction e with
  | zero =>
    intro k hk A hC hS
    have hk : k = 65 := by omega
    subst hk
    refine bw_iload_n 3 dX10_lookAtParts_2 rfl rfl ?_
    refine bw_bipush (65) 5 dX10_lookAtParts_3 (by decide) rfl ?_
    refine bw_eqi (y := nI 65) rfl ?_
    refine bw_icmp_ge 21 8 dX10_lookAtParts_5 rfl rfl (fun c5 => ?_) (fun c5 => ?_)
    · exact bw_loc [(0, .ref M), (1, .int (nI a))] ⟨rfl, rfl, trivial⟩ (kk A hC hS)
    · exact absurd (Int32.le_refl _) c5
  | succ e ih =>
    intro k hk A hC hS
    refine bw_iload_n 3 dX10_lookAtParts_2 rfl rfl ?_
    refine bw_bipush (65) 5 dX10_lookAtParts_3 (by decide) rfl ?_
    refine bw_eqi (y := nI 65) rfl ?_
    refine bw_icmp_ge 21 8 dX10_lookAtParts_5 rfl rfl (fun c5 => ?_) (fun c5 => ?_)
    · exact absurd c5 (nI_ge (b := 65) (by omega) (by omega))
    · skip
      refine bw_aload_n 9 dX10_lookAtParts_8 rfl rfl ?_
      refine bw_get 12 dX10_lookAtParts_9 rfl lX10_63 (hC.at 0 rfl) rfl ?_
      refine bw_iload_n 13 dX10_lookAtParts_12 rfl rfl ?_
      refine bw_iconst (0) 14 dX10_lookAtParts_13 (by decide) rfl ?_
      refine bw_eqi (y := nI 0) rfl ?_
      refine bw_iastN 15 dX10_lookAtParts_14 rfl (hC.at 6 rfl) (by omega) (by omega) (G := gzp c (k + 1)) (gzp_s) (fun A hU => ?_)
      have hC := hC.upd 6 rfl hU
      have hS := hS.upd hU (by simp)
      clear hU
      refine bw_iincN (1) 18 dX10_lookAtParts_15 rfl rfl (by decide) (by decide) ?_
      refine bw_goto 2 dX10_lookAtParts_18 rfl ?_
      refine bw_loc _ ?_ (ih (k + 1) (by omega) A hC hS)
      exact ⟨rfl, rfl, congrArg (fun x => some (Value.int x)) (nI_1 ( k )), trivial⟩
set_option maxHeartbeats 4000000 in
theorem m_lookAtParts (g : bw_G) {A : bw_H} {M n p gg th rn mn pn rd rs pt sn a : Nat} {C o1 o2 o3 o4 c l w : Nat → Nat} (hG : GFg n p gg) (hC : bw_has A ((M, mdo M n p gg th rn mn pn rd rs pt sn) :: mlc g M C o1 o2 o3 o4 c l w)) (hCl : ∀ i, C i < 2 ^ n) (hc : ∀ i, 65 ≤ i → c i = 0) (z1 : zz o1) (z2 : zz o2) (z3 : zz o3) (z4 : zz o4) (zl : zz l) (zw : zz w) (ha : a < 40) (h0 : pd (gcf C a) ≠ 0) : bw_C g (bw_rm 5 0 0) mX10_lookAtParts [.ref M, .int (nI a)] A (bw_pv (mlP g M (gmo n (2 ^ n ||| p) 64 1 (gcf C a) (grs n (2 ^ n ||| p) gX (gcf C a)) (fun _ => 0)) A)) := by
  have hf := gcf_ok hCl a
  have hX : pok n 200 gX := pok.X hG.2.2.1.one (by omega)
  have hS : bw_sm (mlL M) A A := bw_sm.rf
  have hc0 : gzp c 65 = fun _ => 0 := funext (fun i => by
    unfold gzp
    split
    · rfl
    · exact hc i (by omega))
  have fin : ∀ (A' : bw_H), bw_has A' ((M, mdo M n p gg th rn mn pn rd rs pt sn) :: mlc g M C o1 o2 o3 o4 (gzp c 65) l w) → bw_sm (mlL M) A A' → bw_W g (bw_rm 5 0 0) mX10_lookAtParts (bw_pv (mlP g M (gmo n (2 ^ n ||| p) 64 1 (gcf C a) (grs n (2 ^ n ||| p) gX (gcf C a)) (fun _ => 0)) A)) 0 0 21 [(0, .ref M), (1, .int (nI a))] [] A' := by
    intro A' hC hS
    rw [hc0] at hC
    refine bw_aload_n 22 dX10_lookAtParts_21 rfl rfl ?_
    refine bw_aload_n 23 dX10_lookAtParts_22 rfl rfl ?_
    refine bw_get 26 dX10_lookAtParts_23 rfl lX10_66 (hC.at 0 rfl) rfl ?_
    refine bw_iload_n 27 dX10_lookAtParts_26 rfl rfl ?_
    refine bw_cVv 30 dX10_lookAtParts_27 rfl vX10_185 (m_load g (hC.sub [7, 0, 1] (by decide) rfl) zl (by omega)) (hC.at 0 rfl) rfl rfl (Nat.le_of_ble_eq_true rfl) ⟨(Nat.le_of_ble_eq_true rfl), (Nat.le_of_ble_eq_true rfl)⟩ (Nat.le_of_ble_eq_true rfl) (Nat.le_of_ble_eq_true rfl) (fun A hP => ?_)
    obtain ⟨hs1, hs2⟩ := hP
    have hU := sm_up hs1 hs2
    have hC := hC.upd 7 rfl hU
    have hS := hS.upd hU (by simp)
    clear hU
    refine bw_aload_n 31 dX10_lookAtParts_30 rfl rfl ?_
    refine bw_get 34 dX10_lookAtParts_31 rfl lX10_69 (hC.at 0 rfl) rfl ?_
    refine bw_cSv 37 dX10_lookAtParts_34 rfl sX10_161 (m_nothing g (hC.sub [8] (by decide) rfl) zw) rfl rfl (Nat.le_of_ble_eq_true rfl) ⟨(Nat.le_of_ble_eq_true rfl), (Nat.le_of_ble_eq_true rfl)⟩ (Nat.le_of_ble_eq_true rfl) (Nat.le_of_ble_eq_true rfl) (fun A hP => ?_)
    obtain ⟨hs1, hs2⟩ := hP
    have hU := sm_up hs1 hs2
    have hC := hC.upd 8 rfl hU
    have hS := hS.upd hU (by simp)
    clear hU
    refine bw_aload_n 38 dX10_lookAtParts_37 rfl rfl ?_
    refine bw_get 41 dX10_lookAtParts_38 rfl lX10_69 (hC.at 0 rfl) rfl ?_
    refine bw_iconst (1) 42 dX10_lookAtParts_41 (by decide) rfl ?_
    refine bw_eqi (y := nI 1) rfl ?_
    refine bw_iconst (1) 43 dX10_lookAtParts_42 (by decide) rfl ?_
    refine bw_eqi (y := nI 1) rfl ?_
    refine bw_iastN 44 dX10_lookAtParts_43 rfl (hC.at 8 rfl) (by omega) (by omega) (G := gX) (rfl) (fun A hU => ?_)
    have hC := hC.upd 8 rfl hU
    have hS := hS.upd hU (by simp)
    clear hU
    refine bw_aload_n 45 dX10_lookAtParts_44 rfl rfl ?_
    refine bw_aload_n 46 dX10_lookAtParts_45 rfl rfl ?_
    refine bw_get 49 dX10_lookAtParts_46 rfl lX10_69 (hC.at 0 rfl) rfl ?_
    refine bw_aload_n 50 dX10_lookAtParts_49 rfl rfl ?_
    refine bw_get 53 dX10_lookAtParts_50 rfl lX10_66 (hC.at 0 rfl) rfl ?_
    refine bw_cVv 56 dX10_lookAtParts_53 rfl vX10_189 (m_split g hG (hC.sub [0, 8, 7, 4] (by decide) rfl) hX (hf.mono (by omega)) z3 h0) (hC.at 0 rfl) rfl rfl (Nat.le_of_ble_eq_true rfl) ⟨(Nat.le_of_ble_eq_true rfl), (Nat.le_of_ble_eq_true rfl)⟩ (Nat.le_of_ble_eq_true rfl) (Nat.le_of_ble_eq_true rfl) (fun A hP => ?_)
    obtain ⟨hs1, hs2⟩ := hP
    have hC := (hC.up 8 rfl).upd 4 rfl (sm_up2 hs1 hs2)
    have hS := hS.trans hs1 (by simp <;> omega)
    refine bw_iconst (1) 57 dX10_lookAtParts_56 (by decide) rfl ?_
    refine bw_eqi (y := nI 1) rfl ?_
    refine bw_istore_n 58 dX10_lookAtParts_57 rfl (by decide) ?_
    refine bw_loc _ ?_ (m_lap_out g hG 64 1 (by omega) (by omega) _ _ _ (ptJ_0 hG.2.2.1 hf h0) A _ _ _ _ hC z1 z2 (((gqu_ok (h := gcf C a) hG.2.2.1 hX (by omega)).mono (show 200 - (pd (gcf C a) - 1) ≤ 200 by omega)).zz (by omega)) z4 hS)
    exact ⟨rfl, rfl, trivial⟩
  refine bw_C.of (by decide) (Nat.le_of_ble_eq_true rfl) rfl ?_
  refine bw_iconst (0) 1 dX10_lookAtParts_0 (by decide) rfl ?_
  refine bw_eqi (y := nI 0) rfl ?_
  refine bw_istore_n 2 dX10_lookAtParts_1 rfl (by decide) ?_
  refine bw_loc _ ?_ (m_lap_zero g fin 65 0 (by omega) A (by rw [show gzp c 0 = c from funext (fun i => if_neg (by omega))]; exact hC) hS)
  exact ⟨rfl, rfl, rfl, trivial⟩
