/-! Roots: find -/
theorem geu_ne0 {n q N : Nat} (hG : GFp n q) (hN : N ≤ 200) : ∀ (r : Nat) {f h : Nat → Nat}, pok n N f → pok n N h → pd h < r → (pd f ≠ 0 ∨ pd h ≠ 0) → pd (geu n q r f h) ≠ 0
  | 0, _, _, _, _, h, _ => by omega
  | r + 1, f, h, hf, hh, hr, h0 => by
    unfold geu
    by_cases hz : pd h = 0
    · rw [if_pos hz]
      rcases h0 with h1 | h1
      · exact h1
      · exact absurd hz h1
    · rw [if_neg hz]
      have hl := hh.le hN
      have h1 := grs_pd hG (f := f) hf (by omega) hz
      exact geu_ne0 hG hN r hh ((grs_ok hG hf).mono (by omega)) (by omega) (Or.inl hz)
theorem ggcd_ne0 {n p gg N : Nat} (hG : GFg n p gg) (hN : N ≤ 200) {f h : Nat → Nat} (hf : pok n N f) (hh : pok n N h) (h0 : pd f ≠ 0 ∨ pd h ≠ 0) : pd (ggcd n (2 ^ n ||| p) f h) ≠ 0 := by
  unfold ggcd
  rw [gmon_pd hG (geu_ok hG.2.2.1 hN _ hf hh) hN]
  exact geu_ne0 hG.2.2.1 hN 258 hf hh (by have := hh.le hN; omega) h0
/-- a root's polynomial, bit by bit -/
def gfd (n q : Nat) (rf : Nat → Nat → Nat) (S : Nat → Nat) : Nat → (Nat → Nat) → Nat → Nat → Nat → Nat
  | 0, L, _, _ => L
  | j + 1, L, px, ah => if pd L ≤ 2 then L else
      if ah < pd (ggcd n q L (gpc (rf j) (gva n q S j px))) - 1 then gfd n q rf S j (ggcd n q L (gpc (rf j) (gva n q S j px))) px ah
      else gfd n q rf S j (gqu n q L (ggcd n q L (gpc (rf j) (gva n q S j px)))) (px ||| 2 ^ j) (ah - (pd (ggcd n q L (gpc (rf j) (gva n q S j px))) - 1))
def oI : Option Nat → Int32
  | none => -1
  | some v => nI v
/-- root k, if there is one -/
def grt (n q : Nat) (f S : Nat → Nat) (k : Nat) : Option Nat :=
  if pd f - 1 ≤ k then none else
  if pd (ggcd n q f (gmr n q f S n)) - 1 ≤ k then none else
  some (gm n q (gfd n q (gmr n q f S) S n (ggcd n q f (gmr n q f S n)) 0 k 0) (ginv n q (gfd n q (gmr n q f S) S n (ggcd n q f (gmr n q f S n)) 0 k 1)))
/-- the cells that Roots works in -/
def rtW (g : bw_G) (la lo ot rb n : Nat) (A : bw_H) : Prop := ∃ (fl fw fo : Nat → Nat) (ml mw mo : Nat) (rf : Nat → Nat → Nat) (rm : Nat → Nat), pwk 129 fl ml ∧ pwk 129 fw mw ∧ pwk 129 fo mo ∧ (∀ j, j ≤ n → pwk 65 (rf j) (rm j)) ∧ bw_has A (pcl g la 129 fl ml .null ++ (pcl g lo 129 fw mw .null ++ pcl g ot 129 fo mo .null)) ∧ bw_rq g A rb n rf rm
abbrev rtL (la lo ot rb n : Nat) : List Nat := la :: (la + 1) :: lo :: (lo + 1) :: ot :: (ot + 1) :: List.range' rb (2 * n + 2)
set_option maxHeartbeats 4000000 in
set_option maxRecDepth 100000 in
theorem c8_find_loop (g : bw_G) {A0 : bw_H} {R D F sa ar la lo ot rb n p gg : Nat} {S : Nat → Nat} {rf : Nat → Nat → Nat} (hG : GFg n p gg) (hsep : ∀ a ∈ [la, la + 1, lo, lo + 1, ot, ot + 1], a < rb ∨ rb + (2 * n + 2) ≤ a) (hSb : ∀ i, S i < 2 ^ n) (hrf : ∀ j, pok n 65 (rf j)) :
    ∀ (j : Nat) (L : Nat → Nat) (px ah : Nat) (fw fo : Nat → Nat) (mw mo : Nat) (A : bw_H), pok n 129 L → px < 2 ^ n → ah < 2 ^ 31 → j ≤ n → pwk 129 fw mw → pwk 129 fo mo → bw_has A (rfx g n p gg R D F sa ar la lo ot rb S ++ (ppl g la 129 L .null ++ (pcl g lo 129 fw mw .null ++ pcl g ot 129 fo mo .null))) → bw_rq g A rb n rf (fun j => pd (rf j)) → bw_sm (rtL la lo ot rb n) A0 A →
      bw_W g (bw_rm 5 0 0) mX8_find (bw_pm (fun x A' => x = nI (gm n (2 ^ n ||| p) (gfd n (2 ^ n ||| p) rf S j L px ah 0) (ginv n (2 ^ n ||| p) (gfd n (2 ^ n ||| p) rf S j L px ah 1))) ∧ bw_sm (rtL la lo ot rb n) A0 A' ∧ rtW g la lo ot rb n A')) 0 0 86 [(0, .ref R), (3, .int (nI px)), (4, .int (nI ah)), (5, .int (tI j))] [] A := by
  have hn := hG.n16
  have h16 := hG.p16
  have hsL : ∀ b ∈ [la, la + 1], b < rb ∨ rb + (2 * n + 2) ≤ b := fun b hb => hsep b (by simp at hb ⊢; omega)
  have hsW : ∀ b ∈ [lo, lo + 1, ot, ot + 1], b < rb ∨ rb + (2 * n + 2) ≤ b := fun b hb => hsep b (by simp at hb ⊢; omega)
  intro j
  induction j with
  | zero =>
    intro L px ah fw fo mw mo A hL hpx hah hj hwl hwo hC hR hM
    have he : gfd n (2 ^ n ||| p) rf S 0 L px ah = L := rfl
    refine bw_iload 88 dX8_find_86 rfl rfl ?_
    refine bw_if_lt 175 91 dX8_find_88 rfl rfl (fun c88 => ?_) (fun c88 => ?_)
    · refine bw_aload_n 176 dX8_find_175 rfl rfl ?_
      refine bw_get 179 dX8_find_176 rfl lX8_26 (hC.at 0 rfl) rfl ?_
      refine bw_aload_n 180 dX8_find_179 rfl rfl ?_
      refine bw_get 183 dX8_find_180 rfl lX8_14 (hC.at 0 rfl) rfl ?_
      refine bw_get 186 dX8_find_183 rfl lX8_91 (hC.at 6 rfl) rfl ?_
      refine bw_iconst (0) 187 dX8_find_186 (by decide) rfl ?_
      refine bw_eqi (y := nI 0) rfl ?_
      refine bw_ialdN 188 dX8_find_187 rfl (hC.at 7 rfl) (by omega) (by omega) ?_
      refine bw_aload_n 189 dX8_find_188 rfl rfl ?_
      refine bw_get 192 dX8_find_189 rfl lX8_14 (hC.at 0 rfl) rfl ?_
      refine bw_get 195 dX8_find_192 rfl lX8_91 (hC.at 6 rfl) rfl ?_
      refine bw_iconst (1) 196 dX8_find_195 (by decide) rfl ?_
      refine bw_eqi (y := nI 1) rfl ?_
      refine bw_ialdN 197 dX8_find_196 rfl (hC.at 7 rfl) (by omega) (by omega) ?_
      refine bw_cVi 200 dX8_find_197 rfl vX8_94 (c3_ratio g hG (hC.sub [2, 3] (by decide) rfl) (hL.2 0) (hL.2 1)) (hC.at 2 rfl) rfl rfl (Nat.le_of_ble_eq_true rfl) ⟨(Nat.le_of_ble_eq_true rfl), (Nat.le_of_ble_eq_true rfl)⟩ (Nat.le_of_ble_eq_true rfl) (Nat.le_of_ble_eq_true rfl) ?_
      refine bw_iret dX8_find_200 rfl (Nat.le_of_ble_eq_true rfl) (Nat.le_of_ble_eq_true rfl) ?_
      refine ⟨_, rfl, by rw [he], hM, L, fw, fo, pd L, mw, mo, rf, fun j => pd (rf j), hL.pwk (by omega), hwl, hwo, fun j _ => (hrf j).pwk (by omega), hC.sub [6, 7, 8, 9, 10, 11] (by decide) rfl, hR⟩
    · exact absurd ((tI_lt0 (m := 0) (by omega)).mpr rfl) c88
  | succ j ih =>
    intro L px ah fw fo mw mo A hL hpx hah hj hwl hwo hC hR hM
    have hLl := hL.le (by omega)
    have h2j : 2 ^ j < 2 ^ n := Nat.pow_lt_pow_right (by omega) (by omega)
    rw [tI_s]
    refine bw_iload 88 dX8_find_86 rfl rfl ?_
    refine bw_if_lt 175 91 dX8_find_88 rfl rfl (fun c88 => ?_) (fun c88 => ?_)
    · exact absurd c88 (nI_pos (by omega))
    · skip
      refine bw_aload_n 92 dX8_find_91 rfl rfl ?_
      refine bw_get 95 dX8_find_92 rfl lX8_14 (hC.at 0 rfl) rfl ?_
      refine bw_get 98 dX8_find_95 rfl lX8_75 (hC.at 6 rfl) rfl ?_
      refine bw_iconst (1) 99 dX8_find_98 (by decide) rfl ?_
      refine bw_eqi (y := nI 1) rfl ?_
      refine bw_icmp_le 175 102 dX8_find_99 rfl rfl (fun c99 => ?_) (fun c99 => ?_)
      · have hL2 : pd L ≤ 2 := (tI_le (by omega) (by omega)).mp (by rw [tI_s 1]; exact c99)
        have he : gfd n (2 ^ n ||| p) rf S (j + 1) L px ah = L := if_pos hL2
        refine bw_aload_n 176 dX8_find_175 rfl rfl ?_
        refine bw_get 179 dX8_find_176 rfl lX8_26 (hC.at 0 rfl) rfl ?_
        refine bw_aload_n 180 dX8_find_179 rfl rfl ?_
        refine bw_get 183 dX8_find_180 rfl lX8_14 (hC.at 0 rfl) rfl ?_
        refine bw_get 186 dX8_find_183 rfl lX8_91 (hC.at 6 rfl) rfl ?_
        refine bw_iconst (0) 187 dX8_find_186 (by decide) rfl ?_
        refine bw_eqi (y := nI 0) rfl ?_
        refine bw_ialdN 188 dX8_find_187 rfl (hC.at 7 rfl) (by omega) (by omega) ?_
        refine bw_aload_n 189 dX8_find_188 rfl rfl ?_
        refine bw_get 192 dX8_find_189 rfl lX8_14 (hC.at 0 rfl) rfl ?_
        refine bw_get 195 dX8_find_192 rfl lX8_91 (hC.at 6 rfl) rfl ?_
        refine bw_iconst (1) 196 dX8_find_195 (by decide) rfl ?_
        refine bw_eqi (y := nI 1) rfl ?_
        refine bw_ialdN 197 dX8_find_196 rfl (hC.at 7 rfl) (by omega) (by omega) ?_
        refine bw_cVi 200 dX8_find_197 rfl vX8_94 (c3_ratio g hG (hC.sub [2, 3] (by decide) rfl) (hL.2 0) (hL.2 1)) (hC.at 2 rfl) rfl rfl (Nat.le_of_ble_eq_true rfl) ⟨(Nat.le_of_ble_eq_true rfl), (Nat.le_of_ble_eq_true rfl)⟩ (Nat.le_of_ble_eq_true rfl) (Nat.le_of_ble_eq_true rfl) ?_
        refine bw_iret dX8_find_200 rfl (Nat.le_of_ble_eq_true rfl) (Nat.le_of_ble_eq_true rfl) ?_
        refine ⟨_, rfl, by rw [he], hM, L, fw, fo, pd L, mw, mo, rf, fun j => pd (rf j), hL.pwk (by omega), hwl, hwo, fun j _ => (hrf j).pwk (by omega), hC.sub [6, 7, 8, 9, 10, 11] (by decide) rfl, hR⟩
      · have hL2 : ¬ pd L ≤ 2 := fun h => c99 (by have := (tI_le (a := pd L) (b := 2) (by omega) (by omega)).mpr h; rw [tI_s 1] at this; exact this)
        have hgo := gpc_ok (N := 129) (by omega) ((hrf j).mono (by omega)) (gva_lt hG.2.2.1 S hpx j)
        have hW := ggcd_ok hG.2.2.1 (by omega) hL hgo
        have hW0 := ggcd_ne0 hG (by omega) hL hgo (Or.inl (by omega))
        have hWl := hW.le (by omega)
        refine bw_aload_n 103 dX8_find_102 rfl rfl ?_
        refine bw_iload 105 dX8_find_103 rfl rfl ?_
        refine bw_iload_n 106 dX8_find_105 rfl rfl ?_
        refine bw_cVv 109 dX8_find_106 rfl vX8_84 (c8_keepLower g hG hsW hC hR hL hSb hwl hwo hrf (by omega) hpx) (hC.at 0 rfl) rfl rfl (Nat.le_of_ble_eq_true rfl) ⟨(Nat.le_of_ble_eq_true rfl), (Nat.le_of_ble_eq_true rfl)⟩ (Nat.le_of_ble_eq_true rfl) (Nat.le_of_ble_eq_true rfl) (fun A hP => ?_)
        obtain ⟨hs, fb, mb, hwb, hh⟩ := hP
        have hR := hR.frm hs hsW
        have hC := hC.call [8, 9, 10, 11] (ppl g lo 129 (ggcd n (2 ^ n ||| p) L (gpc (rf j) (gva n (2 ^ n ||| p) S j px))) .null ++ pcl g ot 129 fb mb .null) rfl rfl hs hh.1
        have hM := hM.trans hs (by simp)
        refine bw_iload 111 dX8_find_109 rfl rfl ?_
        refine bw_aload_n 112 dX8_find_111 rfl rfl ?_
        refine bw_get 115 dX8_find_112 rfl lX8_20 (hC.at 0 rfl) rfl ?_
        refine bw_get 118 dX8_find_115 rfl lX8_75 (hC.at 8 rfl) rfl ?_
        refine bw_eqi (tI_p hW0) ?_
        refine bw_icmp_ge 135 121 dX8_find_118 rfl rfl (fun c118 => ?_) (fun c118 => ?_)
        · have h3 : pd (ggcd n (2 ^ n ||| p) L (gpc (rf j) (gva n (2 ^ n ||| p) S j px))) - 1 ≤ ah := (nI_leI (by omega) (by omega)).mp c118
          have he : gfd n (2 ^ n ||| p) rf S (j + 1) L px ah = gfd n (2 ^ n ||| p) rf S j (gqu n (2 ^ n ||| p) L (ggcd n (2 ^ n ||| p) L (gpc (rf j) (gva n (2 ^ n ||| p) S j px)))) (px ||| 2 ^ j) (ah - (pd (ggcd n (2 ^ n ||| p) L (gpc (rf j) (gva n (2 ^ n ||| p) S j px))) - 1)) := (if_neg hL2).trans (if_neg (by omega))
          have hpx' : px ||| 2 ^ j < 2 ^ n := Nat.or_lt_two_pow hpx h2j
          have hQ := (gqu_ok hG.2.2.1 (h := ggcd n (2 ^ n ||| p) L (gpc (rf j) (gva n (2 ^ n ||| p) S j px))) hL (by omega)).mono (show _ ≤ 129 by omega)
          refine bw_iload 137 dX8_find_135 rfl rfl ?_
          refine bw_aload_n 138 dX8_find_137 rfl rfl ?_
          refine bw_get 141 dX8_find_138 rfl lX8_20 (hC.at 0 rfl) rfl ?_
          refine bw_get 144 dX8_find_141 rfl lX8_75 (hC.at 8 rfl) rfl ?_
          refine bw_eqi (tI_p hW0) ?_
          refine bw_isub 145 dX8_find_144 rfl ?_
          refine bw_eqi (pk_sub h3) ?_
          refine bw_istore 147 dX8_find_145 rfl (by decide) ?_
          refine bw_iload_n 148 dX8_find_147 rfl rfl ?_
          refine bw_iconst (1) 149 dX8_find_148 (by decide) rfl ?_
          refine bw_eqi (y := nI 1) rfl ?_
          refine bw_iload 151 dX8_find_149 rfl rfl ?_
          refine bw_ishl 152 dX8_find_151 rfl ?_
          refine bw_eqi ((xn_shl (a := 1) j (by omega) (by omega)).trans (congrArg nI (Nat.one_mul (2 ^ j)))) ?_
          refine bw_ior 153 dX8_find_152 rfl ?_
          refine bw_eqi (xn_or _ _) ?_
          refine bw_istore_n 154 dX8_find_153 rfl (by decide) ?_
          refine bw_aload_n 155 dX8_find_154 rfl rfl ?_
          refine bw_get 158 dX8_find_155 rfl lX8_30 (hC.at 0 rfl) rfl ?_
          refine bw_aload_n 159 dX8_find_158 rfl rfl ?_
          refine bw_get 162 dX8_find_159 rfl lX8_14 (hC.at 0 rfl) rfl ?_
          refine bw_aload_n 163 dX8_find_162 rfl rfl ?_
          refine bw_get 166 dX8_find_163 rfl lX8_20 (hC.at 0 rfl) rfl ?_
          refine bw_cVv 169 dX8_find_166 rfl vX8_88 (c0_toQuotient g hG (hC.sub [1, 2, 3, 6, 7, 8, 9] (by decide) rfl) (by omega) (by omega) hL hW hW0) (hC.at 1 rfl) rfl rfl (Nat.le_of_ble_eq_true rfl) ⟨(Nat.le_of_ble_eq_true rfl), (Nat.le_of_ble_eq_true rfl)⟩ (Nat.le_of_ble_eq_true rfl) (Nat.le_of_ble_eq_true rfl) (fun A hP => ?_)
          have hC := hC.po 6 7 rfl rfl hP
          have hM := hM.po hP (by simp) (by simp)
          have hR := hR.frm (bw_po_sm hP) hsL
          have hih := ih _ (px ||| 2 ^ j) (ah - (pd (ggcd n (2 ^ n ||| p) L (gpc (rf j) (gva n (2 ^ n ||| p) S j px))) - 1)) _ _ _ _ _ hQ hpx' (by omega) (by omega) (hW.pwk (by omega)) hwb hC hR hM
          refine bw_iincN (-1) 172 dX8_find_169 rfl rfl (by decide) (by decide) ?_
          refine bw_goto 86 dX8_find_172 rfl ?_
          rw [he]
          refine bw_loc _ ?_ hih
          exact ⟨rfl, rfl, rfl, rfl, trivial⟩
        · have h3 : ah < pd (ggcd n (2 ^ n ||| p) L (gpc (rf j) (gva n (2 ^ n ||| p) S j px))) - 1 := Nat.not_le.mp (fun h => c118 (nI_le h (by omega)))
          have he : gfd n (2 ^ n ||| p) rf S (j + 1) L px ah = gfd n (2 ^ n ||| p) rf S j (ggcd n (2 ^ n ||| p) L (gpc (rf j) (gva n (2 ^ n ||| p) S j px))) px ah := (if_neg hL2).trans (if_pos h3)
          refine bw_aload_n 122 dX8_find_121 rfl rfl ?_
          refine bw_get 125 dX8_find_122 rfl lX8_14 (hC.at 0 rfl) rfl ?_
          refine bw_aload_n 126 dX8_find_125 rfl rfl ?_
          refine bw_get 129 dX8_find_126 rfl lX8_20 (hC.at 0 rfl) rfl ?_
          refine bw_cVv 132 dX8_find_129 rfl vX8_64 (c7_copyP g hG.p16 (hC.sub [6, 7, 8, 9] (by decide) rfl) (by omega) (by omega) (hL.pwk (by omega)) hW (by omega)) (hC.at 6 rfl) rfl rfl (Nat.le_of_ble_eq_true rfl) ⟨(Nat.le_of_ble_eq_true rfl), (Nat.le_of_ble_eq_true rfl)⟩ (Nat.le_of_ble_eq_true rfl) (Nat.le_of_ble_eq_true rfl) (fun A hP => ?_)
          have hC := hC.po 6 7 rfl rfl hP
          have hM := hM.po hP (by simp) (by simp)
          have hR := hR.frm (bw_po_sm hP) hsL
          have hih := ih _ px ah _ _ _ _ _ hW hpx hah (by omega) (hW.pwk (by omega)) hwb hC hR hM
          refine bw_goto 169 dX8_find_132 rfl ?_
          refine bw_iincN (-1) 172 dX8_find_169 rfl rfl (by decide) (by decide) ?_
          refine bw_goto 86 dX8_find_172 rfl ?_
          rw [he]
          refine bw_loc _ ?_ hih
          exact ⟨rfl, rfl, rfl, rfl, trivial⟩
set_option maxHeartbeats 4000000 in
set_option maxRecDepth 100000 in
theorem c8_find (g : bw_G) {A : bw_H} {R D F sa ar la lo ot rb n p gg pa ml mw mo k : Nat} {S f fl fw fo : Nat → Nat} {w : Value} {rf0 : Nat → Nat → Nat} {rm0 : Nat → Nat} (hG : GFg n p gg) (hsep : ∀ a ∈ [R, D, F, F + 1, sa, ar, pa, pa + 1, la, la + 1, lo, lo + 1, ot, ot + 1], a < rb ∨ rb + (2 * n + 2) ≤ a) (hC : bw_has A (rfx g n p gg R D F sa ar la lo ot rb S ++ (ppl g pa 65 f w ++ (pcl g la 129 fl ml .null ++ (pcl g lo 129 fw mw .null ++ pcl g ot 129 fo mo .null))))) (hR : bw_rq g A rb n rf0 rm0) (hf : pok n 65 f) (h0 : pd f ≠ 0) (hSb : ∀ i, S i < 2 ^ n) (hwl : pwk 129 fl ml) (hww : pwk 129 fw mw) (hwo : pwk 129 fo mo) (hw0 : ∀ j, j ≤ n → pwk 65 (rf0 j) (rm0 j)) (hk : k < 2 ^ 31) :
    bw_C g (bw_rm 5 0 0) mX8_find [.ref R, .ref pa, .int (nI k)] A (bw_pm (fun x A' => x = oI (grt n (2 ^ n ||| p) f S k) ∧ bw_sm (rtL la lo ot rb n) A A' ∧ rtW g la lo ot rb n A')) := by
  have hn := hG.n16
  have hfl := hf.le (show 65 ≤ 200 by omega)
  have hmr := gmr_ok hG.2.2.1 hf (by omega) hSb
  have hLok := ggcd_ok hG.2.2.1 (show 129 ≤ 200 by omega) (hf.mono (by omega)) ((hmr n).mono (by omega))
  have hL0 := ggcd_ne0 hG (show 129 ≤ 200 by omega) (hf.mono (by omega)) ((hmr n).mono (by omega)) (Or.inl h0)
  have hLl := hLok.le (show 129 ≤ 200 by omega)
  have hsepM : ∀ a ∈ [R, D, F, F + 1, sa, ar, ot, ot + 1, pa, pa + 1], a < rb ∨ rb + (2 * n + 2) ≤ a := fun b hb => hsep b (by simp at hb ⊢; omega)
  have hsep6 : ∀ a ∈ [la, la + 1, lo, lo + 1, ot, ot + 1], a < rb ∨ rb + (2 * n + 2) ≤ a := fun b hb => hsep b (by simp at hb ⊢; omega)
  have hsL : ∀ b ∈ [la, la + 1], b < rb ∨ rb + (2 * n + 2) ≤ b := fun b hb => hsep b (by simp at hb ⊢; omega)
  have hsO : ∀ b ∈ [ot, ot + 1], b < rb ∨ rb + (2 * n + 2) ≤ b := fun b hb => hsep b (by simp at hb ⊢; omega)
  have hsLO : ∀ b ∈ [la, la + 1, ot, ot + 1], b < rb ∨ rb + (2 * n + 2) ≤ b := fun b hb => hsep b (by simp at hb ⊢; omega)
  have hsO0 := hsep ot (by simp)
  have hsO1 := hsep (ot + 1) (by simp)
  have hsR : ∀ q ∈ rfx g n p gg R D F sa ar la lo ot rb S ++ (ppl g pa 65 f w ++ (pcl g la 129 fl ml .null ++ pcl g lo 129 fw mw .null)), q.1 ∉ List.range' rb (2 * n + 2) := by
    intro q hq hb
    have h1 : q.1 ∈ [R, D, F, F + 1, sa, ar, pa, pa + 1, la, la + 1, lo, lo + 1] := List.mem_map_of_mem (f := Prod.fst) hq
    have := hsep q.1 (by simp at h1 ⊢; omega)
    simp at hb
    omega
  have hmk : ∀ {A1 A2 : bw_H}, bw_has A1 (rfx g n p gg R D F sa ar la lo ot rb S ++ (ppl g pa 65 f w ++ (pcl g la 129 fl ml .null ++ (pcl g lo 129 fw mw .null ++ pcl g ot 129 fo mo .null)))) → bw_sm (ot :: (ot + 1) :: List.range' rb (2 * n + 2)) A1 A2 → bw_has A2 (ppl g ot 129 (gmr n (2 ^ n ||| p) f S n) .null) →
      bw_has A2 (rfx g n p gg R D F sa ar la lo ot rb S ++ (ppl g pa 65 f w ++ (pcl g la 129 fl ml .null ++ (pcl g lo 129 fw mw .null ++ ppl g ot 129 (gmr n (2 ^ n ||| p) f S n) .null)))) := by
    intro A1 A2 h1 h2 h3
    rw [← List.append_assoc (pcl g la 129 fl ml .null), ← List.append_assoc (ppl g pa 65 f w), ← List.append_assoc (rfx g n p gg R D F sa ar la lo ot rb S)] at h1 ⊢
    generalize List.range' rb (2 * n + 2) = LL at h2 hsR
    exact h1.call2 (L := LL) h2 hsR (by simp only [ppl, pcl, List.map_cons, List.map_nil]) h3
  have hM : bw_sm (rtL la lo ot rb n) A A := bw_sm.rf
  refine bw_C.of (by decide) (Nat.le_of_ble_eq_true rfl) rfl ?_
  refine bw_iload_n 1 dX8_find_0 rfl rfl ?_
  refine bw_aload_n 2 dX8_find_1 rfl rfl ?_
  refine bw_get 5 dX8_find_2 rfl lX8_75 (hC.at 6 rfl) rfl ?_
  refine bw_eqi (tI_p h0) ?_
  refine bw_icmp_lt 10 8 dX8_find_5 rfl rfl (fun c5 => ?_) (fun c5 => ?_)
  · have h1 : k < pd f - 1 := (nI_ltI (by omega) (by omega)).mp c5
    refine bw_aload_n 11 dX8_find_10 rfl rfl ?_
    refine bw_aload_n 12 dX8_find_11 rfl rfl ?_
    refine bw_cVv 15 dX8_find_12 rfl vX8_78 (c8_makeRests g hG hsepM (hC.sub [0, 1, 2, 3, 4, 5, 12, 13, 6, 7] (by decide) rfl) hR hf h0 hSb hwo hw0) (hC.at 0 rfl) rfl rfl (Nat.le_of_ble_eq_true rfl) ⟨(Nat.le_of_ble_eq_true rfl), (Nat.le_of_ble_eq_true rfl)⟩ (Nat.le_of_ble_eq_true rfl) (Nat.le_of_ble_eq_true rfl) (fun A hP => ?_)
    obtain ⟨hs, ho, hR⟩ := hP
    have hC := hmk hC hs ho
    have hM := hM.trans hs (by simp; omega)
    refine bw_aload_n 16 dX8_find_15 rfl rfl ?_
    refine bw_get 19 dX8_find_16 rfl lX8_14 (hC.at 0 rfl) rfl ?_
    refine bw_aload_n 20 dX8_find_19 rfl rfl ?_
    refine bw_cVv 23 dX8_find_20 rfl vX8_64 (c7_copyP g hG.p16 (hC.sub [8, 9, 6, 7] (by decide) rfl) (by omega) (by omega) hwl hf (by omega)) (hC.at 8 rfl) rfl rfl (Nat.le_of_ble_eq_true rfl) ⟨(Nat.le_of_ble_eq_true rfl), (Nat.le_of_ble_eq_true rfl)⟩ (Nat.le_of_ble_eq_true rfl) (Nat.le_of_ble_eq_true rfl) (fun A hP => ?_)
    have hC := hC.po 8 9 rfl rfl hP
    have hM := hM.po hP (by simp) (by simp)
    have hR := hR.frm (bw_po_sm hP) hsL
    refine bw_aload_n 24 dX8_find_23 rfl rfl ?_
    refine bw_get 27 dX8_find_24 rfl lX8_23 (hC.at 0 rfl) rfl ?_
    refine bw_aload_n 28 dX8_find_27 rfl rfl ?_
    refine bw_get 31 dX8_find_28 rfl lX8_48 (hC.at 0 rfl) rfl ?_
    refine bw_aload_n 32 dX8_find_31 rfl rfl ?_
    refine bw_get 35 dX8_find_32 rfl lX8_26 (hC.at 0 rfl) rfl ?_
    refine bw_get 38 dX8_find_35 rfl lX8_34 (hC.at 2 rfl) rfl ?_
    refine bw_aaldN 39 dX8_find_38 rfl rfl rfl (hC.at 5 rfl) (by omega) (by omega) (if_pos (by omega)) ?_
    refine bw_cVv 42 dX8_find_39 rfl vX8_64 (c7_copyP g hG.p16 (bw_pp_has2 (hC.sub [12, 13] (by decide) rfl) (hR n (Nat.le_refl n)) (by omega)) (by omega) (by omega) (((hmr n).mono (by omega)).pwk (by omega)) (hmr n) (Nat.le_trans ((hmr n).le (by omega)) (by omega))) (hC.at 12 rfl) rfl rfl (Nat.le_of_ble_eq_true rfl) ⟨(Nat.le_of_ble_eq_true rfl), (Nat.le_of_ble_eq_true rfl)⟩ (Nat.le_of_ble_eq_true rfl) (Nat.le_of_ble_eq_true rfl) (fun A hP => ?_)
    have hC := hC.po 12 13 rfl rfl hP
    have hM := hM.po hP (by simp) (by simp)
    have hR := hR.frm (bw_po_sm hP) hsO
    refine bw_aload_n 43 dX8_find_42 rfl rfl ?_
    refine bw_get 46 dX8_find_43 rfl lX8_30 (hC.at 0 rfl) rfl ?_
    refine bw_aload_n 47 dX8_find_46 rfl rfl ?_
    refine bw_get 50 dX8_find_47 rfl lX8_14 (hC.at 0 rfl) rfl ?_
    refine bw_aload_n 51 dX8_find_50 rfl rfl ?_
    refine bw_get 54 dX8_find_51 rfl lX8_23 (hC.at 0 rfl) rfl ?_
    refine bw_cVv 57 dX8_find_54 rfl vX8_81 (c0_toGreatestDivisor g hG (hC.sub [1, 2, 3, 8, 9, 12, 13] (by decide) rfl) (by omega) (hf.mono (by omega)) ((hmr n).mono (by omega))) (hC.at 1 rfl) rfl rfl (Nat.le_of_ble_eq_true rfl) ⟨(Nat.le_of_ble_eq_true rfl), (Nat.le_of_ble_eq_true rfl)⟩ (Nat.le_of_ble_eq_true rfl) (Nat.le_of_ble_eq_true rfl) (fun A hP => ?_)
    obtain ⟨hs, fb, mb, hwb, hh⟩ := hP
    have hR := hR.frm hs hsLO
    have hC := hC.call [8, 9, 12, 13] (ppl g la 129 (ggcd n (2 ^ n ||| p) f (gmr n (2 ^ n ||| p) f S n)) .null ++ pcl g ot 129 fb mb .null) rfl rfl hs hh.1
    have hM := hM.trans hs (by simp)
    refine bw_iload_n 58 dX8_find_57 rfl rfl ?_
    refine bw_aload_n 59 dX8_find_58 rfl rfl ?_
    refine bw_get 62 dX8_find_59 rfl lX8_14 (hC.at 0 rfl) rfl ?_
    refine bw_get 65 dX8_find_62 rfl lX8_75 (hC.at 8 rfl) rfl ?_
    refine bw_eqi (tI_p hL0) ?_
    refine bw_icmp_lt 70 68 dX8_find_65 rfl rfl (fun c65 => ?_) (fun c65 => ?_)
    · have h2 : k < pd (ggcd n (2 ^ n ||| p) f (gmr n (2 ^ n ||| p) f S n)) - 1 := (nI_ltI (by omega) (by omega)).mp c65
      refine bw_iconst (0) 71 dX8_find_70 (by decide) rfl ?_
      refine bw_eqi (y := nI 0) rfl ?_
      refine bw_istore_n 72 dX8_find_71 rfl (by decide) ?_
      refine bw_iload_n 73 dX8_find_72 rfl rfl ?_
      refine bw_istore 75 dX8_find_73 rfl (by decide) ?_
      refine bw_aload_n 76 dX8_find_75 rfl rfl ?_
      refine bw_get 79 dX8_find_76 rfl lX8_26 (hC.at 0 rfl) rfl ?_
      refine bw_get 82 dX8_find_79 rfl lX8_34 (hC.at 2 rfl) rfl ?_
      refine bw_iconst (1) 83 dX8_find_82 (by decide) rfl ?_
      refine bw_isub 84 dX8_find_83 rfl ?_
      refine bw_eqi (tI_sub n) ?_
      refine bw_istore 86 dX8_find_84 rfl (by decide) ?_
      have hgo := c8_find_loop g hG hsep6 hSb hmr n _ 0 k _ _ _ _ _ hLok (Nat.two_pow_pos n) hk (Nat.le_refl n) hww hwb (hC.sub [0, 1, 2, 3, 4, 5, 8, 9, 10, 11, 12, 13] (by decide) rfl) hR hM
      have he : grt n (2 ^ n ||| p) f S k = some _ := (if_neg (show ¬ pd f - 1 ≤ k by omega)).trans (if_neg (show ¬ pd (ggcd n (2 ^ n ||| p) f (gmr n (2 ^ n ||| p) f S n)) - 1 ≤ k by omega))
      rw [he]
      refine bw_loc _ ?_ hgo
      exact ⟨rfl, rfl, rfl, rfl, trivial⟩
    · have h2 : pd (ggcd n (2 ^ n ||| p) f (gmr n (2 ^ n ||| p) f S n)) - 1 ≤ k := Nat.not_lt.mp (fun h => c65 (nI_lt h (by omega)))
      refine bw_iconst (-1) 69 dX8_find_68 (by decide) rfl ?_
      refine bw_iret dX8_find_69 rfl (Nat.le_of_ble_eq_true rfl) (Nat.le_of_ble_eq_true rfl) ?_
      refine ⟨_, rfl, ?_, hM, _, _, _, _, _, _, gmr n (2 ^ n ||| p) f S, _, hLok.pwk (by omega), hww, hwb, fun j _ => (hmr j).pwk (by omega), hC.sub [8, 9, 10, 11, 12, 13] (by decide) rfl, hR⟩
      unfold grt
      rw [if_neg (by omega), if_pos h2]
      rfl
  · have h1 : pd f - 1 ≤ k := Nat.not_lt.mp (fun h => c5 (nI_lt h (by omega)))
    refine bw_iconst (-1) 9 dX8_find_8 (by decide) rfl ?_
    refine bw_iret dX8_find_9 rfl (Nat.le_of_ble_eq_true rfl) (Nat.le_of_ble_eq_true rfl) ?_
    refine ⟨_, rfl, ?_, hM, fl, fw, fo, ml, mw, mo, rf0, rm0, hwl, hww, hwo, hw0, hC.sub [8, 9, 10, 11, 12, 13] (by decide) rfl, hR⟩
    unfold grt
    rw [if_pos h1]
    rfl
