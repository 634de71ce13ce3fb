/-! the reference: solve, its columns and its end; init -/
/-- exchanged and scaled: the class's rows -/
theorem gxs_fe {n q : Nat} {W : Nat → Nat → Nat} {i rk j c : Nat} (a b : Nat) (hb : b ≤ c) : gxs n q W i rk (ginv n q (W i j)) (c + 1) a b = gfe n q (gxc W i rk (c + 1)) (gsc n q (gxc W i rk (c + 1) rk) (ginv n q (W i j)) (c + 1)) rk j (c + 1) 0 a b := by
  have hl : b < c + 1 := by omega
  unfold gfe gxs gsc gxc
  rw [if_pos hl]
  by_cases ha : a = rk
  · rw [if_pos ha, if_pos ha]
    show _ = if b < c + 1 then _ else _
    rw [if_pos hl, if_pos hl]
    by_cases hi : rk = i
    · rw [if_pos hi, hi]
    · rw [if_neg hi, if_pos rfl]
  · rw [if_neg ha, if_neg ha, if_neg (Nat.not_lt_zero a)]
    show _ = if b < c + 1 then _ else _
    rw [if_pos hl]
    by_cases hi : a = i
    · rw [if_pos hi, if_pos hi]
    · rw [if_neg hi, if_neg hi, if_neg ha]
theorem gxc_pv {W : Nat → Nat → Nat} {i rk j c : Nat} (hj : j < c) : gxc W i rk c rk j = W i j := by
  unfold gxc
  rw [if_pos hj]
  by_cases hi : rk = i
  · rw [if_pos hi, hi]
  · rw [if_neg hi, if_pos rfl]
set_option maxHeartbeats 4000000 in
theorem m_solve_col (g : bw_G) {A0 : bw_H} {M n p gg rn mn pn rd rs pt sn r c rkf ppf : Nat} {row rr cc C : Nat → Nat} {Wf : Nat → Nat → Nat} {pvf : Nat → Option Nat} {Q : bw_O → bw_H → Prop} (hG : GFg n p gg) (hr : r ≤ 8) (hc : c ≤ 8)
    (kk : ∀ (A : bw_H) (T : Nat → Nat) (L : Nat → Option Nat), wkr T Wf r c → (∀ i, i < c → L i = pvf i) → bw_has A ((M, mdo M n p gg 0 rn mn pn rd rs pt sn) :: slc g M row rr cc C T L) → bw_sm (slL M) A0 A → bw_W g (bw_rm 8 0 0) mX10_solve Q 0 0 389 [(0, .ref M), (2, .int (nI r)), (3, .int (nI c)), (4, .int (nI rkf))] [] A) :
    ∀ (d j : Nat), j + d = c → ∀ (W : Nat → Nat → Nat) (rk pp : Nat) (pv : Nat → Option Nat) (A : bw_H) (T : Nat → Nat) (L : Nat → Option Nat), (∀ a b, W a b < 2 ^ n) → rk ≤ r → gre n (2 ^ n ||| p) r (c + 1) d j W rk pp pv = (Wf, rkf, ppf, pvf) → wkr T W r c → (∀ i, i < j → L i = pv i) → bw_has A ((M, mdo M n p gg 0 rn mn pn rd rs pt sn) :: slc g M row rr cc C T L) → bw_sm (slL M) A0 A →
      bw_W g (bw_rm 8 0 0) mX10_solve Q 0 0 131 [(0, .ref M), (2, .int (nI r)), (3, .int (nI c)), (4, .int (nI rk)), (5, .int (nI j))] [] A := by
  intro d
  induction d with
  | zero =>
    intro j hj W rk pp pv A T L hW hrk hg hT hL hC hS
    have hj : c = j := by omega
    subst hj
    have hg : (W, rk, pp, pv) = (Wf, rkf, ppf, pvf) := hg
    cases hg
    refine bw_iload 133 dX10_solve_131 rfl rfl ?_
    refine bw_iload_n 134 dX10_solve_133 rfl rfl ?_
    refine bw_icmp_ge 389 137 dX10_solve_134 rfl rfl (fun c134 => ?_) (fun c134 => ?_)
    · exact bw_loc [(0, .ref M), (2, .int (nI r)), (3, .int (nI c)), (4, .int (nI rkf))] ⟨rfl, rfl, rfl, rfl, trivial⟩ (kk A T L hT hL hC hS)
    · exact absurd (Int32.le_refl _) c134
  | succ d ih =>
    intro j hj W rk pp pv A T L hW hrk hg hT hL hC hS
    refine bw_iload 133 dX10_solve_131 rfl rfl ?_
    refine bw_iload_n 134 dX10_solve_133 rfl rfl ?_
    refine bw_icmp_ge 389 137 dX10_solve_134 rfl rfl (fun c134 => ?_) (fun c134 => ?_)
    · exact absurd c134 (nI_ge (by omega) (by omega))
    · skip
      refine bw_iload 139 dX10_solve_137 rfl rfl ?_
      refine bw_istore 141 dX10_solve_139 rfl (by decide) ?_
      refine bw_loc _ ?_ (m_solve_pv g hG.p16 hW hr hc (show j < c by omega) hT hC (rk := rk) (o := gfr W j (r - rk) rk) ?_ (r - rk) rk (by omega) rfl)
      · exact ⟨rfl, rfl, rfl, rfl, rfl, rfl, trivial⟩
      cases hf : gfr W j (r - rk) rk with
      | none =>
        have he : gre n (2 ^ n ||| p) r (c + 1) (d + 1) j W rk pp pv = gre n (2 ^ n ||| p) r (c + 1) d (j + 1) W rk pp (fun i => if i = j then none else pv i) := by
          show (match gfr W j (r - rk) rk with | none => _ | some i => _) = _
          rw [hf]
        rw [he] at hg
        refine bw_loc [(0, .ref M), (2, .int (nI r)), (3, .int (nI c)), (4, .int (nI rk)), (5, .int (nI j)), (6, .int (nI r))] ⟨rfl, rfl, rfl, rfl, rfl, rfl, trivial⟩ ?_
        refine bw_aload_n 170 dX10_solve_169 rfl rfl ?_
        refine bw_get 173 dX10_solve_170 rfl lX10_33 (hC.at 0 rfl) rfl ?_
        refine bw_iload 175 dX10_solve_173 rfl rfl ?_
        refine bw_iload 177 dX10_solve_175 rfl rfl ?_
        refine bw_iload_n 178 dX10_solve_177 rfl rfl ?_
        refine bw_icmp_ge 186 181 dX10_solve_178 rfl rfl (fun c178 => ?_) (fun c178 => ?_)
        · skip
          refine bw_iconst (-1) 187 dX10_solve_186 (by decide) rfl ?_
          refine bw_eqi (show (-1 : Int32) = oI none from rfl) ?_
          refine bw_iastO 188 dX10_solve_187 rfl (hC.at 6 rfl) (by omega) (by omega) (G := _) (rfl) (fun A hU => ?_)
          have hC := hC.upd 6 rfl hU
          have hS := hS.upd hU (by simp)
          clear hU
          refine bw_iload 190 dX10_solve_188 rfl rfl ?_
          refine bw_iload_n 191 dX10_solve_190 rfl rfl ?_
          refine bw_icmp_ne 197 194 dX10_solve_191 rfl rfl (fun c191 => ?_) (fun c191 => ?_)
          · exact absurd rfl c191
          · skip
            refine bw_goto 383 dX10_solve_194 rfl ?_
            refine bw_iincN (1) 386 dX10_solve_383 rfl rfl (by decide) (by decide) ?_
            refine bw_goto 131 dX10_solve_386 rfl ?_
            refine bw_loc _ ?_ (ih (j + 1) (by omega) W rk pp _ A T _ hW hrk hg hT (fun i hi => ?_) hC hS)
            · exact ⟨rfl, rfl, rfl, rfl, congrArg (fun x => some (Value.int x)) (nI_1 ( j )), trivial⟩
            · show (if i = j then none else L i) = if i = j then none else pv i
              by_cases hij : i = j
              · rw [if_pos hij, if_pos hij]
              · rw [if_neg hij, if_neg hij]; exact hL i (by omega)
        · exact absurd (Int32.le_refl _) c178
      | some i =>
        obtain ⟨hi1, hi2, hi3, -⟩ := gfr_in hf
        have hir : i < r := by omega
        have hrkr : rk < r := by omega
        have hpv : gxc W i rk (c + 1) rk j = W i j := gxc_pv (by omega)
        have he : gre n (2 ^ n ||| p) r (c + 1) (d + 1) j W rk pp pv = gre n (2 ^ n ||| p) r (c + 1) d (j + 1) (gfe n (2 ^ n ||| p) (gxc W i rk (c + 1)) (gsc n (2 ^ n ||| p) (gxc W i rk (c + 1) rk) (ginv n (2 ^ n ||| p) (gxc W i rk (c + 1) rk j)) (c + 1)) rk j (c + 1) r) (rk + 1) (gm n (2 ^ n ||| p) pp (gxc W i rk (c + 1) rk j)) (fun i => if i = j then some rk else pv i) := by
          show (match gfr W j (r - rk) rk with | none => _ | some i => _) = _
          rw [hf]
        rw [he, hpv] at hg
        have hV := fun a b => gxc_lt (i := i) (k := rk) (j := c + 1) hW a b
        have hP := fun b => gsc_lt hG.2.2.1 (hV rk) (ginv n (2 ^ n ||| p) (W i j)) (c + 1) b
        have K380 : ∀ (A : bw_H) (T : Nat → Nat), wkr T (gfe n (2 ^ n ||| p) (gxc W i rk (c + 1)) (gsc n (2 ^ n ||| p) (gxc W i rk (c + 1) rk) (ginv n (2 ^ n ||| p) (W i j)) (c + 1)) rk j (c + 1) r) r c → bw_has A ((M, mdo M n p gg 0 rn mn pn rd rs pt sn) :: slc g M row rr cc C T (fun i => if i = j then some rk else L i)) → bw_sm (slL M) A0 A → bw_W g (bw_rm 8 0 0) mX10_solve Q 0 0 380 [(0, .ref M), (2, .int (nI r)), (3, .int (nI c)), (4, .int (nI rk)), (5, .int (nI j))] [] A := by
          intro A T hT hC hS
          refine bw_iincN (1) 383 dX10_solve_380 rfl rfl (by decide) (by decide) ?_
          refine bw_iincN (1) 386 dX10_solve_383 rfl rfl (by decide) (by decide) ?_
          refine bw_goto 131 dX10_solve_386 rfl ?_
          refine bw_loc _ ?_ (ih (j + 1) (by omega) _ (rk + 1) _ _ A T _ (gfe_lt hG.2.2.1 hV hP) (by omega) hg hT (fun i hi => ?_) hC hS)
          · exact ⟨rfl, rfl, rfl, congrArg (fun x => some (Value.int x)) (nI_1 ( rk )), congrArg (fun x => some (Value.int x)) (nI_1 ( j )), trivial⟩
          · show (if i = j then some rk else L i) = if i = j then some rk else pv i
            by_cases hij : i = j
            · rw [if_pos hij, if_pos hij]
            · rw [if_neg hij, if_neg hij]; exact hL i (by omega)
        have K293 : ∀ (A : bw_H) (T : Nat → Nat), wkr T (gxs n (2 ^ n ||| p) W i rk (ginv n (2 ^ n ||| p) (W i j)) (c + 1)) r c → bw_has A ((M, mdo M n p gg 0 rn mn pn rd rs pt sn) :: slc g M row rr cc C T (fun i => if i = j then some rk else L i)) → bw_sm (slL M) A0 A → bw_W g (bw_rm 8 0 0) mX10_solve Q 0 0 293 [(0, .ref M), (2, .int (nI r)), (3, .int (nI c)), (4, .int (nI rk)), (5, .int (nI j))] [] A := by
          intro A T hT hC hS
          refine bw_iconst (0) 294 dX10_solve_293 (by decide) rfl ?_
          refine bw_eqi (y := nI 0) rfl ?_
          refine bw_istore 296 dX10_solve_294 rfl (by decide) ?_
          exact bw_loc [(0, .ref M), (2, .int (nI r)), (3, .int (nI c)), (4, .int (nI rk)), (5, .int (nI j)), (8, .int (nI 0))] ⟨rfl, rfl, rfl, rfl, rfl, rfl, trivial⟩ (m_solve_fr g hG hV hP hr hc hrkr (show j < c by omega) K380 r 0 (by omega) A T (fun a b ha hb => (hT a b ha hb).trans (gxs_fe a b hb)) hC hS)
        refine bw_loc [(0, .ref M), (2, .int (nI r)), (3, .int (nI c)), (4, .int (nI rk)), (5, .int (nI j)), (6, .int (nI i))] ⟨rfl, rfl, rfl, rfl, rfl, rfl, trivial⟩ ?_
        refine bw_aload_n 170 dX10_solve_169 rfl rfl ?_
        refine bw_get 173 dX10_solve_170 rfl lX10_33 (hC.at 0 rfl) rfl ?_
        refine bw_iload 175 dX10_solve_173 rfl rfl ?_
        refine bw_iload 177 dX10_solve_175 rfl rfl ?_
        refine bw_iload_n 178 dX10_solve_177 rfl rfl ?_
        refine bw_icmp_ge 186 181 dX10_solve_178 rfl rfl (fun c178 => ?_) (fun c178 => ?_)
        · exact absurd c178 (nI_ge hir (by omega))
        · skip
          refine bw_iload 183 dX10_solve_181 rfl rfl ?_
          refine bw_eqi (show nI rk = oI (some rk) from rfl) ?_
          refine bw_goto 187 dX10_solve_183 rfl ?_
          refine bw_iastO 188 dX10_solve_187 rfl (hC.at 6 rfl) (by omega) (by omega) (G := _) (rfl) (fun A hU => ?_)
          have hC := hC.upd 6 rfl hU
          have hS := hS.upd hU (by simp)
          clear hU
          refine bw_iload 190 dX10_solve_188 rfl rfl ?_
          refine bw_iload_n 191 dX10_solve_190 rfl rfl ?_
          refine bw_icmp_ne 197 194 dX10_solve_191 rfl rfl (fun c191 => ?_) (fun c191 => ?_)
          · skip
            refine bw_aload_n 198 dX10_solve_197 rfl rfl ?_
            refine bw_aload_n 199 dX10_solve_198 rfl rfl ?_
            refine bw_get 202 dX10_solve_199 rfl lX10_30 (hC.at 0 rfl) rfl ?_
            refine bw_bipush (9) 204 dX10_solve_202 (by decide) rfl ?_
            refine bw_eqi (y := nI 9) rfl ?_
            refine bw_iload 206 dX10_solve_204 rfl rfl ?_
            refine bw_imul 207 dX10_solve_206 rfl ?_
            refine bw_eqi (pk_mul 9 i) ?_
            refine bw_iload 209 dX10_solve_207 rfl rfl ?_
            refine bw_iadd 210 dX10_solve_209 rfl ?_
            refine bw_eqi (nI_add (9 * i) j) ?_
            refine bw_ialdN 211 dX10_solve_210 rfl (hC.at 5 rfl) (by omega) (by omega) ?_
            refine bw_eqi (congrArg nI (hT i j hir (by omega))) ?_
            refine bw_cVi 214 dX10_solve_211 rfl vX10_121 (m_inverse g hG (hC.sub [0] (by decide) rfl) (hW i j)) (hC.at 0 rfl) rfl rfl (Nat.le_of_ble_eq_true rfl) ⟨(Nat.le_of_ble_eq_true rfl), (Nat.le_of_ble_eq_true rfl)⟩ (Nat.le_of_ble_eq_true rfl) (Nat.le_of_ble_eq_true rfl) ?_
            refine bw_istore 216 dX10_solve_214 rfl (by decide) ?_
            refine bw_iconst (0) 217 dX10_solve_216 (by decide) rfl ?_
            refine bw_eqi (y := nI 0) rfl ?_
            refine bw_istore 219 dX10_solve_217 rfl (by decide) ?_
            exact bw_loc [(0, .ref M), (2, .int (nI r)), (3, .int (nI c)), (4, .int (nI rk)), (5, .int (nI j)), (6, .int (nI i)), (7, .int (nI (ginv n (2 ^ n ||| p) (W i j)))), (8, .int (nI 0))] ⟨rfl, rfl, rfl, rfl, rfl, rfl, rfl, rfl, trivial⟩ (m_solve_xs g hG hW hr hc hir hrkr (ginv_lt hG (W i j)) K293 (c + 1) 0 (by omega) A T (by rw [gxs_0]; exact hT) hC hS)
          · exact absurd ((nI_eq (by omega) (by omega)).mp c191) (by omega)
set_option maxHeartbeats 4000000 in
theorem m_solve_over (g : bw_G) {A : bw_H} {M n p gg rn mn pn rd rs pt sn r c rk : Nat} {row rr cc C T : Nat → Nat} {L : Nat → Option Nat} {W : Nat → Nat → Nat} {o : Option Nat} {Q : bw_O → bw_H → Prop} (hn : 2 ^ n ≤ 65536) (hW : ∀ a b, W a b < 2 ^ n) (hr : r ≤ 8) (hc : c ≤ 8) (hT : wkr T W r c) (hC : bw_has A ((M, mdo M n p gg 0 rn mn pn rd rs pt sn) :: slc g M row rr cc C T L))
    (hQ : o ≠ none → Q (.inl (some (.int (-1)))) A) (kk : o = none → bw_W g (bw_rm 8 0 0) mX10_solve Q 0 0 427 [(0, .ref M), (3, .int (nI c)), (4, .int (nI rk))] [] A) :
    ∀ (d i : Nat), i + d = r → gfr W c d i = o →
      bw_W g (bw_rm 8 0 0) mX10_solve Q 0 0 398 [(0, .ref M), (2, .int (nI r)), (3, .int (nI c)), (4, .int (nI rk)), (5, .int (nI i))] [] A := by
  intro d
  induction d with
  | zero =>
    intro i hi ho
    have hi : r = i := by omega
    subst hi
    refine bw_iload 400 dX10_solve_398 rfl rfl ?_
    refine bw_iload_n 401 dX10_solve_400 rfl rfl ?_
    refine bw_icmp_ge 427 404 dX10_solve_401 rfl rfl (fun c401 => ?_) (fun c401 => ?_)
    · exact bw_loc [(0, .ref M), (3, .int (nI c)), (4, .int (nI rk))] ⟨rfl, rfl, rfl, trivial⟩ (kk ho.symm)
    · exact absurd (Int32.le_refl _) c401
  | succ d ih =>
    intro i hi ho
    have hl := hW i c
    refine bw_iload 400 dX10_solve_398 rfl rfl ?_
    refine bw_iload_n 401 dX10_solve_400 rfl rfl ?_
    refine bw_icmp_ge 427 404 dX10_solve_401 rfl rfl (fun c401 => ?_) (fun c401 => ?_)
    · exact absurd c401 (nI_ge (by omega) (by omega))
    · skip
      refine bw_aload_n 405 dX10_solve_404 rfl rfl ?_
      refine bw_get 408 dX10_solve_405 rfl lX10_30 (hC.at 0 rfl) rfl ?_
      refine bw_bipush (9) 410 dX10_solve_408 (by decide) rfl ?_
      refine bw_eqi (y := nI 9) rfl ?_
      refine bw_iload 412 dX10_solve_410 rfl rfl ?_
      refine bw_imul 413 dX10_solve_412 rfl ?_
      refine bw_eqi (pk_mul 9 i) ?_
      refine bw_iload_n 414 dX10_solve_413 rfl rfl ?_
      refine bw_iadd 415 dX10_solve_414 rfl ?_
      refine bw_eqi (nI_add (9 * i) c) ?_
      refine bw_ialdN 416 dX10_solve_415 rfl (hC.at 5 rfl) (by omega) (by omega) ?_
      refine bw_eqi (congrArg nI (hT i c (by omega) (by omega))) ?_
      refine bw_if_eq 421 419 dX10_solve_416 rfl rfl (fun c416 => ?_) (fun c416 => ?_)
      · have h0 : W i c = 0 := (xn_eq0 (by omega)).mp c416
        have ho : gfr W c d (i + 1) = o := by rw [← ho]; exact (if_pos h0).symm
        refine bw_iincN (1) 424 dX10_solve_421 rfl rfl (by decide) (by decide) ?_
        refine bw_goto 398 dX10_solve_424 rfl ?_
        refine bw_loc _ ?_ (ih (i + 1) (by omega) ho)
        exact ⟨rfl, rfl, rfl, rfl, congrArg (fun x => some (Value.int x)) (nI_1 ( i )), trivial⟩
      · have h0 : W i c ≠ 0 := fun h => c416 (by rw [h]; rfl)
        have ho : some i = o := by rw [← ho]; exact (if_neg h0).symm
        refine bw_iconst (-1) 420 dX10_solve_419 (by decide) rfl ?_
        refine bw_iret dX10_solve_420 rfl (Nat.le_of_ble_eq_true rfl) (Nat.le_of_ble_eq_true rfl) ?_
        exact hQ (by rw [← ho]; exact Option.some_ne_none i)
theorem gsr_v {n q c k v : Nat} {row : Nat → Nat} {W : Nat → Nat → Nat} {pv : Nat → Option Nat} (hv : v = gsl W pv k c) : (fun i => if i = k then v else gsr n q row W pv c k i) = gsr n q row W pv c (k + 1) := by
  subst hv
  exact gsr_s
set_option maxHeartbeats 4000000 in
theorem m_solve_row (g : bw_G) {A0 : bw_H} {M n p gg mn pn rd rs pt sn r c rk : Nat} {row rr cc C T : Nat → Nat} {L pv : Nat → Option Nat} {W : Nat → Nat → Nat} {Q : bw_O → bw_H → Prop} (hr : r ≤ 8) (hc : c ≤ 8) (hrkc : rk ≤ c) (hT : wkr T W r c) (hL : ∀ i, i < c → L i = pv i) (hpv : ∀ j s, j < c → pv j = some s → s < r)
    (hQ : ∀ A : bw_H, bw_has A ((M, mdo M n p gg 0 c mn pn rd rs pt sn) :: slc g M (gsr n (2 ^ n ||| p) row W pv c c) rr cc C T L) → bw_sm (slL M) A0 A → Q (.inl (some (.int (nI (c - rk))))) A) :
    ∀ (d j : Nat), j + d = c → ∀ A : bw_H, bw_has A ((M, mdo M n p gg 0 0 mn pn rd rs pt sn) :: slc g M (gsr n (2 ^ n ||| p) row W pv c j) rr cc C T L) → bw_sm (slL M) A0 A →
      bw_W g (bw_rm 8 0 0) mX10_solve Q 0 0 430 [(0, .ref M), (3, .int (nI c)), (4, .int (nI rk)), (5, .int (nI j))] [] A := by
  intro d
  induction d with
  | zero =>
    intro j hj A hC hS
    have hj : c = j := by omega
    subst hj
    refine bw_iload 432 dX10_solve_430 rfl rfl ?_
    refine bw_iload_n 433 dX10_solve_432 rfl rfl ?_
    refine bw_icmp_ge 481 436 dX10_solve_433 rfl rfl (fun c433 => ?_) (fun c433 => ?_)
    · skip
      refine bw_aload_n 482 dX10_solve_481 rfl rfl ?_
      refine bw_iload_n 483 dX10_solve_482 rfl rfl ?_
      refine bw_putU 486 dX10_solve_483 rfl pX10_124 (hC.at 0 rfl) rfl rfl (Nat.le_of_ble_eq_true rfl) (fun A hU => ?_)
      have hC := hC.upd 0 rfl hU
      have hS := hS.upd hU (by simp)
      clear hU
      refine bw_iload_n 487 dX10_solve_486 rfl rfl ?_
      refine bw_iload 489 dX10_solve_487 rfl rfl ?_
      refine bw_isub 490 dX10_solve_489 rfl ?_
      refine bw_eqi (nI_sb hrkc) ?_
      refine bw_iret dX10_solve_490 rfl (Nat.le_of_ble_eq_true rfl) (Nat.le_of_ble_eq_true rfl) ?_
      exact hQ A hC hS
    · exact absurd (Int32.le_refl _) c433
  | succ d ih =>
    intro j hj A hC hS
    cases hg : pv j with
    | none =>
      refine bw_iload 432 dX10_solve_430 rfl rfl ?_
      refine bw_iload_n 433 dX10_solve_432 rfl rfl ?_
      refine bw_icmp_ge 481 436 dX10_solve_433 rfl rfl (fun c433 => ?_) (fun c433 => ?_)
      · exact absurd c433 (nI_ge (by omega) (by omega))
      · skip
        refine bw_aload_n 437 dX10_solve_436 rfl rfl ?_
        refine bw_get 440 dX10_solve_437 rfl lX10_13 (hC.at 0 rfl) rfl ?_
        refine bw_iload 442 dX10_solve_440 rfl rfl ?_
        refine bw_aload_n 443 dX10_solve_442 rfl rfl ?_
        refine bw_get 446 dX10_solve_443 rfl lX10_33 (hC.at 0 rfl) rfl ?_
        refine bw_iload 448 dX10_solve_446 rfl rfl ?_
        refine bw_ialdO 449 dX10_solve_448 rfl (hC.at 6 rfl) (by omega) (by omega) ?_
        refine bw_eqi ((congrArg oI ((hL j (by omega)).trans hg) : _ = (-1 : Int32))) ?_
        refine bw_iconst (-1) 450 dX10_solve_449 (by decide) rfl ?_
        refine bw_icmp_ne 457 453 dX10_solve_450 rfl rfl (fun c450 => ?_) (fun c450 => ?_)
        · exact absurd rfl c450
        · skip
          refine bw_iconst (0) 454 dX10_solve_453 (by decide) rfl ?_
          refine bw_eqi (y := nI 0) rfl ?_
          refine bw_goto 474 dX10_solve_454 rfl ?_
          refine bw_iastN 475 dX10_solve_474 rfl (hC.at 1 rfl) (by omega) (by omega) (G := gsr n (2 ^ n ||| p) row W pv c (j + 1)) (gsr_v (by unfold gsl; rw [hg])) (fun A hU => ?_)
          have hC := hC.upd 1 rfl hU
          have hS := hS.upd hU (by simp)
          clear hU
          refine bw_iincN (1) 478 dX10_solve_475 rfl rfl (by decide) (by decide) ?_
          refine bw_goto 430 dX10_solve_478 rfl ?_
          refine bw_loc _ ?_ (ih (j + 1) (by omega) A hC hS)
          exact ⟨rfl, rfl, rfl, congrArg (fun x => some (Value.int x)) (nI_1 ( j )), trivial⟩
    | some s =>
      have hs := hpv j s (by omega) hg
      refine bw_iload 432 dX10_solve_430 rfl rfl ?_
      refine bw_iload_n 433 dX10_solve_432 rfl rfl ?_
      refine bw_icmp_ge 481 436 dX10_solve_433 rfl rfl (fun c433 => ?_) (fun c433 => ?_)
      · exact absurd c433 (nI_ge (by omega) (by omega))
      · skip
        refine bw_aload_n 437 dX10_solve_436 rfl rfl ?_
        refine bw_get 440 dX10_solve_437 rfl lX10_13 (hC.at 0 rfl) rfl ?_
        refine bw_iload 442 dX10_solve_440 rfl rfl ?_
        refine bw_aload_n 443 dX10_solve_442 rfl rfl ?_
        refine bw_get 446 dX10_solve_443 rfl lX10_33 (hC.at 0 rfl) rfl ?_
        refine bw_iload 448 dX10_solve_446 rfl rfl ?_
        refine bw_ialdO 449 dX10_solve_448 rfl (hC.at 6 rfl) (by omega) (by omega) ?_
        refine bw_eqi ((congrArg oI ((hL j (by omega)).trans hg) : _ = nI s)) ?_
        refine bw_iconst (-1) 450 dX10_solve_449 (by decide) rfl ?_
        refine bw_icmp_ne 457 453 dX10_solve_450 rfl rfl (fun c450 => ?_) (fun c450 => ?_)
        · skip
          refine bw_aload_n 458 dX10_solve_457 rfl rfl ?_
          refine bw_get 461 dX10_solve_458 rfl lX10_30 (hC.at 0 rfl) rfl ?_
          refine bw_bipush (9) 463 dX10_solve_461 (by decide) rfl ?_
          refine bw_eqi (y := nI 9) rfl ?_
          refine bw_aload_n 464 dX10_solve_463 rfl rfl ?_
          refine bw_get 467 dX10_solve_464 rfl lX10_33 (hC.at 0 rfl) rfl ?_
          refine bw_iload 469 dX10_solve_467 rfl rfl ?_
          refine bw_ialdO 470 dX10_solve_469 rfl (hC.at 6 rfl) (by omega) (by omega) ?_
          refine bw_eqi ((congrArg oI ((hL j (by omega)).trans hg) : _ = nI s)) ?_
          refine bw_imul 471 dX10_solve_470 rfl ?_
          refine bw_eqi (pk_mul 9 s) ?_
          refine bw_iload_n 472 dX10_solve_471 rfl rfl ?_
          refine bw_iadd 473 dX10_solve_472 rfl ?_
          refine bw_eqi (nI_add (9 * s) c) ?_
          refine bw_ialdN 474 dX10_solve_473 rfl (hC.at 5 rfl) (by omega) (by omega) ?_
          refine bw_eqi (congrArg nI (hT s c hs (by omega))) ?_
          refine bw_iastN 475 dX10_solve_474 rfl (hC.at 1 rfl) (by omega) (by omega) (G := gsr n (2 ^ n ||| p) row W pv c (j + 1)) (gsr_v (by unfold gsl; rw [hg])) (fun A hU => ?_)
          have hC := hC.upd 1 rfl hU
          have hS := hS.upd hU (by simp)
          clear hU
          refine bw_iincN (1) 478 dX10_solve_475 rfl rfl (by decide) (by decide) ?_
          refine bw_goto 430 dX10_solve_478 rfl ?_
          refine bw_loc _ ?_ (ih (j + 1) (by omega) A hC hS)
          exact ⟨rfl, rfl, rfl, congrArg (fun x => some (Value.int x)) (nI_1 ( j )), trivial⟩
        · exact absurd (show nI s < 0 by rw [show nI s = (-1 : Int32) from c450]; decide) (nI_pos (by omega))
/-- what solve leaves -/
def msP (g : bw_G) (M n p gg mn pn rd rs pt sn r c : Nat) (row rr cc C : Nat → Nat) (pv : Nat → Option Nat) (U : Nat → Nat → Nat) (A0 : bw_H) (y : Int32) (A' : bw_H) : Prop :=
  ∃ (T : Nat → Nat) (L : Nat → Option Nat), bw_sm (slL M) A0 A' ∧
  ((gfr (gre n (2 ^ n ||| p) r (c + 1) c 0 U 0 1 pv).1 c (r - (gre n (2 ^ n ||| p) r (c + 1) c 0 U 0 1 pv).2.1) (gre n (2 ^ n ||| p) r (c + 1) c 0 U 0 1 pv).2.1 ≠ none ∧ y = -1 ∧ bw_has A' ((M, mdo M n p gg 0 0 mn pn rd rs pt sn) :: slc g M row rr cc C T L)) ∨
   (gfr (gre n (2 ^ n ||| p) r (c + 1) c 0 U 0 1 pv).1 c (r - (gre n (2 ^ n ||| p) r (c + 1) c 0 U 0 1 pv).2.1) (gre n (2 ^ n ||| p) r (c + 1) c 0 U 0 1 pv).2.1 = none ∧ y = nI (c - (gre n (2 ^ n ||| p) r (c + 1) c 0 U 0 1 pv).2.1) ∧ bw_has A' ((M, mdo M n p gg 0 c mn pn rd rs pt sn) :: slc g M (gsr n (2 ^ n ||| p) row (gre n (2 ^ n ||| p) r (c + 1) c 0 U 0 1 pv).1 (gre n (2 ^ n ||| p) r (c + 1) c 0 U 0 1 pv).2.2.2 c c) rr cc C T L)))
theorem gsr_0 {n q c : Nat} {row : Nat → Nat} {W : Nat → Nat → Nat} {pv : Nat → Option Nat} : gsr n q row W pv c 0 = row := by
  funext i
  exact if_neg (Nat.not_lt_zero i)
set_option maxHeartbeats 4000000 in
theorem m_solve (g : bw_G) {A : bw_H} {M n p gg th rn mn pn rd rs pt sn m : Nat} {row rr cc C T0 : Nat → Nat} {L0 pv : Nat → Option Nat} {U : Nat → Nat → Nat} (hG : GFg n p gg) (hC : bw_has A ((M, mdo M n p gg th rn mn pn rd rs pt sn) :: slc g M row rr cc C T0 L0)) (hm : mn ≤ 40) (hk : m < mn) (hr : rr m ≤ 8) (hc : cc m ≤ 8) (hrn : rn = rr m) (hUl : ∀ a b, U a b < 2 ^ n) (hU : ∀ i k, i < rr m → k < cc m → U i k = C (64 * m + 8 * i + k)) (hUc : ∀ i, i < rr m → U i (cc m) = row i) : bw_C g (bw_rm 8 0 0) mX10_solve [.ref M, .int (nI m)] A (bw_pm (msP g M n p gg mn pn rd rs pt sn (rr m) (cc m) row rr cc C pv U A)) := by
  have hS : bw_sm (slL M) A A := bw_sm.rf
  have hrk := gre_rk (n := n) (q := 2 ^ n ||| p) (h := rr m) (wd := cc m + 1) (cc m) 0 U 0 1 pv
  have hWl := gre_lt (h := rr m) (wd := cc m + 1) hG.2.2.1 (cc m) 0 U 0 1 pv hUl
  have hpv := fun (j s : Nat) (hj : j < cc m) => gre_pv (n := n) (q := 2 ^ n ||| p) (h := rr m) (wd := cc m + 1) (cc m) 0 U 0 1 pv j s (Nat.zero_le j) (by omega : j < 0 + cc m)
  have K389 : ∀ (A' : bw_H) (T : Nat → Nat) (L : Nat → Option Nat), wkr T (gre n (2 ^ n ||| p) (rr m) (cc m + 1) (cc m) 0 U 0 1 pv).1 (rr m) (cc m) → (∀ i, i < cc m → L i = (gre n (2 ^ n ||| p) (rr m) (cc m + 1) (cc m) 0 U 0 1 pv).2.2.2 i) → bw_has A' ((M, mdo M n p gg 0 rn mn pn rd rs pt sn) :: slc g M row rr cc C T L) → bw_sm (slL M) A A' → bw_W g (bw_rm 8 0 0) mX10_solve (bw_pm (msP g M n p gg mn pn rd rs pt sn (rr m) (cc m) row rr cc C pv U A)) 0 0 389 [(0, .ref M), (2, .int (nI (rr m))), (3, .int (nI (cc m))), (4, .int (nI (gre n (2 ^ n ||| p) (rr m) (cc m + 1) (cc m) 0 U 0 1 pv).2.1))] [] A' := by
    intro A' T L hT hL hC hS
    have K427 : ∀ (A' : bw_H) (T : Nat → Nat) (L : Nat → Option Nat), gfr (gre n (2 ^ n ||| p) (rr m) (cc m + 1) (cc m) 0 U 0 1 pv).1 (cc m) (rr m - (gre n (2 ^ n ||| p) (rr m) (cc m + 1) (cc m) 0 U 0 1 pv).2.1) (gre n (2 ^ n ||| p) (rr m) (cc m + 1) (cc m) 0 U 0 1 pv).2.1 = none → wkr T (gre n (2 ^ n ||| p) (rr m) (cc m + 1) (cc m) 0 U 0 1 pv).1 (rr m) (cc m) → (∀ i, i < cc m → L i = (gre n (2 ^ n ||| p) (rr m) (cc m + 1) (cc m) 0 U 0 1 pv).2.2.2 i) → bw_has A' ((M, mdo M n p gg 0 0 mn pn rd rs pt sn) :: slc g M row rr cc C T L) → bw_sm (slL M) A A' → bw_W g (bw_rm 8 0 0) mX10_solve (bw_pm (msP g M n p gg mn pn rd rs pt sn (rr m) (cc m) row rr cc C pv U A)) 0 0 427 [(0, .ref M), (3, .int (nI (cc m))), (4, .int (nI (gre n (2 ^ n ||| p) (rr m) (cc m + 1) (cc m) 0 U 0 1 pv).2.1))] [] A' := by
      intro A' T L ho hT hL hC hS
      refine bw_iconst (0) 428 dX10_solve_427 (by decide) rfl ?_
      refine bw_eqi (y := nI 0) rfl ?_
      refine bw_istore 430 dX10_solve_428 rfl (by decide) ?_
      exact bw_loc [(0, .ref M), (3, .int (nI (cc m))), (4, .int (nI (gre n (2 ^ n ||| p) (rr m) (cc m + 1) (cc m) 0 U 0 1 pv).2.1)), (5, .int (nI 0))] ⟨rfl, rfl, rfl, rfl, trivial⟩ (m_solve_row g hr hc (by have := hrk.1; omega) hT hL hpv (fun A hC hS => ⟨_, rfl, T, L, hS, Or.inr ⟨ho, rfl, hC⟩⟩) (cc m) 0 (by omega) A' (by rw [gsr_0]; exact hC) hS)
    refine bw_aload_n 390 dX10_solve_389 rfl rfl ?_
    refine bw_iconst (0) 391 dX10_solve_390 (by decide) rfl ?_
    refine bw_eqi (y := nI 0) rfl ?_
    refine bw_putU 394 dX10_solve_391 rfl pX10_124 (hC.at 0 rfl) rfl rfl (Nat.le_of_ble_eq_true rfl) (fun A hU => ?_)
    have hC := hC.upd 0 rfl hU
    have hS := hS.upd hU (by simp)
    clear hU
    refine bw_iload 396 dX10_solve_394 rfl rfl ?_
    refine bw_istore 398 dX10_solve_396 rfl (by decide) ?_
    exact bw_loc [(0, .ref M), (2, .int (nI (rr m))), (3, .int (nI (cc m))), (4, .int (nI (gre n (2 ^ n ||| p) (rr m) (cc m + 1) (cc m) 0 U 0 1 pv).2.1)), (5, .int (nI (gre n (2 ^ n ||| p) (rr m) (cc m + 1) (cc m) 0 U 0 1 pv).2.1))] ⟨rfl, rfl, rfl, rfl, rfl, trivial⟩ (m_solve_over g hG.p16 hWl hr hc hT hC (fun ho => ⟨_, rfl, T, L, hS, Or.inl ⟨ho, rfl, hC⟩⟩) (fun ho => K427 _ T L ho hT hL hC hS) (rr m - (gre n (2 ^ n ||| p) (rr m) (cc m + 1) (cc m) 0 U 0 1 pv).2.1) _ (by have := hrk.2.1 (Nat.zero_le _); omega) rfl)
  have K125 : ∀ (A' : bw_H) (T : Nat → Nat), wkr T U (rr m) (cc m) → bw_has A' ((M, mdo M n p gg 0 rn mn pn rd rs pt sn) :: slc g M row rr cc C T L0) → bw_sm (slL M) A A' → bw_W g (bw_rm 8 0 0) mX10_solve (bw_pm (msP g M n p gg mn pn rd rs pt sn (rr m) (cc m) row rr cc C pv U A)) 0 0 125 [(0, .ref M), (2, .int (nI (rr m))), (3, .int (nI (cc m)))] [] A' := by
    intro A' T hT hC hS
    refine bw_iconst (0) 126 dX10_solve_125 (by decide) rfl ?_
    refine bw_eqi (y := nI 0) rfl ?_
    refine bw_istore 128 dX10_solve_126 rfl (by decide) ?_
    refine bw_iconst (0) 129 dX10_solve_128 (by decide) rfl ?_
    refine bw_eqi (y := nI 0) rfl ?_
    refine bw_istore 131 dX10_solve_129 rfl (by decide) ?_
    exact bw_loc [(0, .ref M), (2, .int (nI (rr m))), (3, .int (nI (cc m))), (4, .int (nI 0)), (5, .int (nI 0))] ⟨rfl, rfl, rfl, rfl, rfl, trivial⟩ (m_solve_col g hG hr hc K389 (cc m) 0 (by omega) U 0 1 pv A' T L0 hUl (Nat.zero_le _) rfl hT (fun i hi => absurd hi (Nat.not_lt_zero i)) hC hS)
  refine bw_C.of (by decide) (Nat.le_of_ble_eq_true rfl) rfl ?_
  refine bw_aload_n 1 dX10_solve_0 rfl rfl ?_
  refine bw_iconst (0) 2 dX10_solve_1 (by decide) rfl ?_
  refine bw_eqi (y := nI 0) rfl ?_
  refine bw_putU 5 dX10_solve_2 rfl pX10_1 (hC.at 0 rfl) rfl rfl (Nat.le_of_ble_eq_true rfl) (fun A hU => ?_)
  have hC := hC.upd 0 rfl hU
  have hS := hS.upd hU (by simp)
  clear hU
  refine bw_aload_n 6 dX10_solve_5 rfl rfl ?_
  refine bw_iload_n 7 dX10_solve_6 rfl rfl ?_
  refine bw_cVi 10 dX10_solve_7 rfl vX10_144 (m_isMatrix g (hC.sub [0] (by decide) rfl) (kI_nI (by omega) hk)) (hC.at 0 rfl) rfl rfl (Nat.le_of_ble_eq_true rfl) ⟨(Nat.le_of_ble_eq_true rfl), (Nat.le_of_ble_eq_true rfl)⟩ (Nat.le_of_ble_eq_true rfl) (Nat.le_of_ble_eq_true rfl) ?_
  refine bw_if_ne 19 13 dX10_solve_10 rfl rfl (fun c10 => ?_) (fun c10 => ?_)
  · refine bw_aload_n 20 dX10_solve_19 rfl rfl ?_
    refine bw_get 23 dX10_solve_20 rfl lX10_124 (hC.at 0 rfl) rfl ?_
    refine bw_aload_n 24 dX10_solve_23 rfl rfl ?_
    refine bw_get 27 dX10_solve_24 rfl lX10_17 (hC.at 0 rfl) rfl ?_
    refine bw_iload_n 28 dX10_solve_27 rfl rfl ?_
    refine bw_ialdN 29 dX10_solve_28 rfl (hC.at 2 rfl) (by omega) (by omega) ?_
    refine bw_icmp_eq 38 32 dX10_solve_29 rfl rfl (fun c29 => ?_) (fun c29 => ?_)
    · skip
      refine bw_aload_n 39 dX10_solve_38 rfl rfl ?_
      refine bw_get 42 dX10_solve_39 rfl lX10_17 (hC.at 0 rfl) rfl ?_
      refine bw_iload_n 43 dX10_solve_42 rfl rfl ?_
      refine bw_ialdN 44 dX10_solve_43 rfl (hC.at 2 rfl) (by omega) (by omega) ?_
      refine bw_istore_n 45 dX10_solve_44 rfl (by decide) ?_
      refine bw_aload_n 46 dX10_solve_45 rfl rfl ?_
      refine bw_get 49 dX10_solve_46 rfl lX10_20 (hC.at 0 rfl) rfl ?_
      refine bw_iload_n 50 dX10_solve_49 rfl rfl ?_
      refine bw_ialdN 51 dX10_solve_50 rfl (hC.at 3 rfl) (by omega) (by omega) ?_
      refine bw_istore_n 52 dX10_solve_51 rfl (by decide) ?_
      refine bw_iconst (0) 53 dX10_solve_52 (by decide) rfl ?_
      refine bw_eqi (y := nI 0) rfl ?_
      refine bw_istore 55 dX10_solve_53 rfl (by decide) ?_
      exact bw_loc [(0, .ref M), (1, .int (nI m)), (2, .int (nI (rr m))), (3, .int (nI (cc m))), (4, .int (nI 0))] ⟨rfl, rfl, rfl, rfl, rfl, trivial⟩ (m_solve_fi g (by omega) hr hc hU hUc K125 (rr m) 0 (by omega) A T0 (fun a b h => by omega) hC hS)
    · exact absurd (by rw [hrn]) c29
  · exact absurd c10 (by decide)
theorem m_solveY (g : bw_G) {A : bw_H} {M n p gg th rn mn pn rd rs pt sn m : Nat} {rr : Nat → Nat} (hC : bw_has A [(M, mdo M n p gg th rn mn pn rd rs pt sn), (M + 2, bw_an g 40 rr)]) (hm : mn ≤ 40) (hk : m < mn) (h130 : rn ≤ 130) (hr : rr m ≤ 8) (h : rn ≠ rr m) : bw_C g (bw_rm 8 0 0) mX10_solve [.ref M, .int (nI m)] A (bw_pm (maR M [] (mdo M n p gg 2 rn mn pn rd rs pt sn) (nI 0) A)) := by
  have hS : bw_sm [M] A A := bw_sm.rf
  refine bw_C.of (by decide) (Nat.le_of_ble_eq_true rfl) rfl ?_
  refine bw_aload_n 1 dX10_solve_0 rfl rfl ?_
  refine bw_iconst (0) 2 dX10_solve_1 (by decide) rfl ?_
  refine bw_eqi (y := nI 0) rfl ?_
  refine bw_putU 5 dX10_solve_2 rfl pX10_1 (hC.at 0 rfl) rfl rfl (Nat.le_of_ble_eq_true rfl) (fun A hU => ?_)
  have hC := hC.upd 0 rfl hU
  have hS := hS.upd hU (by simp)
  clear hU
  refine bw_aload_n 6 dX10_solve_5 rfl rfl ?_
  refine bw_iload_n 7 dX10_solve_6 rfl rfl ?_
  refine bw_cVi 10 dX10_solve_7 rfl vX10_144 (m_isMatrix g (hC.sub [0] (by decide) rfl) (kI_nI (by omega) hk)) (hC.at 0 rfl) rfl rfl (Nat.le_of_ble_eq_true rfl) ⟨(Nat.le_of_ble_eq_true rfl), (Nat.le_of_ble_eq_true rfl)⟩ (Nat.le_of_ble_eq_true rfl) (Nat.le_of_ble_eq_true rfl) ?_
  refine bw_if_ne 19 13 dX10_solve_10 rfl rfl (fun c10 => ?_) (fun c10 => ?_)
  · refine bw_aload_n 20 dX10_solve_19 rfl rfl ?_
    refine bw_get 23 dX10_solve_20 rfl lX10_124 (hC.at 0 rfl) rfl ?_
    refine bw_aload_n 24 dX10_solve_23 rfl rfl ?_
    refine bw_get 27 dX10_solve_24 rfl lX10_17 (hC.at 0 rfl) rfl ?_
    refine bw_iload_n 28 dX10_solve_27 rfl rfl ?_
    refine bw_ialdN 29 dX10_solve_28 rfl (hC.at 1 rfl) (by omega) (by omega) ?_
    refine bw_icmp_eq 38 32 dX10_solve_29 rfl rfl (fun c29 => ?_) (fun c29 => ?_)
    · exact absurd ((nI_eq (by omega) (by omega)).mp c29) h
    · skip
      refine bw_aload_n 33 dX10_solve_32 rfl rfl ?_
      refine bw_iconst (2) 34 dX10_solve_33 (by decide) rfl ?_
      refine bw_eqi (y := nI 2) rfl ?_
      refine bw_cVm 37 dX10_solve_34 rfl vX10_118 (m_fail g (hC.sub [0] (by decide) rfl)) (hC.at 0 rfl) rfl rfl (Nat.le_of_ble_eq_true rfl) ⟨(Nat.le_of_ble_eq_true rfl), (Nat.le_of_ble_eq_true rfl)⟩ (Nat.le_of_ble_eq_true rfl) (Nat.le_of_ble_eq_true rfl) (fun x A hP => ?_)
      obtain ⟨h4, h5⟩ := hP
      subst h4
      have hC := hC.upd 0 rfl h5
      have hS := hS.upd h5 (by simp)
      refine bw_iret dX10_solve_37 rfl (Nat.le_of_ble_eq_true rfl) (Nat.le_of_ble_eq_true rfl) ?_
      exact ⟨_, rfl, rfl, hS, hC.at 0 rfl⟩
  · exact absurd c10 (by decide)
theorem m_solveX (g : bw_G) {A : bw_H} {M n p gg th rn mn pn rd rs pt sn : Nat} {a : Int32} (hC : bw_has A [(M, mdo M n p gg th rn mn pn rd rs pt sn)]) (h : ¬ kI mn a) : bw_C g (bw_rm 8 0 0) mX10_solve [.ref M, .int a] A (bw_pm (maR M [] (mdo M n p gg 1 rn mn pn rd rs pt sn) (nI 0) A)) := by
  have hS : bw_sm [M] A A := bw_sm.rf
  refine bw_C.of (by decide) (Nat.le_of_ble_eq_true rfl) rfl ?_
  refine bw_aload_n 1 dX10_solve_0 rfl rfl ?_
  refine bw_iconst (0) 2 dX10_solve_1 (by decide) rfl ?_
  refine bw_eqi (y := nI 0) rfl ?_
  refine bw_putU 5 dX10_solve_2 rfl pX10_1 (hC.at 0 rfl) rfl rfl (Nat.le_of_ble_eq_true rfl) (fun A hU => ?_)
  have hC := hC.upd 0 rfl hU
  have hS := hS.upd hU (by simp)
  clear hU
  refine bw_aload_n 6 dX10_solve_5 rfl rfl ?_
  refine bw_iload_n 7 dX10_solve_6 rfl rfl ?_
  refine bw_cVi 10 dX10_solve_7 rfl vX10_144 (m_isMatrixX g hC h) (hC.at 0 rfl) rfl rfl (Nat.le_of_ble_eq_true rfl) ⟨(Nat.le_of_ble_eq_true rfl), (Nat.le_of_ble_eq_true rfl)⟩ (Nat.le_of_ble_eq_true rfl) (Nat.le_of_ble_eq_true rfl) ?_
  refine bw_if_ne 19 13 dX10_solve_10 rfl rfl (fun c10 => ?_) (fun c10 => ?_)
  · exact absurd rfl c10
  · refine bw_aload_n 14 dX10_solve_13 rfl rfl ?_
    refine bw_iconst (1) 15 dX10_solve_14 (by decide) rfl ?_
    refine bw_eqi (y := nI 1) rfl ?_
    refine bw_cVm 18 dX10_solve_15 rfl vX10_118 (m_fail g hC) (hC.at 0 rfl) rfl rfl (Nat.le_of_ble_eq_true rfl) ⟨(Nat.le_of_ble_eq_true rfl), (Nat.le_of_ble_eq_true rfl)⟩ (Nat.le_of_ble_eq_true rfl) (Nat.le_of_ble_eq_true rfl) (fun x A hP => ?_)
    obtain ⟨h4, h5⟩ := hP
    subst h4
    have hC := hC.upd 0 rfl h5
    have hS := hS.upd h5 (by simp)
    refine bw_iret dX10_solve_18 rfl (Nat.le_of_ble_eq_true rfl) (Nat.le_of_ble_eq_true rfl) ?_
    exact ⟨_, rfl, rfl, hS, hC.at 0 rfl⟩
