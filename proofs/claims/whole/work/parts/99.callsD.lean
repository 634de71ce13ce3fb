/-! class and reference side by side: matrices that are made, singular, solve -/
theorem gre_pp {n q h wd : Nat} (hG : GFp n q) : ∀ (r j : Nat) (W : Nat → Nat → Nat) (rk pp : Nat) (pv : Nat → Option Nat), j + r ≤ wd → (∀ a b, W a b < 2 ^ n) → pp < 2 ^ n → pp ≠ 0 → (gre n q h wd r j W rk pp pv).2.2.1 ≠ 0
  | 0, _, _, _, _, _, _, _, _, h0 => h0
  | r + 1, j, W, rk, pp, pv, hj, hW, hp, h0 => by
    show (match gfr W j (h - rk) rk with | none => gre n q h wd r (j + 1) W rk pp (fun i => if i = j then none else pv i) | some i => gre n q h wd r (j + 1) (gfe n q (gxc W i rk wd) (gsc n q (gxc W i rk wd rk) (ginv n q (gxc W i rk wd rk j)) wd) rk j wd h) (rk + 1) (gm n q pp (gxc W i rk wd rk j)) (fun i => if i = j then some rk else pv i)).2.2.1 ≠ 0
    cases hg : gfr W j (h - rk) rk with
    | none => exact gre_pp hG r (j + 1) W rk pp _ (by omega) hW hp h0
    | some i =>
      have hX := fun a b => gxc_lt (i := i) (k := rk) (j := wd) hW a b
      have hpv : gxc W i rk wd rk j = W i j := gxc_pv (by omega)
      exact gre_pp hG r (j + 1) _ (rk + 1) _ _ (by omega) (gfe_lt hG hX (gsc_lt hG (hX rk) _ _)) (hG.lt hp) (hG.ne0 hp (hX rk j) h0 (by rw [hpv]; exact (gfr_in hg).2.2.1))
theorem xI.mats {g : bw_G} {x n p gg B rn mn pn sn : Nat} {row S : Nat → Nat} {MA PA : Nat → Option Nat} {rr cc Cm Cp : Nat → Nat} {A : bw_H} (h : xI g x n p gg B rn mn pn sn row S MA PA rr cc Cm Cp A) (k : Nat) (hk : k < mn) : ∃ a, MA k = some a := by
  obtain ⟨a, f, q1, -⟩ := h.mat k hk
  exact ⟨a, q1⟩
theorem xI.pols {g : bw_G} {x n p gg B rn mn pn sn : Nat} {row S : Nat → Nat} {MA PA : Nat → Option Nat} {rr cc Cm Cp : Nat → Nat} {A : bw_H} (h : xI g x n p gg B rn mn pn sn row S MA PA rr cc Cm Cp A) (k : Nat) (hk : k < pn) : ∃ a, PA k = some a := by
  obtain ⟨a, w, q1, -⟩ := h.pol k hk
  exact ⟨a, q1⟩
section CALLS
variable {g : bw_G} {x M n p gg th : Nat} {A : bw_H}
set_option maxHeartbeats 1000000 in
theorem b_matrix (hG : GFg n p gg) (hxM : x + 57 + 2 * n ≤ M) (h : LI g x M n p gg th A) (a b : Int32) : bth g x M n p gg mX9_matrix mX10_matrix [.int a, .int b] [eIA, eUO] A := by
  obtain ⟨rn, mn, pn, sn, row, S, MA, PA, rr, cc, Cm, Cp, hf, hx, hm, ho⟩ := h
  obtain ⟨f1, f2, f3, f4, f5, f6, f7, f8, f9, f10⟩ := hf
  by_cases hab : sI a ∧ sI b
  · obtain ⟨r, hr1, hr, rfl⟩ := sI_of hab.1
    obtain ⟨c, hc1, hc8, rfl⟩ := sI_of hab.2
    by_cases hm40 : mn = 40
    · subst hm40
      exact bth.pure (k := 2) (v := 0) (by decide) hxM ⟨f1, f2, f3, f4, f5, f6, f7, f8, f9, f10⟩ hx hm ho (Or.inr ⟨by decide, k9_matrixY g (hx.cs.sub [0] (by decide) rfl) hab.1 hab.2 rfl⟩) (fun A1 rd rs pt dd V T Rt Pc L hc hF => ⟨nI 0, fun h => absurd h (by decide), m_matrixY g (bw_has.one hc.1) hab.1 hab.2⟩)
    · refine bth.gen (th := th) (k := 0) (v := nI mn) (rn' := rn) (mn' := mn + 1) (pn' := pn) (sn' := sn) (row' := row) (S' := S) (MA' := (fun i => if i = mn then some A.1 else MA i)) (PA' := PA) (rr' := (fun i => if i = mn then r else rr i)) (cc' := (fun i => if i = mn then c else cc i)) (Cm' := gzm Cm mn 64) (Cp' := Cp) (by decide) hxM (fI.mat ⟨f1, f2, f3, f4, f5, f6, f7, f8, f9, f10⟩ (by omega) f1 ⟨hr1, hr, hc1, hc8⟩ (gzm_lt f8 mn 64)) hm ho ?_ (fun A1 h1 => ?_)
      · refine bw_C.mono (k9_matrix g (hx.cs.sub [0, 2] (by decide) rfl) rfl hr1 hr hc1 hc8 (by omega)) (fun o A1 h => ?_)
        obtain ⟨y, ho1, hP⟩ := h
        have hy0 := hP.1
        subst hy0
        exact ⟨Or.inl ⟨rfl, ho1⟩, hx.u2 hxM ho rfl f7 hP (fun b hb => by simp at hb; omega) (Or.inl fun b _ _ => hP.2.2.2 b (by have := ho.2; omega) (by simp; omega)) (fun _ => Nat.two_pow_pos n) (fun i j hi hj => (gzm_in (by omega) (by omega)).symm) (fun t ht => gzm_no (Or.inl ht))⟩
      · obtain ⟨rd, rs, pt, dd, V, T, Rt, Pc, L, hc, hF⟩ := h1
        refine bw_C.mono (m_matrix g (mrC.sb hc [0, 2, 3, 4] rfl) (by omega) hr1 hr hc1 hc8) (fun o A2 h => ?_)
        obtain ⟨e0, e1, e2, e3, e4, e5, e6, e7, e8, e9, e10, e11, e12, e13, e14, e15, e16, e17, e18⟩ := hc
        obtain ⟨y, hy, ⟨rfl, hs, h6⟩, h7⟩ := h
        exact ⟨_, hy, fun _ => rfl, ⟨rd, rs, pt, dd, V, T, Rt, Pc, L, ⟨h6, (hs.2 _ (by simp [mml])).trans e1, h7.at 0 rfl, h7.at 1 rfl, h7.at 2 rfl, (hs.2 _ (by simp [mml])).trans e5, (hs.2 _ (by simp [mml])).trans e6, (hs.2 _ (by simp [mml])).trans e7, (hs.2 _ (by simp [mml])).trans e8, (hs.2 _ (by simp [mml])).trans e9, e10.fr (hs.2 _ (by simp [mml])), e11.fr (hs.2 _ (by simp [mml])), e12.fr (hs.2 _ (by simp [mml])), e13.fr (hs.2 _ (by simp [mml])), (hs.2 _ (by simp [mml])).trans e14, (hs.2 _ (by simp [mml])).trans e15, e16.fr (hs.2 _ (by simp [mml])), e17.fr (hs.2 _ (by simp [mml])), (hs.2 _ (by simp [mml])).trans e18⟩, hF⟩, fun b hb => hs.2 b (by simp [mml]; omega), hs.1⟩
  · exact bth.pure (k := 1) (v := 0) (by decide) hxM ⟨f1, f2, f3, f4, f5, f6, f7, f8, f9, f10⟩ hx hm ho (Or.inr ⟨by decide, k9_matrixX g hab⟩) (fun A1 rd rs pt dd V T Rt Pc L hc hF => ⟨nI 0, fun h => absurd h (by decide), m_matrixX g (bw_has.one hc.1) hab⟩)
set_option maxHeartbeats 1000000 in
theorem b_powers (hG : GFg n p gg) (hxM : x + 57 + 2 * n ≤ M) (h : LI g x M n p gg th A) (a b : Int32) : bth g x M n p gg mX9_powers mX10_powers [.int a, .int b] [eIA, eIS, eUO] A := by
  obtain ⟨rn, mn, pn, sn, row, S, MA, PA, rr, cc, Cm, Cp, hf, hx, hm, ho⟩ := h
  obtain ⟨f1, f2, f3, f4, f5, f6, f7, f8, f9, f10⟩ := hf
  by_cases hab : sI a ∧ sI b
  · obtain ⟨r, hr1, hr, rfl⟩ := sI_of hab.1
    obtain ⟨c, hc1, hc8, rfl⟩ := sI_of hab.2
    by_cases hal0 : rn = r ∧ ¬ hal row rn 1
    · by_cases hm40 : mn = 40
      · subst hm40
        exact bth.pure (k := 3) (v := 0) (by decide) hxM ⟨f1, f2, f3, f4, f5, f6, f7, f8, f9, f10⟩ hx hm ho (Or.inr ⟨by decide, k9_powersZ g hG.p16 f5 (hx.cs.sub [0, 1] (by decide) rfl) f1 hab.1 hab.2 (by rw [hal0.1]) hal0.2 rfl⟩) (fun A1 rd rs pt dd V T Rt Pc L hc hF => ⟨nI 0, fun h => absurd h (by decide), m_powersZ g hG.p16 (mrC.sb hc [0, 1] rfl) f5 f1 hab.1 hab.2 (by rw [hal0.1]) hal0.2⟩)
      · refine bth.gen (th := th) (k := 0) (v := nI mn) (rn' := 0) (mn' := mn + 1) (pn' := pn) (sn' := sn) (row' := row) (S' := S) (MA' := (fun i => if i = mn then some A.1 else MA i)) (PA' := PA) (rr' := (fun i => if i = mn then r else rr i)) (cc' := (fun i => if i = mn then c else cc i)) (Cm' := gfl (gzm Cm mn 64) mn (fun i j => gpow n (2 ^ n ||| p) (row i) j) c r 0) (Cp' := Cp) (by decide) hxM (fI.mat ⟨f1, f2, f3, f4, f5, f6, f7, f8, f9, f10⟩ (by omega) (Nat.zero_le 130) ⟨hr1, hr, hc1, hc8⟩ (gfl_lt (gzm_lt f8 mn 64) (fun a b => gpow_lt hG.2.2.1 _ _))) hm ho ?_ (fun A1 h1 => ?_)
        · refine bw_C.mono (k9_powers g hG (hx.cs.sub [0, 2, 1, 5, 6] (by decide) rfl) rfl f5 hr1 hr hc1 hc8 hal0.1 hal0.2 (by omega)) (fun o A1 h => ?_)
          obtain ⟨y, ho1, hP⟩ := h
          have hy0 := hP.1
          subst hy0
          exact ⟨Or.inl ⟨rfl, ho1⟩, hx.u2 hxM ho rfl f7 hP (fun b hb => by simp at hb; omega) (Or.inl fun b _ _ => hP.2.2.2 b (by have := ho.2; omega) (by simp; omega)) (gpF_lt hG.2.2.1) (fun i j hi hj => (gpF_v hi hj).trans (gfl_v (v := fun i j => gpow n (2 ^ n ||| p) (row i) j) hr hc8 hi hj).symm) (fun t ht => (gfl_no (Or.inl ht)).trans (gzm_no (Or.inl ht)))⟩
        · obtain ⟨rd, rs, pt, dd, V, T, Rt, Pc, L, hc, hF⟩ := h1
          refine bw_C.mono (m_powers g hG (mrC.sb hc [0, 1, 2, 3, 4] rfl) f5 (by omega) hr1 hr hc1 hc8 hal0.1 hal0.2) (fun o A2 h => ?_)
          obtain ⟨e0, e1, e2, e3, e4, e5, e6, e7, e8, e9, e10, e11, e12, e13, e14, e15, e16, e17, e18⟩ := hc
          obtain ⟨y, hy, ⟨rfl, hs, h6⟩, h7⟩ := h
          exact ⟨_, hy, fun _ => rfl, ⟨rd, rs, pt, dd, V, T, Rt, Pc, L, ⟨h6, (hs.2 _ (by simp [mml])).trans e1, h7.at 0 rfl, h7.at 1 rfl, h7.at 2 rfl, (hs.2 _ (by simp [mml])).trans e5, (hs.2 _ (by simp [mml])).trans e6, (hs.2 _ (by simp [mml])).trans e7, (hs.2 _ (by simp [mml])).trans e8, (hs.2 _ (by simp [mml])).trans e9, e10.fr (hs.2 _ (by simp [mml])), e11.fr (hs.2 _ (by simp [mml])), e12.fr (hs.2 _ (by simp [mml])), e13.fr (hs.2 _ (by simp [mml])), (hs.2 _ (by simp [mml])).trans e14, (hs.2 _ (by simp [mml])).trans e15, e16.fr (hs.2 _ (by simp [mml])), e17.fr (hs.2 _ (by simp [mml])), (hs.2 _ (by simp [mml])).trans e18⟩, hF⟩, fun b hb => hs.2 b (by simp [mml]; omega), hs.1⟩
    · have hal1 : ¬ nI rn = nI r ∨ hal row rn 1 := by
        by_cases h : hal row rn 1
        · exact Or.inr h
        · exact Or.inl (fun h2 => hal0 ⟨(nI_eq (by omega) (by omega)).mp h2, h⟩)
      exact bth.pure (k := 2) (v := 0) (by decide) hxM ⟨f1, f2, f3, f4, f5, f6, f7, f8, f9, f10⟩ hx hm ho (Or.inr ⟨by decide, k9_powersY g hG.p16 f5 (hx.cs.sub [0, 1] (by decide) rfl) f1 hab.1 hab.2 hal1⟩) (fun A1 rd rs pt dd V T Rt Pc L hc hF => ⟨nI 0, fun h => absurd h (by decide), m_powersY g hG.p16 (mrC.sb hc [0, 1] rfl) f5 f1 hab.1 hab.2 hal1⟩)
  · exact bth.pure (k := 1) (v := 0) (by decide) hxM ⟨f1, f2, f3, f4, f5, f6, f7, f8, f9, f10⟩ hx hm ho (Or.inr ⟨by decide, k9_powersX g hab⟩) (fun A1 rd rs pt dd V T Rt Pc L hc hF => ⟨nI 0, fun h => absurd h (by decide), m_powersX g (bw_has.one hc.1) hab⟩)
set_option maxHeartbeats 1000000 in
theorem b_sums (hG : GFg n p gg) (hxM : x + 57 + 2 * n ≤ M) (h : LI g x M n p gg th A) (a b : Int32) : bth g x M n p gg mX9_sums mX10_sums [.int a, .int b] [eIA, eIS, eUO] A := by
  obtain ⟨rn, mn, pn, sn, row, S, MA, PA, rr, cc, Cm, Cp, hf, hx, hm, ho⟩ := h
  obtain ⟨f1, f2, f3, f4, f5, f6, f7, f8, f9, f10⟩ := hf
  by_cases hab : sI a ∧ sI b
  · obtain ⟨r, hr1, hr, rfl⟩ := sI_of hab.1
    obtain ⟨c, hc1, hc8, rfl⟩ := sI_of hab.2
    by_cases hal0 : rn = r + c ∧ ¬ hal row rn 1
    · by_cases hm40 : mn = 40
      · subst hm40
        exact bth.pure (k := 3) (v := 0) (by decide) hxM ⟨f1, f2, f3, f4, f5, f6, f7, f8, f9, f10⟩ hx hm ho (Or.inr ⟨by decide, k9_sumsZ g hG.p16 f5 (hx.cs.sub [0, 1] (by decide) rfl) f1 hr1 hr hc1 hc8 hal0.1 hal0.2 rfl⟩) (fun A1 rd rs pt dd V T Rt Pc L hc hF => ⟨nI 0, fun h => absurd h (by decide), m_sumsZ g hG.p16 (mrC.sb hc [0, 1] rfl) f5 f1 hr1 hr hc1 hc8 hal0.1 hal0.2⟩)
      · refine bth.gen (th := th) (k := 0) (v := nI mn) (rn' := 0) (mn' := mn + 1) (pn' := pn) (sn' := sn) (row' := row) (S' := S) (MA' := (fun i => if i = mn then some A.1 else MA i)) (PA' := PA) (rr' := (fun i => if i = mn then r else rr i)) (cc' := (fun i => if i = mn then c else cc i)) (Cm' := gfl (gzm Cm mn 64) mn (fun i j => ginv n (2 ^ n ||| p) (row i ^^^ row (r + j))) c r 0) (Cp' := Cp) (by decide) hxM (fI.mat ⟨f1, f2, f3, f4, f5, f6, f7, f8, f9, f10⟩ (by omega) (Nat.zero_le 130) ⟨hr1, hr, hc1, hc8⟩ (gfl_lt (gzm_lt f8 mn 64) (fun a b => gpow_lt hG.2.2.1 _ _))) hm ho ?_ (fun A1 h1 => ?_)
        · refine bw_C.mono (k9_sums g hG (hx.cs.sub [0, 2, 1, 5, 6] (by decide) rfl) rfl f5 hr1 hr hc1 hc8 hal0.1 hal0.2 (by omega)) (fun o A1 h => ?_)
          obtain ⟨y, ho1, hP⟩ := h
          have hy0 := hP.1
          subst hy0
          exact ⟨Or.inl ⟨rfl, ho1⟩, hx.u2 hxM ho rfl f7 hP (fun b hb => by simp at hb; omega) (Or.inl fun b _ _ => hP.2.2.2 b (by have := ho.2; omega) (by simp; omega)) (giF_lt hG.2.2.1) (fun i j hi hj => (giF_v hi hj).trans (gfl_v (v := fun i j => ginv n (2 ^ n ||| p) (row i ^^^ row (r + j))) hr hc8 hi hj).symm) (fun t ht => (gfl_no (Or.inl ht)).trans (gzm_no (Or.inl ht)))⟩
        · obtain ⟨rd, rs, pt, dd, V, T, Rt, Pc, L, hc, hF⟩ := h1
          refine bw_C.mono (m_sums g hG (mrC.sb hc [0, 1, 2, 3, 4] rfl) f5 (by omega) hr1 hr hc1 hc8 hal0.1 hal0.2) (fun o A2 h => ?_)
          obtain ⟨e0, e1, e2, e3, e4, e5, e6, e7, e8, e9, e10, e11, e12, e13, e14, e15, e16, e17, e18⟩ := hc
          obtain ⟨y, hy, ⟨rfl, hs, h6⟩, h7⟩ := h
          exact ⟨_, hy, fun _ => rfl, ⟨rd, rs, pt, dd, V, T, Rt, Pc, L, ⟨h6, (hs.2 _ (by simp [mml])).trans e1, h7.at 0 rfl, h7.at 1 rfl, h7.at 2 rfl, (hs.2 _ (by simp [mml])).trans e5, (hs.2 _ (by simp [mml])).trans e6, (hs.2 _ (by simp [mml])).trans e7, (hs.2 _ (by simp [mml])).trans e8, (hs.2 _ (by simp [mml])).trans e9, e10.fr (hs.2 _ (by simp [mml])), e11.fr (hs.2 _ (by simp [mml])), e12.fr (hs.2 _ (by simp [mml])), e13.fr (hs.2 _ (by simp [mml])), (hs.2 _ (by simp [mml])).trans e14, (hs.2 _ (by simp [mml])).trans e15, e16.fr (hs.2 _ (by simp [mml])), e17.fr (hs.2 _ (by simp [mml])), (hs.2 _ (by simp [mml])).trans e18⟩, hF⟩, fun b hb => hs.2 b (by simp [mml]; omega), hs.1⟩
    · have hal1 : rn ≠ r + c ∨ hal row rn 1 := by
        by_cases h : hal row rn 1
        · exact Or.inr h
        · exact Or.inl (fun h2 => hal0 ⟨h2, h⟩)
      exact bth.pure (k := 2) (v := 0) (by decide) hxM ⟨f1, f2, f3, f4, f5, f6, f7, f8, f9, f10⟩ hx hm ho (Or.inr ⟨by decide, k9_sumsY g hG.p16 f5 (hx.cs.sub [0, 1] (by decide) rfl) f1 hr1 hr hc1 hc8 hal1⟩) (fun A1 rd rs pt dd V T Rt Pc L hc hF => ⟨nI 0, fun h => absurd h (by decide), m_sumsY g hG.p16 (mrC.sb hc [0, 1] rfl) f5 f1 hr1 hr hc1 hc8 hal1⟩)
  · exact bth.pure (k := 1) (v := 0) (by decide) hxM ⟨f1, f2, f3, f4, f5, f6, f7, f8, f9, f10⟩ hx hm ho (Or.inr ⟨by decide, k9_sumsX g hab⟩) (fun A1 rd rs pt dd V T Rt Pc L hc hF => ⟨nI 0, fun h => absurd h (by decide), m_sumsX g (bw_has.one hc.1) hab⟩)
set_option maxHeartbeats 1000000 in
theorem b_times (hG : GFg n p gg) (hxM : x + 57 + 2 * n ≤ M) (h : LI g x M n p gg th A) (a b : Int32) : bth g x M n p gg mX9_times mX10_times [.int a, .int b] [eIO, eIS, eUO] A := by
  obtain ⟨rn, mn, pn, sn, row, S, MA, PA, rr, cc, Cm, Cp, hf, hx, hm, ho⟩ := h
  obtain ⟨f1, f2, f3, f4, f5, f6, f7, f8, f9, f10⟩ := hf
  by_cases hab : kI mn a ∧ kI mn b
  · obtain ⟨k, hk, rfl⟩ := kI_of (by omega) hab.1
    obtain ⟨k', hk', rfl⟩ := kI_of (by omega) hab.2
    obtain ⟨am, f, q1, q2, q3, q4, q5, q6⟩ := hx.mat k hk
    obtain ⟨am', f', q1', q2', q3', q4', q5', q6'⟩ := hx.mat k' hk'
    obtain ⟨t1, t2, t3, t4⟩ := f7 k hk
    obtain ⟨t1', t2', t3', t4'⟩ := f7 k' hk'
    by_cases hfit : cc k = rr k'
    · by_cases hm40 : mn = 40
      · subst hm40
        exact bth.pure (k := 3) (v := 0) (by decide) hxM ⟨f1, f2, f3, f4, f5, f6, f7, f8, f9, f10⟩ hx hm ho (Or.inr ⟨by decide, k9_timesZ g (hx.cs.sub [0, 2] (by decide) rfl) hk hk' rfl q1 q1' (q4.at 0 rfl) (by rw [hfit]; exact q4'.at 0 rfl)⟩) (fun A1 rd rs pt dd V T Rt Pc L hc hF => ⟨nI 0, fun h => absurd h (by decide), m_timesZ g (mrC.sb hc [0, 2, 3] rfl) hk hk' hfit⟩)
      · have hgv : ∀ i j, i < rr k → j < cc k' → gtF n (2 ^ n ||| p) (cc k) (cc k') f f' (rr k) 0 (i * cc k' + j) = gtv n (2 ^ n ||| p) (gzm Cm mn 64) k k' (cc k) i j := fun i j hi hj => by
          rw [gtF_v hi hj]
          unfold gtv
          refine gdt_cg (cc k) (fun l hl => ⟨?_, ?_⟩)
          · rw [gzm_no (Or.inl (by omega))]
            exact q6 i l hi hl
          · rw [gzm_no (Or.inl (by omega))]
            exact q6' l j (by omega) hj
        refine bth.gen (th := th) (k := 0) (v := nI mn) (rn' := rn) (mn' := mn + 1) (pn' := pn) (sn' := sn) (row' := row) (S' := S) (MA' := (fun i => if i = mn then some A.1 else MA i)) (PA' := PA) (rr' := (fun i => if i = mn then rr k else rr i)) (cc' := (fun i => if i = mn then cc k' else cc i)) (Cm' := gfl (gzm Cm mn 64) mn (gtv n (2 ^ n ||| p) (gzm Cm mn 64) k k' (cc k)) (cc k') (rr k) 0) (Cp' := Cp) (by decide) hxM (fI.mat ⟨f1, f2, f3, f4, f5, f6, f7, f8, f9, f10⟩ (by omega) f1 ⟨t1, t2, t3', t4'⟩ (gfl_lt (gzm_lt f8 mn 64) (fun a b => gdt_lt hG.2.2.1 (fun i => gzm_lt f8 mn 64 _) _))) hm ho ?_ (fun A1 h1 => ?_)
        · refine bw_C.mono (k9_times g hG (hx.cs.sub [0, 2, 5, 6] (by decide) rfl) rfl q5 q5' t2 t4 t4' hk hk' (by omega) q1 q1' (q4.at 0 rfl) (q4.at 1 rfl) (by rw [hfit]; exact q4'.at 0 rfl) (by rw [hfit]; exact q4'.at 1 rfl) (by omega) (by omega) (by omega) (by omega) (by omega) (by omega)) (fun o A1 h => ?_)
          obtain ⟨y, ho1, hP⟩ := h
          have hy0 := hP.1
          subst hy0
          exact ⟨Or.inl ⟨rfl, ho1⟩, hx.u2 hxM ho rfl f7 hP (fun b hb => by simp at hb; omega) (Or.inl fun b _ _ => hP.2.2.2 b (by have := ho.2; omega) (by simp; omega)) (gtF_lt hG.2.2.1 q5 _ _) (fun i j hi hj => (hgv i j hi hj).trans (gfl_v t2 t4' hi hj).symm) (fun t ht => (gfl_no (Or.inl ht)).trans (gzm_no (Or.inl ht)))⟩
        · obtain ⟨rd, rs, pt, dd, V, T, Rt, Pc, L, hc, hF⟩ := h1
          refine bw_C.mono (m_times g hG (mrC.sb hc [0, 2, 3, 4] rfl) f8 (by omega) hk hk' t2 t4 t4' hfit) (fun o A2 h => ?_)
          obtain ⟨e0, e1, e2, e3, e4, e5, e6, e7, e8, e9, e10, e11, e12, e13, e14, e15, e16, e17, e18⟩ := hc
          obtain ⟨y, hy, ⟨rfl, hs, h6⟩, h7⟩ := h
          exact ⟨_, hy, fun _ => rfl, ⟨rd, rs, pt, dd, V, T, Rt, Pc, L, ⟨h6, (hs.2 _ (by simp [mml])).trans e1, h7.at 0 rfl, h7.at 1 rfl, h7.at 2 rfl, (hs.2 _ (by simp [mml])).trans e5, (hs.2 _ (by simp [mml])).trans e6, (hs.2 _ (by simp [mml])).trans e7, (hs.2 _ (by simp [mml])).trans e8, (hs.2 _ (by simp [mml])).trans e9, e10.fr (hs.2 _ (by simp [mml])), e11.fr (hs.2 _ (by simp [mml])), e12.fr (hs.2 _ (by simp [mml])), e13.fr (hs.2 _ (by simp [mml])), (hs.2 _ (by simp [mml])).trans e14, (hs.2 _ (by simp [mml])).trans e15, e16.fr (hs.2 _ (by simp [mml])), e17.fr (hs.2 _ (by simp [mml])), (hs.2 _ (by simp [mml])).trans e18⟩, hF⟩, fun b hb => hs.2 b (by simp [mml]; omega), hs.1⟩
    · exact bth.pure (k := 2) (v := 0) (by decide) hxM ⟨f1, f2, f3, f4, f5, f6, f7, f8, f9, f10⟩ hx hm ho (Or.inr ⟨by decide, k9_timesY g (hx.cs.sub [0, 2] (by decide) rfl) hk hk' f2 q1 q1' (q4.at 0 rfl) (q4'.at 0 rfl) t4 t2' hfit⟩) (fun A1 rd rs pt dd V T Rt Pc L hc hF => ⟨nI 0, fun h => absurd h (by decide), m_timesY g (mrC.sb hc [0, 2, 3] rfl) f2 hk hk' t4 t2' hfit⟩)
  · exact bth.pure (k := 1) (v := 0) (by decide) hxM ⟨f1, f2, f3, f4, f5, f6, f7, f8, f9, f10⟩ hx hm ho (Or.inr ⟨by decide, k9_timesX g (hx.cs.sub [0, 2] (by decide) rfl) f2 hx.mats hab⟩) (fun A1 rd rs pt dd V T Rt Pc L hc hF => ⟨nI 0, fun h => absurd h (by decide), m_timesX g (bw_has.one hc.1) hab⟩)
set_option maxHeartbeats 1000000 in
theorem b_invert (hG : GFg n p gg) (hxM : x + 57 + 2 * n ≤ M) (h : LI g x M n p gg th A) (a : Int32) : bth g x M n p gg mX9_invert mX10_invert [.int a] [eIO, eIS, eUO] A := by
  obtain ⟨rn, mn, pn, sn, row, S, MA, PA, rr, cc, Cm, Cp, hf, hx, hm, ho⟩ := h
  obtain ⟨f1, f2, f3, f4, f5, f6, f7, f8, f9, f10⟩ := hf
  by_cases ha : kI mn a
  · obtain ⟨k, hk, rfl⟩ := kI_of (by omega) ha
    obtain ⟨am, f, q1, q2, q3, q4, q5, q6⟩ := hx.mat k hk
    obtain ⟨t1, t2, t3, t4⟩ := f7 k hk
    obtain ⟨hh, wd, rk, pp, pv, W, hCe, hRw, hWl⟩ := hx.elC q2 q4 hxM
    have hUl := fun i j => gel_lt (c := cc k) (m := f) q5 hWl (rr k) i j
    have hUv : ∀ i j, i < rr k → j < cc k → gel (cc k) f W (rr k) i j = mcf Cm k i j := fun i j hi hj => (gel_v hi hj).trans (q6 i j hi hj)
    by_cases hsq : rr k = cc k
    · by_cases hm40 : mn = 40
      · subst hm40
        exact bth.pure (k := 3) (v := 0) (by decide) hxM ⟨f1, f2, f3, f4, f5, f6, f7, f8, f9, f10⟩ hx hm ho (Or.inr ⟨by decide, k9_invertZ g (by have := hx.matC q2 q4 hxM; rw [← hsq] at this; exact this) hk rfl q1⟩) (fun A1 rd rs pt dd V T Rt Pc L hc hF => ⟨nI 0, fun h => absurd h (by decide), m_invertZ g (mrC.sb hc [0, 2, 3] rfl) hk hsq⟩)
      · rw [← hsq] at q4 hCe hUl hUv q6 t3 t4
        have hgl := fun i j => gai_lt (wd := rr k) (h := rr k) hG.2.2.1.one hUl (rr k) 0 i j
        have hgv : ∀ i j, i < rr k → j < rr k → gai (gel (rr k) f W (rr k)) (rr k) (rr k) (rr k) 0 i j = mcf Cm k i j := fun i j hi hj => (gai_lo hj).trans (hUv i j hi hj)
        have hdet := gre_det hG.2.2.1 hgl (h := rr k) (wd := rr k + rr k) t2 (by omega) pv
        have hpp := gre_pp (h := rr k) (wd := rr k + rr k) hG.2.2.1 (rr k) 0 _ 0 1 pv (by omega) hgl hG.2.2.1.one (by decide)
        have hall : 2 ^ rr k - 1 < 2 ^ rr k := by have := Nat.two_pow_pos (rr k); omega
        rw [mnv_cg hG.2.2.1 hgv hall] at hdet
        have hrk := (gre_rk (n := n) (q := 2 ^ n ||| p) (h := rr k) (wd := rr k + rr k) (rr k) 0 (gai (gel (rr k) f W (rr k)) (rr k) (rr k) (rr k) 0) 0 1 pv).1
        have hcon := fun A1 (hc0 : ouI g M A1) => k9_invert (A0 := A) g hG (hCe.sub [0, 1, 3, 4, 5, 6, 7, 8, 9] (by decide) rfl) hRw rfl (by have := ho.2; omega) (by omega) q5 hWl hk (by omega) q1 t2 (by omega)
        by_cases hlow : (gre n (2 ^ n ||| p) (rr k) (rr k + rr k) (rr k) 0 (gai (gel (rr k) f W (rr k)) (rr k) (rr k) (rr k) 0) 0 1 pv).2.1 < rr k
        · rw [if_pos hlow] at hdet
          refine bth.gen (th := th) (k := 0) (v := -1) (rn' := rn) (mn' := mn) (pn' := pn) (sn' := sn) (row' := row) (S' := S) (MA' := MA) (PA' := PA) (rr' := rr) (cc' := cc) (Cm' := Cm) (Cp' := Cp) (by decide) hxM ⟨f1, f2, f3, f4, f5, f6, f7, f8, f9, f10⟩ hm ho ?_ (fun A1 h1 => ?_)
          · refine bw_C.mono (hcon A ho) (fun o A1 h => ?_)
            obtain ⟨y, ho1, ⟨-, rfl, hs, hv1, hv2⟩ | ⟨hno, -⟩⟩ := h
            · exact ⟨Or.inl ⟨rfl, ho1⟩, hx.u3 hxM ho (hs.mono (by simp <;> omega)) ((hs.2 _ (by simp [List.mem_range'_1] <;> omega)).trans hx.1) ((hs.2 _ (by simp [List.mem_range'_1] <;> omega)).trans (hx.cs.at 1 rfl)) (eP.of hv1 hv2 (gre_lt hG.2.2.1 _ _ _ _ _ _ hgl))⟩
            · exact absurd hlow hno
          · obtain ⟨rd, rs, pt, dd, V, T, Rt, Pc, L, hc, hF⟩ := h1
            refine bw_C.mono (m_invert g hG (mrC.sb hc [0, 2, 3, 4, 5] rfl) f8 (by omega) hk t2 hsq) (fun o A2 h => ?_)
            obtain ⟨e0, e1, e2, e3, e4, e5, e6, e7, e8, e9, e10, e11, e12, e13, e14, e15, e16, e17, e18⟩ := hc
            obtain ⟨y, hy, hs, ⟨-, rfl, V, h7⟩ | ⟨hno, -⟩⟩ := h
            · exact ⟨_, hy, fun _ => rfl, ⟨rd, rs, pt, dd, V, T, Rt, Pc, L, ⟨h7.at 0 rfl, (hs.2 _ (by simp [mml])).trans e1, h7.at 1 rfl, h7.at 2 rfl, h7.at 3 rfl, h7.at 4 rfl, (hs.2 _ (by simp [mml])).trans e6, (hs.2 _ (by simp [mml])).trans e7, (hs.2 _ (by simp [mml])).trans e8, (hs.2 _ (by simp [mml])).trans e9, e10.fr (hs.2 _ (by simp [mml])), e11.fr (hs.2 _ (by simp [mml])), e12.fr (hs.2 _ (by simp [mml])), e13.fr (hs.2 _ (by simp [mml])), (hs.2 _ (by simp [mml])).trans e14, (hs.2 _ (by simp [mml])).trans e15, e16.fr (hs.2 _ (by simp [mml])), e17.fr (hs.2 _ (by simp [mml])), (hs.2 _ (by simp [mml])).trans e18⟩, hF⟩, fun b hb => hs.2 b (by simp [mml]; omega), hs.1⟩
            · exact absurd hdet hno
        · rw [if_neg hlow] at hdet
          have hinv : ∀ i j, i < rr k → j < rr k → gcp (rr k) (gre n (2 ^ n ||| p) (rr k) (rr k + rr k) (rr k) 0 (gai (gel (rr k) f W (rr k)) (rr k) (rr k) (rr k) 0) 0 1 pv).1 (fun _ => 0) (rr k) (i * rr k + j) = giv hG.2.2.1 (mcf Cm k) (rr k) i j := fun i j hi hj => by
            rw [gcp_v hi hj, gre_inv hG.2.2.1 hgl t2 pv (fun a l ha hl => gai_id ha hl) hlow hi hj]
            unfold giv
            rw [mnv_cg hG.2.2.1 hgv hall, mnv_cg hG.2.2.1 hgv (all_x (rr k) t2 j hj)]
          refine bth.gen (th := th) (k := 0) (v := nI mn) (rn' := rn) (mn' := mn + 1) (pn' := pn) (sn' := sn) (row' := row) (S' := S) (MA' := (fun i => if i = mn then some A.1 else MA i)) (PA' := PA) (rr' := (fun i => if i = mn then rr k else rr i)) (cc' := (fun i => if i = mn then rr k else cc i)) (Cm' := gfl (gzm Cm mn 64) mn (giv hG.2.2.1 (mcf Cm k) (rr k)) (rr k) (rr k) 0) (Cp' := Cp) (by decide) hxM (fI.mat ⟨f1, f2, f3, f4, f5, f6, f7, f8, f9, f10⟩ (by omega) f1 ⟨t1, t2, t1, t2⟩ (gfl_lt (gzm_lt f8 mn 64) (fun a b => hG.2.2.1.lt (ginv_lt hG _)))) hm ho ?_ (fun A1 h1 => ?_)
          · refine bw_C.mono (hcon A ho) (fun o A1 h => ?_)
            obtain ⟨y, ho1, ⟨hno, -⟩ | ⟨-, hP, hv1, hv2⟩⟩ := h
            · exact absurd hno hlow
            · have hy0 := hP.1
              subst hy0
              exact ⟨Or.inl ⟨rfl, ho1⟩, hx.u2 hxM ho rfl f7 hP (fun b hb => by simp [List.mem_range'_1] at hb; omega) (Or.inr (eP.of hv1 hv2 (gre_lt hG.2.2.1 _ _ _ _ _ _ hgl))) (gcp_lt (gre_lt hG.2.2.1 _ _ _ _ _ _ hgl)) (fun i j hi hj => (hinv i j hi hj).trans (gfl_v t2 t2 hi hj).symm) (fun t ht => (gfl_no (Or.inl ht)).trans (gzm_no (Or.inl ht)))⟩
          · obtain ⟨rd, rs, pt, dd, V, T, Rt, Pc, L, hc, hF⟩ := h1
            refine bw_C.mono (m_invert g hG (mrC.sb hc [0, 2, 3, 4, 5] rfl) f8 (by omega) hk t2 hsq) (fun o A2 h => ?_)
            obtain ⟨e0, e1, e2, e3, e4, e5, e6, e7, e8, e9, e10, e11, e12, e13, e14, e15, e16, e17, e18⟩ := hc
            obtain ⟨y, hy, hs, ⟨hno, -⟩ | ⟨-, rfl, V, h7⟩⟩ := h
            · exact absurd (hdet.symm.trans hno) hpp
            · exact ⟨_, hy, fun _ => rfl, ⟨rd, rs, pt, dd, V, T, Rt, Pc, L, ⟨h7.at 0 rfl, (hs.2 _ (by simp [mml])).trans e1, h7.at 1 rfl, h7.at 2 rfl, h7.at 3 rfl, h7.at 4 rfl, (hs.2 _ (by simp [mml])).trans e6, (hs.2 _ (by simp [mml])).trans e7, (hs.2 _ (by simp [mml])).trans e8, (hs.2 _ (by simp [mml])).trans e9, e10.fr (hs.2 _ (by simp [mml])), e11.fr (hs.2 _ (by simp [mml])), e12.fr (hs.2 _ (by simp [mml])), e13.fr (hs.2 _ (by simp [mml])), (hs.2 _ (by simp [mml])).trans e14, (hs.2 _ (by simp [mml])).trans e15, e16.fr (hs.2 _ (by simp [mml])), e17.fr (hs.2 _ (by simp [mml])), (hs.2 _ (by simp [mml])).trans e18⟩, hF⟩, fun b hb => hs.2 b (by simp [mml]; omega), hs.1⟩
    · exact bth.pure (k := 2) (v := 0) (by decide) hxM ⟨f1, f2, f3, f4, f5, f6, f7, f8, f9, f10⟩ hx hm ho (Or.inr ⟨by decide, k9_invertY g (hx.matC q2 q4 hxM) hk f2 q1 t2 t4 hsq⟩) (fun A1 rd rs pt dd V T Rt Pc L hc hF => ⟨nI 0, fun h => absurd h (by decide), m_invertY g (mrC.sb hc [0, 2, 3] rfl) f2 hk t2 t4 hsq⟩)
  · exact bth.pure (k := 1) (v := 0) (by decide) hxM ⟨f1, f2, f3, f4, f5, f6, f7, f8, f9, f10⟩ hx hm ho (Or.inr ⟨by decide, k9_invertX g (hx.cs.sub [0] (by decide) rfl) ha⟩) (fun A1 rd rs pt dd V T Rt Pc L hc hF => ⟨nI 0, fun h => absurd h (by decide), m_invertX g (bw_has.one hc.1) ha⟩)
set_option maxHeartbeats 1000000 in
theorem b_singular (hG : GFg n p gg) (hxM : x + 57 + 2 * n ≤ M) (h : LI g x M n p gg th A) (a : Int32) : bth g x M n p gg mX9_singular mX10_singular [.int a] [eIO] A := by
  obtain ⟨rn, mn, pn, sn, row, S, MA, PA, rr, cc, Cm, Cp, hf, hx, hm, ho⟩ := h
  obtain ⟨f1, f2, f3, f4, f5, f6, f7, f8, f9, f10⟩ := hf
  by_cases ha : kI mn a
  · obtain ⟨k, hk, rfl⟩ := kI_of (by omega) ha
    obtain ⟨am, f, q1, q2, q3, q4, q5, q6⟩ := hx.mat k hk
    obtain ⟨t1, t2, t3, t4⟩ := f7 k hk
    obtain ⟨V0, n1, n2, n3⟩ := hx.2.2.2.2.2.2.2.2.2.1
    have h256 : 2 ^ rr k ≤ 2 ^ 8 := Nat.pow_le_pow_right (by omega) t2
    have hz := (czI_s hG.2.2.1 q5 t4 (V := gv1 V0) rfl (2 ^ rr k) h256).2
    rw [zcr_cg hG.2.2.1 (h := rr k) (A' := mcf Cm k) q6 (2 ^ rr k) (Nat.le_refl _)] at hz
    have hCs := (hx.cs.sub [0, 2] (by decide) rfl).ap ((n1.sub [0] (by decide) rfl).ap ((hx.cs.sub [5, 6] (by decide) rfl).ap ((n1.sub [1] (by decide) rfl).ap q4 (by simp; omega)) (by simp; omega)) (by simp; omega)) (by simp; omega)
    refine bth.gen (th := th) (k := 0) (v := nI (zcr hG.2.2.1 (mcf Cm k) (cc k) (2 ^ rr k))) (rn' := rn) (mn' := mn) (pn' := pn) (sn' := sn) (row' := row) (S' := S) (MA' := MA) (PA' := PA) (rr' := rr) (cc' := cc) (Cm' := Cm) (Cp' := Cp) (by decide) hxM ⟨f1, f2, f3, f4, f5, f6, f7, f8, f9, f10⟩ hm ho ?_ (fun A1 h1 => ?_)
    · refine bw_C.mono (k9_singular g hG hCs n2 (by omega) q5 n3 hk f2 q1 t2 t4) (fun o A1 h => ?_)
      obtain ⟨y, ho1, rfl, hs, hv1, hv2⟩ := h
      exact ⟨Or.inl ⟨rfl, by rw [← hz]; exact ho1⟩, hx.u4 hxM ho hs ⟨_, hv1.sub [0, 3] (by decide) rfl, hv2, gczV_lt hG.2.2.1 q5 (gv1_lt hG.2.2.1.one n3) _⟩⟩
    · obtain ⟨rd, rs, pt, dd, V, T, Rt, Pc, L, hc, hF⟩ := h1
      refine bw_C.mono (m_singular g hG (mrC.sb hc [0, 2, 3, 4, 5] rfl) f8 f2 hk t2 t4) (fun o A2 h => ?_)
      obtain ⟨e0, e1, e2, e3, e4, e5, e6, e7, e8, e9, e10, e11, e12, e13, e14, e15, e16, e17, e18⟩ := hc
      obtain ⟨y, hy, rfl, hs, V, h7⟩ := h
      exact ⟨_, hy, fun _ => rfl, ⟨rd, rs, pt, dd, V, T, Rt, Pc, L, ⟨h7.at 0 rfl, (hs.2 _ (by simp)).trans e1, (hs.2 _ (by simp)).trans e2, (hs.2 _ (by simp)).trans e3, (hs.2 _ (by simp)).trans e4, h7.at 4 rfl, (hs.2 _ (by simp)).trans e6, (hs.2 _ (by simp)).trans e7, (hs.2 _ (by simp)).trans e8, (hs.2 _ (by simp)).trans e9, e10.fr (hs.2 _ (by simp)), e11.fr (hs.2 _ (by simp)), e12.fr (hs.2 _ (by simp)), e13.fr (hs.2 _ (by simp)), (hs.2 _ (by simp)).trans e14, (hs.2 _ (by simp)).trans e15, e16.fr (hs.2 _ (by simp)), e17.fr (hs.2 _ (by simp)), (hs.2 _ (by simp)).trans e18⟩, hF⟩, fun b hb => hs.2 b (by simp; omega), hs.1⟩
  · exact bth.pure (k := 1) (v := 0) (by decide) hxM ⟨f1, f2, f3, f4, f5, f6, f7, f8, f9, f10⟩ hx hm ho (Or.inr ⟨by decide, k9_singularX g (hx.cs.sub [0] (by decide) rfl) ha⟩) (fun A1 rd rs pt dd V T Rt Pc L hc hF => ⟨nI 0, fun h => absurd h (by decide), m_singularX g (bw_has.one hc.1) ha⟩)
set_option maxHeartbeats 1000000 in
theorem b_solve (hG : GFg n p gg) (hxM : x + 57 + 2 * n ≤ M) (h : LI g x M n p gg th A) (a : Int32) : bth g x M n p gg mX9_solve mX10_solve [.int a] [eIO, eIS] A := by
  obtain ⟨rn, mn, pn, sn, row, S, MA, PA, rr, cc, Cm, Cp, hf, hx, hm, ho⟩ := h
  obtain ⟨f1, f2, f3, f4, f5, f6, f7, f8, f9, f10⟩ := hf
  by_cases ha : kI mn a
  · obtain ⟨k, hk, rfl⟩ := kI_of (by omega) ha
    obtain ⟨am, f, q1, q2, q3, q4, q5, q6⟩ := hx.mat k hk
    obtain ⟨t1, t2, t3, t4⟩ := f7 k hk
    obtain ⟨hh, wd, rk, pp, pv, W, hCe, hRw, hWl⟩ := hx.elC q2 q4 hxM
    have hUl := fun i j => gel_lt (c := cc k) (m := f) q5 hWl (rr k) i j
    have hUv : ∀ i j, i < rr k → j < cc k → gel (cc k) f W (rr k) i j = mcf Cm k i j := fun i j hi hj => (gel_v hi hj).trans (q6 i j hi hj)
    by_cases hrn : rn = rr k
    · have hgl := fun i j => gac_lt (wd := cc k) (k := rr k) f5 hUl i j
      have hWf := gre_lt (h := rr k) (wd := cc k + 1) hG.2.2.1 (cc k) 0 (gac (gel (cc k) f W (rr k)) (cc k) row (rr k)) 0 1 pv hgl
      have hcon := k9_solve (A0 := A) g hG (hCe.sub [0, 1, 2, 3, 4, 5, 6, 7, 8, 9] (by decide) rfl) hRw (by omega) q5 f5 hWl hk f2 q1 t2 t4 hrn
      have hrcon := fun (A1 : bw_H) (V T : Nat → Nat) (L : Nat → Option Nat) (rd rs pt : Nat) (hc : bw_has A1 ((M, mdo M n p gg th rn mn pn rd rs pt sn) :: slc g M row rr cc Cm T L)) => m_solve (pv := pv) (U := (gac (gel (cc k) f W (rr k)) (cc k) row (rr k))) g hG hc f2 hk t2 t4 hrn hgl (fun i l hi hl => (gac_lo hl).trans (hUv i l hi hl)) (fun i hi => gac_v hi)
      by_cases hgf : gfr (gre n (2 ^ n ||| p) (rr k) (cc k + 1) (cc k) 0 (gac (gel (cc k) f W (rr k)) (cc k) row (rr k)) 0 1 pv).1 (cc k) (rr k - (gre n (2 ^ n ||| p) (rr k) (cc k + 1) (cc k) 0 (gac (gel (cc k) f W (rr k)) (cc k) row (rr k)) 0 1 pv).2.1) (gre n (2 ^ n ||| p) (rr k) (cc k + 1) (cc k) 0 (gac (gel (cc k) f W (rr k)) (cc k) row (rr k)) 0 1 pv).2.1 = none
      · refine bth.gen (th := th) (k := 0) (v := nI (cc k - (gre n (2 ^ n ||| p) (rr k) (cc k + 1) (cc k) 0 (gac (gel (cc k) f W (rr k)) (cc k) row (rr k)) 0 1 pv).2.1)) (rn' := cc k) (mn' := mn) (pn' := pn) (sn' := sn) (row' := gsr n (2 ^ n ||| p) row (gre n (2 ^ n ||| p) (rr k) (cc k + 1) (cc k) 0 (gac (gel (cc k) f W (rr k)) (cc k) row (rr k)) 0 1 pv).1 (gre n (2 ^ n ||| p) (rr k) (cc k + 1) (cc k) 0 (gac (gel (cc k) f W (rr k)) (cc k) row (rr k)) 0 1 pv).2.2.2 (cc k) (cc k)) (S' := S) (MA' := MA) (PA' := PA) (rr' := rr) (cc' := cc) (Cm' := Cm) (Cp' := Cp) (by decide) hxM ⟨by omega, f2, f3, f4, gsr_lt hWf f5, f6, f7, f8, f9, f10⟩ hm ho ?_ (fun A1 h1 => ?_)
        · refine bw_C.mono hcon (fun o A1 h => ?_)
          obtain ⟨y, ho1, hs, hv1, hv2, ⟨hno, -⟩ | ⟨-, rfl, hC⟩⟩ := h
          · exact absurd hgf hno
          · exact ⟨Or.inl ⟨rfl, ho1⟩, hx.u3 hxM ho hs (hC.at 0 rfl) (hC.at 1 rfl) (eP.of hv1 hv2 hWf)⟩
        · obtain ⟨rd, rs, pt, dd, V, T, Rt, Pc, L, hc, hF⟩ := h1
          refine bw_C.mono (hrcon A1 V T L rd rs pt (mrC.sb hc [0, 1, 2, 3, 4, 6, 7] rfl)) (fun o A2 h => ?_)
          obtain ⟨e0, e1, e2, e3, e4, e5, e6, e7, e8, e9, e10, e11, e12, e13, e14, e15, e16, e17, e18⟩ := hc
          obtain ⟨y, hy, T, L, hs, ⟨hno, -⟩ | ⟨-, rfl, h7⟩⟩ := h
          · exact absurd hgf hno
          · exact ⟨_, hy, fun _ => rfl, ⟨rd, rs, pt, dd, V, T, Rt, Pc, L, ⟨h7.at 0 rfl, h7.at 1 rfl, (hs.2 _ (by simp)).trans e2, (hs.2 _ (by simp)).trans e3, (hs.2 _ (by simp)).trans e4, (hs.2 _ (by simp)).trans e5, h7.at 5 rfl, h7.at 6 rfl, (hs.2 _ (by simp)).trans e8, (hs.2 _ (by simp)).trans e9, e10.fr (hs.2 _ (by simp)), e11.fr (hs.2 _ (by simp)), e12.fr (hs.2 _ (by simp)), e13.fr (hs.2 _ (by simp)), (hs.2 _ (by simp)).trans e14, (hs.2 _ (by simp)).trans e15, e16.fr (hs.2 _ (by simp)), e17.fr (hs.2 _ (by simp)), (hs.2 _ (by simp)).trans e18⟩, hF⟩, fun b hb => hs.2 b (by simp; omega), hs.1⟩
      · refine bth.gen (th := th) (k := 0) (v := -1) (rn' := 0) (mn' := mn) (pn' := pn) (sn' := sn) (row' := row) (S' := S) (MA' := MA) (PA' := PA) (rr' := rr) (cc' := cc) (Cm' := Cm) (Cp' := Cp) (by decide) hxM ⟨by omega, f2, f3, f4, f5, f6, f7, f8, f9, f10⟩ hm ho ?_ (fun A1 h1 => ?_)
        · refine bw_C.mono hcon (fun o A1 h => ?_)
          obtain ⟨y, ho1, hs, hv1, hv2, ⟨-, rfl, hC⟩ | ⟨hno, -⟩⟩ := h
          · exact ⟨Or.inl ⟨rfl, ho1⟩, hx.u3 hxM ho hs (hC.at 0 rfl) (hC.at 1 rfl) (eP.of hv1 hv2 hWf)⟩
          · exact absurd hno hgf
        · obtain ⟨rd, rs, pt, dd, V, T, Rt, Pc, L, hc, hF⟩ := h1
          refine bw_C.mono (hrcon A1 V T L rd rs pt (mrC.sb hc [0, 1, 2, 3, 4, 6, 7] rfl)) (fun o A2 h => ?_)
          obtain ⟨e0, e1, e2, e3, e4, e5, e6, e7, e8, e9, e10, e11, e12, e13, e14, e15, e16, e17, e18⟩ := hc
          obtain ⟨y, hy, T, L, hs, ⟨-, rfl, h7⟩ | ⟨hno, -⟩⟩ := h
          · exact ⟨_, hy, fun _ => rfl, ⟨rd, rs, pt, dd, V, T, Rt, Pc, L, ⟨h7.at 0 rfl, h7.at 1 rfl, (hs.2 _ (by simp)).trans e2, (hs.2 _ (by simp)).trans e3, (hs.2 _ (by simp)).trans e4, (hs.2 _ (by simp)).trans e5, h7.at 5 rfl, h7.at 6 rfl, (hs.2 _ (by simp)).trans e8, (hs.2 _ (by simp)).trans e9, e10.fr (hs.2 _ (by simp)), e11.fr (hs.2 _ (by simp)), e12.fr (hs.2 _ (by simp)), e13.fr (hs.2 _ (by simp)), (hs.2 _ (by simp)).trans e14, (hs.2 _ (by simp)).trans e15, e16.fr (hs.2 _ (by simp)), e17.fr (hs.2 _ (by simp)), (hs.2 _ (by simp)).trans e18⟩, hF⟩, fun b hb => hs.2 b (by simp; omega), hs.1⟩
          · exact absurd hno hgf
    · exact bth.pure (k := 2) (v := 0) (by decide) hxM ⟨f1, f2, f3, f4, f5, f6, f7, f8, f9, f10⟩ hx hm ho (Or.inr ⟨by decide, k9_solveY g ((hx.matC q2 q4 hxM).sub [0, 1, 2] (by decide) rfl) f1 t2 hk f2 q1 hrn⟩) (fun A1 rd rs pt dd V T Rt Pc L hc hF => ⟨nI 0, fun h => absurd h (by decide), m_solveY g (mrC.sb hc [0, 2] rfl) f2 hk f1 t2 hrn⟩)
  · exact bth.pure (k := 1) (v := 0) (by decide) hxM ⟨f1, f2, f3, f4, f5, f6, f7, f8, f9, f10⟩ hx hm ho (Or.inr ⟨by decide, k9_solveX g (hx.cs.sub [0] (by decide) rfl) ha⟩) (fun A1 rd rs pt dd V T Rt Pc L hc hF => ⟨nI 0, fun h => absurd h (by decide), m_solveX g (bw_has.one hc.1) ha⟩)
end CALLS
