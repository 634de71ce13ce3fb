/-! class and reference side by side: root, often, parts -/
theorem gva_cg {n q : Nat} {S S' : Nat → Nat} {v : Nat} : ∀ j, (∀ i, i < j → S i = S' i) → gva n q S j v = gva n q S' j v
  | 0, _ => rfl
  | j + 1, h => by
    show gm n q (gva n q S j v) (gva n q S j v ^^^ S j) = gm n q (gva n q S' j v) (gva n q S' j v ^^^ S' j)
    rw [gva_cg j (fun i hi => h i (by omega)), h j (by omega)]
theorem gsF_at {n q : Nat} : ∀ k j, j < k → gsF n q k j = gva n q (gsF n q j) j (2 ^ j)
  | 0, _, h => absurd h (Nat.not_lt_zero _)
  | k + 1, j, h => by
    show (if j = k then gva n q (gsF n q k) k (2 ^ k) else gsF n q k j) = _
    by_cases hj : j = k
    · rw [if_pos hj, hj]
    · rw [if_neg hj]
      exact gsF_at k j (by omega)
theorem gsF_s2 {n q : Nat} (j : Nat) (hj : j < n) : gsF n q n j = gva n q (gsF n q n) j (2 ^ j) := by
  rw [gsF_at n j hj]
  exact gva_cg j (fun i hi => (gsF_at j i hi).trans (gsF_at n i (by omega)).symm)
theorem dI_of {d : Int32} (h : ¬ d < nI 1 ∧ d ≤ nI 64) : ∃ k, 1 ≤ k ∧ k ≤ 64 ∧ d = nI k := by
  have h0 : ¬ d < 0 := fun h0 => h.1 (Int32.lt_trans h0 (by decide))
  obtain ⟨k, hk, rfl⟩ := nI_of h0
  exact ⟨k, Nat.not_lt.mp (fun h1 => h.1 (nI_lt (b := 1) h1 (by omega))), (nI_leI (b := 64) hk (by omega)).mp h.2, rfl⟩
/-- the roots' cells alone -/
theorem xI.u7 {g : bw_G} {x M n p gg rn mn pn sn : Nat} {row S : Nat → Nat} {MA PA : Nat → Option Nat} {rr cc Cm Cp : Nat → Nat} {A A' : bw_H} (h : xI g x n p gg (M + 20) rn mn pn sn row S MA PA rr cc Cm Cp A) (hxM : x + 57 + 2 * n ≤ M) (ho : ouI g M A) (hs : bw_sm (rtL (x + 38) (x + 40) (x + 42) (x + 46) n) A A') (hR : rtW g (x + 38) (x + 40) (x + 42) (x + 46) n A') : xI g x n p gg (M + 20) rn mn pn sn row S MA PA rr cc Cm Cp A' ∧ agr M (M + 20) A A' ∧ A.1 ≤ A'.1 := by
  have k : ∀ b, (b < x + 38 ∨ b = x + 44 ∨ b = x + 45 ∨ x + 46 + (2 * n + 2) ≤ b) → A'.2 b = A.2 b := fun b h1 => hs.2 b (by simp [List.mem_range'_1]; omega)
  have eR := h.2.2.2.2.2.2.2.2.2.2.2.2.1
  refine h.fx hxM (Nat.le_of_eq hs.1.symm) (fun b _ hb => k b (by omega)) ho.2 ((k _ (by omega)).trans h.1) (Or.inl fun b _ _ => k b (by omega)) (Or.inl fun b _ _ => k b (by omega)) ((k _ (by omega)).trans h.2.2.2.1) ((k _ (by omega)).trans h.2.2.2.2.2.2.1) (Or.inl fun b _ _ => k b (by omega)) (Or.inl fun b _ _ => k b (by omega)) (Or.inl fun b _ _ => k b (by omega)) (Or.inr ⟨hs_fr eR.1 (fun q hq => ?_), hR⟩) (Or.inl fun b _ _ => k b (by omega))
  simp only [List.mem_cons, List.not_mem_nil, or_false] at hq
  rcases hq with rfl | rfl | rfl
  · exact k _ (Or.inl (by simp only; omega))
  · exact k _ (Or.inr (Or.inl rfl))
  · exact k _ (Or.inr (Or.inr (Or.inl rfl)))
/-- what is worked in alone -/
theorem xI.u8 {g : bw_G} {x M n p gg rn mn pn sn : Nat} {row S : Nat → Nat} {MA PA : Nat → Option Nat} {rr cc Cm Cp : Nat → Nat} {A A' : bw_H} (h : xI g x n p gg (M + 20) rn mn pn sn row S MA PA rr cc Cm Cp A) (hxM : x + 57 + 2 * n ≤ M) (ho : ouI g M A) (hs : bw_sm [x + 1, x + 2] A A') (hw : wP g (x + 1) A') : xI g x n p gg (M + 20) rn mn pn sn row S MA PA rr cc Cm Cp A' ∧ agr M (M + 20) A A' ∧ A.1 ≤ A'.1 := by
  have k : ∀ b, (b < x + 1 ∨ x + 3 ≤ b) → A'.2 b = A.2 b := fun b h1 => hs.2 b (by simp; omega)
  exact h.fx hxM (Nat.le_of_eq hs.1.symm) (fun b _ hb => k b (by omega)) ho.2 ((k _ (by omega)).trans h.1) (Or.inr hw) (Or.inl fun b _ _ => k b (by omega)) ((k _ (by omega)).trans h.2.2.2.1) ((k _ (by omega)).trans h.2.2.2.2.2.2.1) (Or.inl fun b _ _ => k b (by omega)) (Or.inl fun b _ _ => k b (by omega)) (Or.inl fun b _ _ => k b (by omega)) (Or.inl fun b _ _ => k b (by omega)) (Or.inl fun b _ _ => k b (by omega))
/-- counts of parts are remembered -/
theorem xI.u9 {g : bw_G} {x M n p gg rn mn pn sn k bm : Nat} {row S : Nat → Nat} {MA PA : Nat → Option Nat} {rr cc Cm Cp : Nat → Nat} {A A' : bw_H} (h : xI g x n p gg (M + 20) rn mn pn sn row S MA PA rr cc Cm Cp A) (hxM : x + 57 + 2 * n ≤ M) (ho : ouI g M A) (hk : k < pn) (q1 : PA k = some bm) (q2 : M + 20 ≤ bm) (q3 : bm + 1 < A.1) (q4 : bw_has A (ppl g bm 65 (gcf Cp k) .null)) (hz : A'.1 = A.1 + 1) (hC : bw_has A' (ppl g bm 65 (gcf Cp k) (.ref A.1) ++ [(A.1, bw_an g 65 (gcnt n (2 ^ n ||| p) (gcf Cp k)))])) (hW : ktW g (x + 46 + 2 * (n + 1) + 1) (x + 46 + 2 * (n + 1) + 3) (x + 46 + 2 * (n + 1) + 5) (x + 46 + 2 * (n + 1) + 7) A') (hff : bw_ff A.1 (bm :: ktL (x + 46 + 2 * (n + 1) + 1) (x + 46 + 2 * (n + 1) + 3) (x + 46 + 2 * (n + 1) + 5) (x + 46 + 2 * (n + 1) + 7)) A A') :
    xI g x n p gg (M + 20) rn mn pn sn row S MA PA rr cc Cm Cp A' ∧ agr M (M + 20) A A' ∧ A.1 ≤ A'.1 := by
  have hA := ho.2
  have u : ∀ b, b < A.1 → b ≠ bm → (b < x + 46 + 2 * (n + 1) + 1 ∨ x + 46 + 2 * (n + 1) + 9 ≤ b) → A'.2 b = A.2 b := fun b h0 h1 h2 => hff b h0 (by simp; omega)
  have e := h
  obtain ⟨e0, -, -, e5, e6, e7, e8, -, -, -, -, -, -, eK, eM, ePp⟩ := e
  have kind : ∀ b z, A.2 b = some (.inl z) → b ≠ bm := fun b z hb he => by
    rw [he, q4.at 0 rfl] at hb
    cases hb
  refine ⟨h.gen ((u _ (by omega) (by omega) (by omega)).trans e0) (Or.inl fun b _ _ => u b (by omega) (by omega) (by omega)) (Or.inl fun b _ _ => u b (by omega) (by omega) (by omega)) ((u _ (by omega) (by omega) (by omega)).trans e5) ((u _ (by omega) (by omega) (by omega)).trans e6) ((u _ (by omega) (by omega) (by omega)).trans e7) ((u _ (by omega) (by omega) (by omega)).trans e8) (fun b _ _ => u b (by omega) (by omega) (by omega)) (Or.inl fun b _ _ => u b (by omega) (by omega) (by omega)) (Or.inl fun b _ _ => u b (by omega) (by omega) (by omega)) (fun b _ _ => u b (by omega) (by omega) (by omega)) (Or.inl fun b _ _ => u b (by omega) (by omega) (by omega)) (Or.inl fun b _ _ => u b (by omega) (by omega) (by omega)) (Or.inr ⟨(u _ (by omega) (by omega) (by omega)).trans eK.1, hW⟩) ⟨fun k' hk' => ?_, eM.2⟩ ⟨fun k' hk' => ?_, ePp.2⟩, fun b _ _ => u b (by omega) (by omega) (by omega), by omega⟩
  · obtain ⟨a', f', r1, r2, r3, r4, r5, r6⟩ := eM.1 k' hk'
    refine ⟨a', f', r1, r2, by omega, hs_fr r4 (fun q hq => ?_), r5, r6⟩
    simp only [mcl, List.mem_cons, List.not_mem_nil, or_false] at hq
    rcases hq with rfl | rfl
    · refine u _ (by simp only; omega) (fun he => ?_) (by simp only; omega)
      have h1 := r4.at 0 rfl
      rw [show a' = bm from he, q4.at 0 rfl] at h1
      cases h1
    · exact u _ (by simp only; omega) (kind _ _ (r4.at 1 rfl)) (by simp only; omega)
  · by_cases hkk : k' = k
    · subst hkk
      exact ⟨bm, .ref A.1, q1, q2, by omega, hC.sub [0, 1] (by decide) rfl, Or.inr ⟨A.1, rfl, hA, by rw [hz]; exact Nat.lt_succ_self _, hC.at 2 rfl⟩⟩
    · obtain ⟨b, w, r1, r2, r3, r4, r5⟩ := ePp.1 k' hk'
      have hne : b ≠ bm := fun he => hkk (ePp.2 k' k bm hk' hk (by rw [r1, he]) q1)
      refine ⟨b, w, r1, r2, by omega, hs_fr r4 (fun q hq => ?_), ?_⟩
      · simp only [ppl, pcl, List.mem_cons, List.not_mem_nil, or_false] at hq
        rcases hq with rfl | rfl
        · exact u _ (by simp only; omega) hne (by simp only; omega)
        · exact u _ (by simp only; omega) (kind _ _ (r4.at 1 rfl)) (by simp only; omega)
      · rcases r5 with r5 | ⟨wa, s1, s2, s3, s4⟩
        · exact Or.inl r5
        · exact Or.inr ⟨wa, s1, s2, by rw [hz]; exact Nat.lt_succ_of_lt s3, (u wa s3 (kind _ _ s4) (Or.inr (Nat.le_trans (by omega) s2))).trans s4⟩
section CALLS
variable {g : bw_G} {x M n p gg th : Nat} {A : bw_H}
set_option maxHeartbeats 1000000 in
theorem b_root (hG : GFg n p gg) (hxM : x + 57 + 2 * n ≤ M) (h : LI g x M n p gg th A) (a b : Int32) : bth g x M n p gg mX9_root mX10_root [.int a, .int b] [eIO] A := by
  obtain ⟨rn, mn, pn, sn, row, S, MA, PA, rr, cc, Cm, Cp, hf, hx, hm, ho⟩ := h
  obtain ⟨f1, f2, f3, f4, f5, f6, f7, f8, f9, f10⟩ := hf
  by_cases ha : kI pn a
  · obtain ⟨k, hk, rfl⟩ := kI_of (by omega) ha
    obtain ⟨bm, w, q1, q2, q3, q4, q5⟩ := hx.pol k hk
    have o1 := gcf_ok f9 k
    by_cases hb : b < 0
    · exact bth.pure (k := 1) (v := 0) (by decide) hxM ⟨f1, f2, f3, f4, f5, f6, f7, f8, f9, f10⟩ hx hm ho (Or.inr ⟨by decide, k9_rootY g (hx.cs.sub [0, 3] (by decide) rfl) hk f3 q1 hb⟩) (fun A1 rd rs pt dd V T Rt Pc L hc hF => ⟨nI 0, fun h => absurd h (by decide), m_rootX g (bw_has.one hc.1) (fun h => h.2 hb)⟩)
    · obtain ⟨j, hj, rfl⟩ := nI_of hb
      by_cases h0 : pd (gcf Cp k) = 0
      · exact bth.pure (k := 0) (v := if j < 2 ^ n then nI j else -1) (by decide) hxM ⟨f1, f2, f3, f4, f5, f6, f7, f8, f9, f10⟩ hx hm ho (Or.inl ⟨rfl, k9_root0 g hG.p16 (hx.cs.sub [0, 3, 5] (by decide) rfl) q4 o1 h0 hk f3 q1 hj⟩) (fun A1 rd rs pt dd V T Rt Pc L hc hF => ⟨_, fun _ => rfl, m_root0 g (dd := dd) hG.p16 (mrC.sb hc [0, 8] rfl) f3 hk ((hF.1 k hk).trans h0) hj⟩)
      · obtain ⟨hR1, fl, fw, fo, ml, mw, mo, rf, rm, w1, w2, w3, w4, w5, w6⟩ := hx.2.2.2.2.2.2.2.2.2.2.2.2.1
        have hSb := gsF_lt hG.2.2.1 n (Nat.le_refl n)
        have hgr := @grt_eq n (2 ^ n ||| p) hG.2.2.1 _ (@plR (GFt n (2 ^ n ||| p)) (gfR hG.2.2.1)) _ _ _ (gf_pol hG.2.2.1) (gcf Cp k) (gsF n (2 ^ n ||| p) n) o1 h0 hSb gsF_s2 j
        have hCr := ((hR1.sub [0] (by decide) rfl).ap ((hx.cs.sub [7, 5, 6] (by decide) rfl).ap (hR1.sub [1, 2] (by decide) rfl) (by simp)) (by simp)).ap (q4.ap w5 (by simp; omega)) (by simp; omega)
        refine bth.gen (th := th) (k := 0) (v := oI (rtl n (2 ^ n ||| p) (gcf Cp k) (2 ^ n))[j]?) (rn' := rn) (mn' := mn) (pn' := pn) (sn' := sn) (row' := row) (S' := S) (MA' := MA) (PA' := PA) (rr' := rr) (cc' := cc) (Cm' := Cm) (Cp' := Cp) (by decide) hxM ⟨f1, f2, f3, f4, f5, f6, f7, f8, f9, f10⟩ hm ho ?_ (fun A1 h1 => ?_)
        · refine bw_C.mono (k9_root (R := x + 37) (e := rob (x + 9) (x + 33) (x + 44) (x + 45) (x + 38) (x + 40) (x + 42)) g rfl rfl ((hx.cs.sub [0, 3] (by decide) rfl).ap (hR1.sub [0] (by decide) rfl) (by simp)) q4 o1 h0 hk f3 q1 hj (c8_find g hG (by simp; omega) hCr w6 o1 h0 hSb w1 w2 w3 w4 hj)) (fun o A1 h => ?_)
          obtain ⟨y, ho1, rfl, hs, hRt⟩ := h
          exact ⟨Or.inl ⟨rfl, by rw [hgr] at ho1; exact ho1⟩, hx.u7 hxM ho hs hRt⟩
        · obtain ⟨rd, rs, pt, dd, V, T, Rt, Pc, L, hc, hF⟩ := h1
          obtain ⟨u10, u11, u12, u13, u16, u17, z10, z11, z12, z13, z16, z17, hC⟩ := hc.all
          refine bw_C.mono (m_root g hG (dd := dd) (hC.sub [0, 8, 9, 10, 14] (by decide) rfl) f9 z10 f3 hk (Nat.le_trans hF.2.1 f3) (hF.1 k hk) h0 hj hF.2.2.2.1) (fun o A2 h => ?_)
          obtain ⟨e0, e1, e2, e3, e4, e5, e6, e7, e8, e9, e10, e11, e12, e13, e14, e15, e16, e17, e18⟩ := hc
          obtain ⟨y, hy, Rt, ⟨rfl, hs, h6⟩, h7, h8, h9⟩ := h
          exact ⟨_, hy, fun _ => rfl, ⟨k + 1, _, pt, dd, V, T, Rt, Pc, L, ⟨h6, (hs.2 _ (by simp)).trans e1, (hs.2 _ (by simp)).trans e2, (hs.2 _ (by simp)).trans e3, (hs.2 _ (by simp)).trans e4, (hs.2 _ (by simp)).trans e5, (hs.2 _ (by simp)).trans e6, (hs.2 _ (by simp)).trans e7, (hs.2 _ (by simp)).trans e8, (hs.2 _ (by simp)).trans e9, h9, e11.fr (hs.2 _ (by simp)), e12.fr (hs.2 _ (by simp)), e13.fr (hs.2 _ (by simp)), h7, (hs.2 _ (by simp)).trans e15, e16.fr (hs.2 _ (by simp)), e17.fr (hs.2 _ (by simp)), (hs.2 _ (by simp)).trans e18⟩, hF.1, hk, hF.2.2.1, fun b hb => (by have : b = k := (by omega); subst this; exact ⟨rfl, h8⟩), hF.2.2.2.2⟩, fun b hb => hs.2 b (by simp; omega), hs.1⟩
  · exact bth.pure (k := 1) (v := 0) (by decide) hxM ⟨f1, f2, f3, f4, f5, f6, f7, f8, f9, f10⟩ hx hm ho (Or.inr ⟨by decide, k9_rootX g (hx.cs.sub [0] (by decide) rfl) ha⟩) (fun A1 rd rs pt dd V T Rt Pc L hc hF => ⟨nI 0, fun h => absurd h (by decide), m_rootX g (bw_has.one hc.1) (fun h => ha h.1)⟩)
set_option maxHeartbeats 1000000 in
theorem b_often (hG : GFg n p gg) (hxM : x + 57 + 2 * n ≤ M) (h : LI g x M n p gg th A) (a b : Int32) : bth g x M n p gg mX9_often mX10_often [.int a, .int b] [eIO, eIA] A := by
  obtain ⟨rn, mn, pn, sn, row, S, MA, PA, rr, cc, Cm, Cp, hf, hx, hm, ho⟩ := h
  obtain ⟨f1, f2, f3, f4, f5, f6, f7, f8, f9, f10⟩ := hf
  by_cases ha : kI pn a
  · obtain ⟨k, hk, rfl⟩ := kI_of (by omega) ha
    obtain ⟨bm, w, q1, q2, q3, q4, q5⟩ := hx.pol k hk
    have o1 := gcf_ok f9 k
    obtain ⟨fw, fv, mw, mv, hww, hwv, hCw⟩ := hx.wk
    by_cases hb : mI n b
    · obtain ⟨v, hv, rfl⟩ := mI_of hG.p16 hb
      by_cases h0 : pd (gcf Cp k) = 0
      · exact bth.pure (k := 0) (v := -1) (by decide) hxM ⟨f1, f2, f3, f4, f5, f6, f7, f8, f9, f10⟩ hx hm ho (Or.inl ⟨rfl, k9_often0 g hG.p16 (hx.cs.sub [0, 3, 5] (by decide) rfl) q4 h0 hk f3 q1 hv⟩) (fun A1 rd rs pt dd V T Rt Pc L hc hF => ⟨_, fun _ => rfl, m_often0 g (dd := dd) hG.p16 (mrC.sb hc [0, 8] rfl) f3 hk hv ((hF.1 k hk).trans h0)⟩)
      · refine bth.gen (th := th) (k := 0) (v := nI (gof n (2 ^ n ||| p) v (pd (gcf Cp k) - 1) (gcf Cp k) 0)) (rn' := rn) (mn' := mn) (pn' := pn) (sn' := sn) (row' := row) (S' := S) (MA' := MA) (PA' := PA) (rr' := rr) (cc' := cc) (Cm' := Cm) (Cp' := Cp) (by decide) hxM ⟨f1, f2, f3, f4, f5, f6, f7, f8, f9, f10⟩ hm ho ?_ (fun A1 h1 => ?_)
        · refine bw_C.mono (k9_often g hG (hCw.sub [0, 1, 2, 3, 6, 7, 8] (by decide) rfl) hww q4 o1 h0 (by omega) hk f3 q1 hv) (fun o A1 h => ?_)
          obtain ⟨y, ho1, rfl, hs, hwk⟩ := h
          exact ⟨Or.inl ⟨rfl, ho1⟩, hx.u8 hxM ho hs hwk⟩
        · obtain ⟨rd, rs, pt, dd, V, T, Rt, Pc, L, hc, hF⟩ := h1
          obtain ⟨u10, u11, u12, u13, u16, u17, z10, z11, z12, z13, z16, z17, hC⟩ := hc.all
          refine bw_C.mono (m_often g hG (dd := dd) (hC.sub [0, 8, 9, 10, 11, 12] (by decide) rfl) f9 z10 z11 z12 f3 hk hv (hF.1 k hk) h0) (fun o A2 h => ?_)
          obtain ⟨e0, e1, e2, e3, e4, e5, e6, e7, e8, e9, e10, e11, e12, e13, e14, e15, e16, e17, e18⟩ := hc
          obtain ⟨y, hy, ⟨rfl, hs, h6⟩, h7⟩ := h
          exact ⟨_, hy, fun _ => rfl, ⟨rd, rs, pt, dd, V, T, Rt, Pc, L, ⟨h6, (hs.2 _ (by simp)).trans e1, (hs.2 _ (by simp)).trans e2, (hs.2 _ (by simp)).trans e3, (hs.2 _ (by simp)).trans e4, (hs.2 _ (by simp)).trans e5, (hs.2 _ (by simp)).trans e6, (hs.2 _ (by simp)).trans e7, (hs.2 _ (by simp)).trans e8, (hs.2 _ (by simp)).trans e9, h7 (M + 10) (by simp), h7 (M + 11) (by simp), h7 (M + 12) (by simp), e13.fr (hs.2 _ (by simp)), (hs.2 _ (by simp)).trans e14, (hs.2 _ (by simp)).trans e15, e16.fr (hs.2 _ (by simp)), e17.fr (hs.2 _ (by simp)), (hs.2 _ (by simp)).trans e18⟩, hF⟩, fun b hb => hs.2 b (by simp; omega), hs.1⟩
    · exact bth.pure (k := 2) (v := 0) (by decide) hxM ⟨f1, f2, f3, f4, f5, f6, f7, f8, f9, f10⟩ hx hm ho (Or.inr ⟨by decide, k9_oftenY g (hx.cs.sub [0, 3, 5] (by decide) rfl) hk f3 q1 hb⟩) (fun A1 rd rs pt dd V T Rt Pc L hc hF => ⟨nI 0, fun h => absurd h (by decide), m_oftenY g (bw_has.one hc.1) f3 hk hb⟩)
  · exact bth.pure (k := 1) (v := 0) (by decide) hxM ⟨f1, f2, f3, f4, f5, f6, f7, f8, f9, f10⟩ hx hm ho (Or.inr ⟨by decide, k9_oftenX g (hx.cs.sub [0] (by decide) rfl) ha⟩) (fun A1 rd rs pt dd V T Rt Pc L hc hF => ⟨nI 0, fun h => absurd h (by decide), m_oftenX g (bw_has.one hc.1) ha⟩)
set_option maxHeartbeats 1000000 in
theorem b_parts (hG : GFg n p gg) (hxM : x + 57 + 2 * n ≤ M) (h : LI g x M n p gg th A) (a b : Int32) : bth g x M n p gg mX9_parts mX10_parts [.int a, .int b] [eIO, eIA] A := by
  obtain ⟨rn, mn, pn, sn, row, S, MA, PA, rr, cc, Cm, Cp, hf, hx, hm, ho⟩ := h
  obtain ⟨f1, f2, f3, f4, f5, f6, f7, f8, f9, f10⟩ := hf
  by_cases ha : kI pn a
  · obtain ⟨k, hk, rfl⟩ := kI_of (by omega) ha
    obtain ⟨bm, w, q1, q2, q3, q4, q5⟩ := hx.pol k hk
    have o1 := gcf_ok f9 k
    by_cases hb : ¬ b < nI 1 ∧ b ≤ nI 64
    · obtain ⟨d, hd1, hd64, rfl⟩ := dI_of hb
      by_cases h0 : pd (gcf Cp k) = 0
      · exact bth.pure (k := 0) (v := -1) (by decide) hxM ⟨f1, f2, f3, f4, f5, f6, f7, f8, f9, f10⟩ hx hm ho (Or.inl ⟨rfl, k9_parts0 g (hx.cs.sub [0, 3] (by decide) rfl) q4 h0 hk f3 q1 hd1 hd64⟩) (fun A1 rd rs pt dd V T Rt Pc L hc hF => ⟨_, fun _ => rfl, m_parts0 g (dd := dd) (mrC.sb hc [0, 8] rfl) f3 hk ((hF.1 k hk).trans h0) hd1 hd64⟩)
      · have hcnt := gpa_cnt hG.2.2.1 o1 h0
        rcases q5 with rfl | ⟨wa, rfl, s2, s3, s4⟩
        · obtain ⟨hK1, ga, gb, gc, gd, ma, mb, mc, md, v1, v2, v3, v4, v5⟩ := hx.2.2.2.2.2.2.2.2.2.2.2.2.2.1
          have hCk := (hx.cs.sub [0, 3] (by decide) rfl).ap ((bw_has.one hK1).ap ((hx.cs.sub [7, 5, 6] (by decide) rfl).ap (v5.ap q4 (by simp; omega)) (by simp <;> omega)) (by simp <;> omega)) (by simp <;> omega)
          refine bth.gen (th := th) (k := 0) (v := nI (gpa n (2 ^ n ||| p) (gcf Cp k) d)) (rn' := rn) (mn' := mn) (pn' := pn) (sn' := sn) (row' := row) (S' := S) (MA' := MA) (PA' := PA) (rr' := rr) (cc' := cc) (Cm' := Cm) (Cp' := Cp) (by decide) hxM ⟨f1, f2, f3, f4, f5, f6, f7, f8, f9, f10⟩ hm ho ?_ (fun A1 h1 => ?_)
          · refine bw_C.mono (k9_parts g hG rfl hCk v1 v2 v3 v4 rfl q3 (by have := ho.2; omega) o1 h0 hk f3 q1 hd1 hd64) (fun o A1 h => ?_)
            obtain ⟨y, ho1, rfl, hz, hCn, hWn, hff⟩ := h
            exact ⟨Or.inl ⟨rfl, by rw [hcnt] at ho1; exact ho1⟩, hx.u9 hxM ho hk q1 q2 q3 q4 hz hCn hWn hff⟩
          · obtain ⟨rd, rs, pt, dd, V, T, Rt, Pc, L, hc, hF⟩ := h1
            obtain ⟨u10, u11, u12, u13, u16, u17, z10, z11, z12, z13, z16, z17, hC⟩ := hc.all
            have hd0 := (hF.1 k hk)
            by_cases hpt : pt = k + 1
            · subst hpt
              refine bw_C.mono (m_partsC g (dd := dd) (hC.sub [0, 9, 10, 11, 12, 13, 15, 16, 17, 8] (by decide) rfl) z10 z11 z12 z13 z16 z17 f3 hk (by rw [hd0]; have := o1.le (by omega); omega) (by rw [hd0]; exact h0) hd1 hd64) (fun o A2 h => ?_)
              obtain ⟨e0, e1, e2, e3, e4, e5, e6, e7, e8, e9, e10, e11, e12, e13, e14, e15, e16, e17, e18⟩ := hc
              obtain ⟨y, hy, ⟨rfl, hs, h6⟩, h7, h8⟩ := h
              exact ⟨_, hy, fun _ => by rw [hF.2.2.2.2.1 k rfl], ⟨rd, rs, k + 1, dd, V, T, Rt, Pc, L, ⟨h6, (hs.2 _ (by simp [mlL])).trans e1, (hs.2 _ (by simp [mlL])).trans e2, (hs.2 _ (by simp [mlL])).trans e3, (hs.2 _ (by simp [mlL])).trans e4, (hs.2 _ (by simp [mlL])).trans e5, (hs.2 _ (by simp [mlL])).trans e6, (hs.2 _ (by simp [mlL])).trans e7, (hs.2 _ (by simp [mlL])).trans e8, (hs.2 _ (by simp [mlL])).trans e9, h8 (M + 10) (by simp), h8 (M + 11) (by simp), h8 (M + 12) (by simp), h8 (M + 13) (by simp), (hs.2 _ (by simp [mlL])).trans e14, h7, h8 (M + 16) (by simp), h8 (M + 17) (by simp), (hs.2 _ (by simp [mlL])).trans e18⟩, hF⟩, fun b hb => hs.2 b (by simp [mlL]; omega), hs.1⟩
            · refine bw_C.mono (m_partsN g hG (dd := dd) (hC.sub [0, 9, 10, 11, 12, 13, 15, 16, 17, 8] (by decide) rfl) f9 hF.2.2.2.2.2 z10 z11 z12 z13 z16 z17 f3 hk (Nat.le_trans hF.2.2.1 f3) hpt hd0 h0 hd1 hd64) (fun o A2 h => ?_)
              obtain ⟨e0, e1, e2, e3, e4, e5, e6, e7, e8, e9, e10, e11, e12, e13, e14, e15, e16, e17, e18⟩ := hc
              obtain ⟨y, hy, ⟨rfl, hs, h6⟩, h7, h8⟩ := h
              exact ⟨_, hy, fun _ => rfl, ⟨rd, rs, k + 1, dd, V, T, Rt, _, L, ⟨h6, (hs.2 _ (by simp [mlL])).trans e1, (hs.2 _ (by simp [mlL])).trans e2, (hs.2 _ (by simp [mlL])).trans e3, (hs.2 _ (by simp [mlL])).trans e4, (hs.2 _ (by simp [mlL])).trans e5, (hs.2 _ (by simp [mlL])).trans e6, (hs.2 _ (by simp [mlL])).trans e7, (hs.2 _ (by simp [mlL])).trans e8, (hs.2 _ (by simp [mlL])).trans e9, h8 (M + 10) (by simp), h8 (M + 11) (by simp), h8 (M + 12) (by simp), h8 (M + 13) (by simp), (hs.2 _ (by simp [mlL])).trans e14, h7, h8 (M + 16) (by simp), h8 (M + 17) (by simp), (hs.2 _ (by simp [mlL])).trans e18⟩, hF.1, hF.2.1, hk, hF.2.2.2.1, fun b hb => (by have : b = k := (by omega); subst this; rfl), fun i hi => gpa_hi i hi⟩, fun b hb => hs.2 b (by simp [mlL]; omega), hs.1⟩
        · refine bth.gen (th := th) (k := 0) (v := nI (gpa n (2 ^ n ||| p) (gcf Cp k) d)) (rn' := rn) (mn' := mn) (pn' := pn) (sn' := sn) (row' := row) (S' := S) (MA' := MA) (PA' := PA) (rr' := rr) (cc' := cc) (Cm' := Cm) (Cp' := Cp) (by decide) hxM ⟨f1, f2, f3, f4, f5, f6, f7, f8, f9, f10⟩ hm ho ?_ (fun A1 h1 => ?_)
          · refine bw_C.mono (k9_partsC g (hx.cs.sub [0, 3] (by decide) rfl) q4 s4 o1 h0 hk f3 q1 hd1 hd64) (fun o A1 h => ?_)
            obtain ⟨h1, rfl⟩ := h
            exact ⟨Or.inl ⟨rfl, by rw [hcnt] at h1; exact h1⟩, hx, fun _ _ _ => rfl, Nat.le_refl _⟩
          · obtain ⟨rd, rs, pt, dd, V, T, Rt, Pc, L, hc, hF⟩ := h1
            obtain ⟨u10, u11, u12, u13, u16, u17, z10, z11, z12, z13, z16, z17, hC⟩ := hc.all
            have hd0 := (hF.1 k hk)
            by_cases hpt : pt = k + 1
            · subst hpt
              refine bw_C.mono (m_partsC g (dd := dd) (hC.sub [0, 9, 10, 11, 12, 13, 15, 16, 17, 8] (by decide) rfl) z10 z11 z12 z13 z16 z17 f3 hk (by rw [hd0]; have := o1.le (by omega); omega) (by rw [hd0]; exact h0) hd1 hd64) (fun o A2 h => ?_)
              obtain ⟨e0, e1, e2, e3, e4, e5, e6, e7, e8, e9, e10, e11, e12, e13, e14, e15, e16, e17, e18⟩ := hc
              obtain ⟨y, hy, ⟨rfl, hs, h6⟩, h7, h8⟩ := h
              exact ⟨_, hy, fun _ => by rw [hF.2.2.2.2.1 k rfl], ⟨rd, rs, k + 1, dd, V, T, Rt, Pc, L, ⟨h6, (hs.2 _ (by simp [mlL])).trans e1, (hs.2 _ (by simp [mlL])).trans e2, (hs.2 _ (by simp [mlL])).trans e3, (hs.2 _ (by simp [mlL])).trans e4, (hs.2 _ (by simp [mlL])).trans e5, (hs.2 _ (by simp [mlL])).trans e6, (hs.2 _ (by simp [mlL])).trans e7, (hs.2 _ (by simp [mlL])).trans e8, (hs.2 _ (by simp [mlL])).trans e9, h8 (M + 10) (by simp), h8 (M + 11) (by simp), h8 (M + 12) (by simp), h8 (M + 13) (by simp), (hs.2 _ (by simp [mlL])).trans e14, h7, h8 (M + 16) (by simp), h8 (M + 17) (by simp), (hs.2 _ (by simp [mlL])).trans e18⟩, hF⟩, fun b hb => hs.2 b (by simp [mlL]; omega), hs.1⟩
            · refine bw_C.mono (m_partsN g hG (dd := dd) (hC.sub [0, 9, 10, 11, 12, 13, 15, 16, 17, 8] (by decide) rfl) f9 hF.2.2.2.2.2 z10 z11 z12 z13 z16 z17 f3 hk (Nat.le_trans hF.2.2.1 f3) hpt hd0 h0 hd1 hd64) (fun o A2 h => ?_)
              obtain ⟨e0, e1, e2, e3, e4, e5, e6, e7, e8, e9, e10, e11, e12, e13, e14, e15, e16, e17, e18⟩ := hc
              obtain ⟨y, hy, ⟨rfl, hs, h6⟩, h7, h8⟩ := h
              exact ⟨_, hy, fun _ => rfl, ⟨rd, rs, k + 1, dd, V, T, Rt, _, L, ⟨h6, (hs.2 _ (by simp [mlL])).trans e1, (hs.2 _ (by simp [mlL])).trans e2, (hs.2 _ (by simp [mlL])).trans e3, (hs.2 _ (by simp [mlL])).trans e4, (hs.2 _ (by simp [mlL])).trans e5, (hs.2 _ (by simp [mlL])).trans e6, (hs.2 _ (by simp [mlL])).trans e7, (hs.2 _ (by simp [mlL])).trans e8, (hs.2 _ (by simp [mlL])).trans e9, h8 (M + 10) (by simp), h8 (M + 11) (by simp), h8 (M + 12) (by simp), h8 (M + 13) (by simp), (hs.2 _ (by simp [mlL])).trans e14, h7, h8 (M + 16) (by simp), h8 (M + 17) (by simp), (hs.2 _ (by simp [mlL])).trans e18⟩, hF.1, hF.2.1, hk, hF.2.2.2.1, fun b hb => (by have : b = k := (by omega); subst this; rfl), fun i hi => gpa_hi i hi⟩, fun b hb => hs.2 b (by simp [mlL]; omega), hs.1⟩
    · exact bth.pure (k := 2) (v := 0) (by decide) hxM ⟨f1, f2, f3, f4, f5, f6, f7, f8, f9, f10⟩ hx hm ho (Or.inr ⟨by decide, k9_partsY g (hx.cs.sub [0, 3] (by decide) rfl) hk f3 q1 hb⟩) (fun A1 rd rs pt dd V T Rt Pc L hc hF => ⟨nI 0, fun h => absurd h (by decide), m_partsY g (bw_has.one hc.1) f3 hk hb⟩)
  · exact bth.pure (k := 1) (v := 0) (by decide) hxM ⟨f1, f2, f3, f4, f5, f6, f7, f8, f9, f10⟩ hx hm ho (Or.inr ⟨by decide, k9_partsX g (hx.cs.sub [0] (by decide) rfl) ha⟩) (fun A1 rd rs pt dd V T Rt Pc L hc hF => ⟨nI 0, fun h => absurd h (by decide), m_partsX g (bw_has.one hc.1) ha⟩)
end CALLS
