/-! class and reference side by side: polynomials that are made -/
theorem gcf_new {f C : Nat → Nat} {p : Nat} (hf : ∀ i, 65 ≤ i → f i = 0) : gcf (gck f C p 65) p = f := by
  funext i
  unfold gcf gck
  by_cases hi : i < 65
  · rw [if_pos hi, if_pos (by omega)]
    exact congrArg f (by omega)
  · rw [if_neg hi, hf i (by omega)]
theorem gcf_old {f C : Nat → Nat} {p k : Nat} (hk : k < p) : gcf (gck f C p 65) k = gcf C k := by
  funext i
  unfold gcf gck
  by_cases hi : i < 65
  · rw [if_pos hi, if_pos hi, if_neg (by omega)]
  · rw [if_neg hi, if_neg hi]
theorem gck_lt {n p k : Nat} {f C : Nat → Nat} (hf : ∀ i, f i < 2 ^ n) (hC : ∀ i, C i < 2 ^ n) (t : Nat) : gck f C p k t < 2 ^ n := by
  unfold gck
  split
  · exact hf _
  · exact hC _
theorem fI.pol {n rn mn pn sn rn' : Nat} {row S rr cc Cm Cp f : Nat → Nat} (h : fI n rn mn pn sn row S rr cc Cm Cp) (hp : pn < 40) (hrn : rn' ≤ 130) (hf : pok n 65 f) : fI n rn' mn (pn + 1) sn row S rr cc Cm (gck f Cp pn 65) := by
  obtain ⟨f1, f2, f3, f4, f5, f6, f7, f8, f9, f10⟩ := h
  exact ⟨hrn, f2, by omega, f4, f5, f6, f7, f8, gck_lt hf.2 f9, f10⟩
theorem mrF.pol {n q pn rd rs pt : Nat} {Cp dd Rt Pc f : Nat → Nat} (h : mrF n q pn rd rs pt Cp dd Rt Pc) (hf : ∀ i, 65 ≤ i → f i = 0) : mrF n q (pn + 1) rd rs pt (gck f Cp pn 65) (fun i => if i = pn then pd f else dd i) Rt Pc := by
  obtain ⟨h1, h2, h3, h4, h5, h6⟩ := h
  refine ⟨fun k hk => ?_, by omega, by omega, fun b hb => ?_, fun b hb => ?_, h6⟩
  · by_cases hkp : k = pn
    · subst hkp
      simp only [if_true]
      rw [gcf_new hf]
    · simp only [if_neg hkp]
      rw [gcf_old (by omega)]
      exact h1 k (by omega)
  · rw [gcf_old (by omega)]
    exact h4 b hb
  · rw [gcf_old (by omega)]
    exact h5 b hb
/-- a polynomial more -/
theorem xI.u6 {g : bw_G} {x M n p gg rn mn pn sn rn' a : Nat} {row S f : Nat → Nat} {MA PA : Nat → Option Nat} {rr cc Cm Cp : Nat → Nat} {L : List Nat} {y : Int32} {A A' : bw_H} (h : xI g x n p gg (M + 20) rn mn pn sn row S MA PA rr cc Cm Cp A) (hxM : x + 57 + 2 * n ≤ M) (ho : ouI g M A) (hz0 : A.1 = a) (hP : kqP g x n rn' mn pn sn a PA f L A y A') (hL : ∀ b ∈ L, b = x ∨ b = x + 7 ∨ b = x + 1 ∨ b = x + 2 ∨ b = x + 3 ∨ b = x + 4 ∨ b = x + 35 ∨ b = x + 36) (h3 : agr (x + 3) (x + 5) A A' ∨ wP g (x + 3) A') (hI : agr (x + 34) (x + 37) A A' ∨ iP g x n A') (hf : pok n 65 f) :
    xI g x n p gg (M + 20) rn' mn (pn + 1) sn row S MA (fun i => if i = pn then some a else PA i) rr cc Cm (gck f Cp pn 65) A' ∧ agr M (M + 20) A A' ∧ A.1 ≤ A'.1 := by
  obtain ⟨-, hz, hC, hff⟩ := hP
  have k : ∀ b, b < A.1 → b ≠ x → b ≠ x + 7 → b ≠ x + 1 → b ≠ x + 2 → b ≠ x + 3 → b ≠ x + 4 → b ≠ x + 35 → b ≠ x + 36 → A'.2 b = A.2 b := fun b h0 h1 h2 h3 h4 h5 h6 h7 h8 => hff b (by omega) (fun hb => by have := hL b hb; omega)
  have hA := ho.2
  have e := h
  obtain ⟨-, -, -, e5, e6, e7, e8, -, -, -, -, -, -, -, eM, ePp⟩ := e
  have kk : ∀ b, b < A.1 → (x + 5 ≤ b ∧ b < x + 7 ∨ x + 8 ≤ b ∧ b < x + 35 ∨ x + 37 ≤ b) → A'.2 b = A.2 b := fun b h0 h1 => k b h0 (by omega) (by omega) (by omega) (by omega) (by omega) (by omega) (by omega) (by omega)
  refine ⟨h.gen (hC.at 0 rfl) (Or.inr ⟨f, pd f, (hf.mono (by omega)).pwk (by omega), hC.sub [2, 3] (by decide) rfl⟩) h3 ((kk _ (by omega) (by omega)).trans e5) ((kk _ (by omega) (by omega)).trans e6) (hC.at 1 rfl) ((kk _ (by omega) (by omega)).trans e8) (fun b _ _ => kk b (by omega) (by omega)) (Or.inl fun b _ _ => kk b (by omega) (by omega)) (Or.inl fun b _ _ => kk b (by omega) (by omega)) (fun b _ _ => kk b (by omega) (by omega)) hI (Or.inl fun b _ _ => kk b (by omega) (by omega)) (Or.inl fun b _ _ => kk b (by omega) (by omega)) (eM.fr (fun b _ _ => kk b (by omega) (by omega)) (by omega)) ?_, fun b _ _ => kk b (by omega) (by omega), by omega⟩
  have eP' := ePp.fr (A' := A') (fun b _ _ => kk b (by omega) (by omega)) (by omega)
  refine ⟨fun j hj => ?_, fun j j' b hj hj' h1 h2 => ?_⟩
  · by_cases hjm : j = pn
    · subst hjm
      refine ⟨a, .null, if_pos rfl, by omega, by omega, ?_, Or.inl rfl⟩
      rw [gcf_new hf.1]
      exact hC.sub [4, 5] (by decide) rfl
    · obtain ⟨b, w, q1, q2, q3, q4, q5⟩ := eP'.1 j (by omega)
      refine ⟨b, w, (if_neg hjm).trans q1, q2, q3, ?_, ?_⟩
      · rw [gcf_old (by omega)]
        exact q4
      · rw [gcf_old (by omega)]
        exact q5
  · have lt : ∀ i, i < pn → PA i = some a → False := fun i hi he => by
      obtain ⟨b, w, q1, q2, q3, -⟩ := ePp.1 i hi
      rw [q1] at he
      cases he
      omega
    simp only at h1 h2
    by_cases hjm : j = pn
    · rw [if_pos hjm] at h1
      cases h1
      by_cases hjm' : j' = pn
      · omega
      · rw [if_neg hjm'] at h2
        exact absurd h2 (fun he => lt j' (by omega) he)
    · rw [if_neg hjm] at h1
      by_cases hjm' : j' = pn
      · rw [if_pos hjm'] at h2
        cases h2
        exact absurd h1 (fun he => lt j (by omega) he)
      · rw [if_neg hjm'] at h2
        exact ePp.2 j j' b (by omega) (by omega) h1 h2
/-- what is worked in, beside the single cells -/
theorem xI.wk {g : bw_G} {x M n p gg rn mn pn sn : Nat} {row S : Nat → Nat} {MA PA : Nat → Option Nat} {rr cc Cm Cp : Nat → Nat} {A : bw_H} (h : xI g x n p gg (M + 20) rn mn pn sn row S MA PA rr cc Cm Cp A) : ∃ (fw fv : Nat → Nat) (mw mv : Nat), pwk 129 fw mw ∧ pwk 129 fv mv ∧ bw_has A ((x, xob x n rn mn pn sn) :: (x + 7, bw_aq g 4 40 PA) :: (pcl g (x + 1) 129 fw mw .null ++ (pcl g (x + 3) 129 fv mv .null ++ [(x + 33, dob (x + 9)), (x + 9, fob n p gg (x + 9)), (x + 9 + 1, bw_ai g (2 ^ n) (gtb n (2 ^ n ||| p) gg)), (x + 5, bw_an g 130 row), (x + 8, bw_an g 64 S)]))) := by
  obtain ⟨-, ⟨fw, mw, w1, w2⟩, ⟨fv, mv, v1, v2⟩, -⟩ := id h
  exact ⟨fw, fv, mw, mv, w1, v1, (h.cs.sub [0, 3] (by decide) rfl).ap (w2.ap (v2.ap (h.cs.sub [7, 5, 6, 1, 4] (by decide) rfl) (by simp <;> omega)) (by simp <;> omega)) (by simp <;> omega)⟩

section CALLS
variable {g : bw_G} {x M n p gg th : Nat} {A : bw_H}
set_option maxHeartbeats 1000000 in
theorem b_polynomial (hG : GFg n p gg) (hxM : x + 57 + 2 * n ≤ M) (h : LI g x M n p gg th A) : bth g x M n p gg mX9_polynomial mX10_polynomial [] [eUO] A := by
  obtain ⟨rn, mn, pn, sn, row, S, MA, PA, rr, cc, Cm, Cp, hf, hx, hm, ho⟩ := h
  obtain ⟨f1, f2, f3, f4, f5, f6, f7, f8, f9, f10⟩ := hf
  obtain ⟨fw, fv, mw, mv, hww, hwv, hCw⟩ := hx.wk
  obtain ⟨hct, hpd⟩ := gcut_tp f5 f1
  by_cases hbad : 65 < gtp row rn ∨ pn = 40
  · refine bth.gen (th := th) (k := 1) (v := 0) (rn' := rn) (mn' := mn) (pn' := pn) (sn' := sn) (row' := row) (S' := S) (MA' := MA) (PA' := PA) (rr' := rr) (cc' := cc) (Cm' := Cm) (Cp' := Cp) (by decide) hxM ⟨f1, f2, f3, f4, f5, f6, f7, f8, f9, f10⟩ hm ho ?_ (fun A1 h1 => ?_)
    · refine bw_C.mono (k9_polynomialX g hG.p16 (hx.cs.sub [0, 1] (by decide) rfl) f5 f1 f3 hbad) (fun o A1 h => ?_)
      obtain ⟨h1, m, hm, rfl⟩ := h
      exact ⟨Or.inr ⟨by decide, h1⟩, hx.fr (fun _ _ _ => rfl) (fun _ _ _ => rfl) hm, fun _ _ _ => rfl, hm⟩
    · obtain ⟨rd, rs, pt, dd, V, T, Rt, Pc, L, hc, hF⟩ := h1
      obtain ⟨u10, u11, u12, u13, u16, u17, z10, z11, z12, z13, z16, z17, hC⟩ := hc.all
      refine bw_C.mono (m_polynomialX g hG.p16 (hC.sub [0, 8, 9, 1, 10] (by decide) rfl) f5 z10 f1 f3 (by rw [hpd]; exact hbad.symm)) (fun o A2 h => ?_)
      obtain ⟨e0, e1, e2, e3, e4, e5, e6, e7, e8, e9, e10, e11, e12, e13, e14, e15, e16, e17, e18⟩ := hc
      obtain ⟨y, hy, ⟨rfl, hs, h6⟩, h7, h8⟩ := h
      exact ⟨_, hy, fun h => absurd h (by decide), ⟨rd, rs, pt, dd, V, T, Rt, Pc, L, ⟨h6, (hs.2 _ (by simp [mpl])).trans e1, (hs.2 _ (by simp [mpl])).trans e2, (hs.2 _ (by simp [mpl])).trans e3, (hs.2 _ (by simp [mpl])).trans e4, (hs.2 _ (by simp [mpl])).trans e5, (hs.2 _ (by simp [mpl])).trans e6, (hs.2 _ (by simp [mpl])).trans e7, h8.at 0 rfl, h8.at 1 rfl, h7, e11.fr (hs.2 _ (by simp [mpl])), e12.fr (hs.2 _ (by simp [mpl])), e13.fr (hs.2 _ (by simp [mpl])), (hs.2 _ (by simp [mpl])).trans e14, (hs.2 _ (by simp [mpl])).trans e15, e16.fr (hs.2 _ (by simp [mpl])), e17.fr (hs.2 _ (by simp [mpl])), (hs.2 _ (by simp [mpl])).trans e18⟩, hF⟩, fun b hb => hs.2 b (by simp [mpl]; omega), hs.1⟩
  · have h65 : gtp row rn ≤ 65 := by omega
    have hfk : pok n 65 (gcut row rn) := by
      rw [← hct]
      exact (gcut_ok f5).mono h65
    refine bth.gen (th := th) (k := 0) (v := nI pn) (rn' := 0) (mn' := mn) (pn' := pn + 1) (sn' := sn) (row' := row) (S' := S) (MA' := MA) (PA' := (fun i => if i = pn then some A.1 else PA i)) (rr' := rr) (cc' := cc) (Cm' := Cm) (Cp' := gck (gcut row rn) Cp pn 65) (by decide) hxM (fI.pol ⟨f1, f2, f3, f4, f5, f6, f7, f8, f9, f10⟩ (by omega) (Nat.zero_le 130) hfk) hm ho ?_ (fun A1 h1 => ?_)
    · refine bw_C.mono (k9_polynomial g hG (hCw.sub [0, 1, 2, 3, 9] (by decide) rfl) hww f5 f1 rfl (by have := ho.2; omega) h65 (by omega)) (fun o A1 h => ?_)
      obtain ⟨y, ho1, hP⟩ := h
      rw [hct] at hP
      have hy0 := hP.1
      subst hy0
      exact ⟨Or.inl ⟨rfl, ho1⟩, hx.u6 hxM ho rfl hP (fun b hb => by simp at hb; omega) (Or.inl fun b _ _ => hP.2.2.2 b (by have := ho.2; omega) (by simp; omega)) (Or.inl fun b _ _ => hP.2.2.2 b (by have := ho.2; omega) (by simp; omega)) hfk⟩
    · obtain ⟨rd, rs, pt, dd, V, T, Rt, Pc, L, hc, hF⟩ := h1
      obtain ⟨u10, u11, u12, u13, u16, u17, z10, z11, z12, z13, z16, z17, hC⟩ := hc.all
      refine bw_C.mono (m_polynomial g hG.p16 (hC.sub [0, 8, 9, 1, 10] (by decide) rfl) f5 z10 f1 (by omega) (by rw [hpd]; exact h65)) (fun o A2 h => ?_)
      obtain ⟨e0, e1, e2, e3, e4, e5, e6, e7, e8, e9, e10, e11, e12, e13, e14, e15, e16, e17, e18⟩ := hc
      obtain ⟨y, hy, rfl, hs, h6, h7, hW⟩ := h
      exact ⟨_, hy, fun _ => rfl, ⟨rd, rs, pt, _, V, T, Rt, Pc, L, ⟨h6, (hs.2 _ (by simp [mpl])).trans e1, (hs.2 _ (by simp [mpl])).trans e2, (hs.2 _ (by simp [mpl])).trans e3, (hs.2 _ (by simp [mpl])).trans e4, (hs.2 _ (by simp [mpl])).trans e5, (hs.2 _ (by simp [mpl])).trans e6, (hs.2 _ (by simp [mpl])).trans e7, h7.at 0 rfl, h7.at 1 rfl, hW (M + 10) (by simp), e11.fr (hs.2 _ (by simp [mpl])), e12.fr (hs.2 _ (by simp [mpl])), e13.fr (hs.2 _ (by simp [mpl])), (hs.2 _ (by simp [mpl])).trans e14, (hs.2 _ (by simp [mpl])).trans e15, e16.fr (hs.2 _ (by simp [mpl])), e17.fr (hs.2 _ (by simp [mpl])), (hs.2 _ (by simp [mpl])).trans e18⟩, hF.pol hfk.1⟩, fun b hb => hs.2 b (by simp [mpl]; omega), hs.1⟩
set_option maxHeartbeats 1000000 in
theorem b_plus (hG : GFg n p gg) (hxM : x + 57 + 2 * n ≤ M) (h : LI g x M n p gg th A) (a b : Int32) : bth g x M n p gg mX9_plus mX10_plus [.int a, .int b] [eIO, eUO] A := by
  obtain ⟨rn, mn, pn, sn, row, S, MA, PA, rr, cc, Cm, Cp, hf, hx, hm, ho⟩ := h
  obtain ⟨f1, f2, f3, f4, f5, f6, f7, f8, f9, f10⟩ := hf
  by_cases hab : kI pn a ∧ kI pn b
  · obtain ⟨k, hk, rfl⟩ := kI_of (by omega) hab.1
    obtain ⟨k', hk', rfl⟩ := kI_of (by omega) hab.2
    obtain ⟨bm, w, q1, q2, q3, q4, q5⟩ := hx.pol k hk
    obtain ⟨bm', w', q1', q2', q3', q4', q5'⟩ := hx.pol k' hk'
    have o1 := gcf_ok f9 k
    have o2 := gcf_ok f9 k'
    obtain ⟨fw, fv, mw, mv, hww, hwv, hCw⟩ := hx.wk
    by_cases hp40 : pn = 40
    · subst hp40
      exact bth.pure (k := 2) (v := 0) (by decide) hxM ⟨f1, f2, f3, f4, f5, f6, f7, f8, f9, f10⟩ hx hm ho (Or.inr ⟨by decide, k9_plusY g (hx.cs.sub [0, 3] (by decide) rfl) hk hk' rfl q1 q1'⟩) (fun A1 rd rs pt dd V T Rt Pc L hc hF => ⟨nI 0, fun h => absurd h (by decide), m_plusY g (bw_has.one hc.1) hk hk'⟩)
    · have hfk := gps_ok hG.2.2.1 o1 o2 hG.2.2.1.one
      refine bth.gen (th := th) (k := 0) (v := nI pn) (rn' := rn) (mn' := mn) (pn' := pn + 1) (sn' := sn) (row' := row) (S' := S) (MA' := MA) (PA' := (fun i => if i = pn then some A.1 else PA i)) (rr' := rr) (cc' := cc) (Cm' := Cm) (Cp' := gck (gps n (2 ^ n ||| p) (gcf Cp k) (gcf Cp k') 1) Cp pn 65) (by decide) hxM (fI.pol ⟨f1, f2, f3, f4, f5, f6, f7, f8, f9, f10⟩ (by omega) f1 hfk) hm ho ?_ (fun A1 h1 => ?_)
      · refine bw_C.mono (k9_plus g hG (hCw.sub [0, 1, 2, 3, 7, 8] (by decide) rfl) hww q4 q4' rfl o1 o2 (by omega) (by omega) q3 q3' hk hk' (by omega) q1 q1') (fun o A1 h => ?_)
        obtain ⟨y, ho1, hP⟩ := h
        have hy0 := hP.1
        subst hy0
        exact ⟨Or.inl ⟨rfl, ho1⟩, hx.u6 hxM ho rfl hP (fun b hb => by simp at hb; omega) (Or.inl fun b _ _ => hP.2.2.2 b (by have := ho.2; omega) (by simp; omega)) (Or.inl fun b _ _ => hP.2.2.2 b (by have := ho.2; omega) (by simp; omega)) hfk⟩
      · obtain ⟨rd, rs, pt, dd, V, T, Rt, Pc, L, hc, hF⟩ := h1
        obtain ⟨u10, u11, u12, u13, u16, u17, z10, z11, z12, z13, z16, z17, hC⟩ := hc.all
        refine bw_C.mono (m_plus g hG (hC.sub [0, 8, 9, 10, 11] (by decide) rfl) f9 z10 z11 (by omega) hk hk') (fun o A2 h => ?_)
        obtain ⟨e0, e1, e2, e3, e4, e5, e6, e7, e8, e9, e10, e11, e12, e13, e14, e15, e16, e17, e18⟩ := hc
        obtain ⟨y, hy, rfl, hs, h6, h7, hW⟩ := h
        exact ⟨_, hy, fun _ => rfl, ⟨rd, rs, pt, _, V, T, Rt, Pc, L, ⟨h6, (hs.2 _ (by simp [mpl])).trans e1, (hs.2 _ (by simp [mpl])).trans e2, (hs.2 _ (by simp [mpl])).trans e3, (hs.2 _ (by simp [mpl])).trans e4, (hs.2 _ (by simp [mpl])).trans e5, (hs.2 _ (by simp [mpl])).trans e6, (hs.2 _ (by simp [mpl])).trans e7, h7.at 0 rfl, h7.at 1 rfl, hW (M + 10) (by simp), hW (M + 11) (by simp), e12.fr (hs.2 _ (by simp [mpl])), e13.fr (hs.2 _ (by simp [mpl])), (hs.2 _ (by simp [mpl])).trans e14, (hs.2 _ (by simp [mpl])).trans e15, e16.fr (hs.2 _ (by simp [mpl])), e17.fr (hs.2 _ (by simp [mpl])), (hs.2 _ (by simp [mpl])).trans e18⟩, hF.pol hfk.1⟩, fun b hb => hs.2 b (by simp [mpl]; omega), hs.1⟩
  · exact bth.pure (k := 1) (v := 0) (by decide) hxM ⟨f1, f2, f3, f4, f5, f6, f7, f8, f9, f10⟩ hx hm ho (Or.inr ⟨by decide, k9_plusX g (hx.cs.sub [0, 3] (by decide) rfl) f3 hx.pols hab⟩) (fun A1 rd rs pt dd V T Rt Pc L hc hF => ⟨nI 0, fun h => absurd h (by decide), m_plusX g (bw_has.one hc.1) hab⟩)
set_option maxHeartbeats 1000000 in
theorem b_multiply (hG : GFg n p gg) (hxM : x + 57 + 2 * n ≤ M) (h : LI g x M n p gg th A) (a b : Int32) : bth g x M n p gg mX9_multiply mX10_multiply [.int a, .int b] [eIO, eUO] A := by
  obtain ⟨rn, mn, pn, sn, row, S, MA, PA, rr, cc, Cm, Cp, hf, hx, hm, ho⟩ := h
  obtain ⟨f1, f2, f3, f4, f5, f6, f7, f8, f9, f10⟩ := hf
  by_cases hab : kI pn a ∧ kI pn b
  · obtain ⟨k, hk, rfl⟩ := kI_of (by omega) hab.1
    obtain ⟨k', hk', rfl⟩ := kI_of (by omega) hab.2
    obtain ⟨bm, w, q1, q2, q3, q4, q5⟩ := hx.pol k hk
    obtain ⟨bm', w', q1', q2', q3', q4', q5'⟩ := hx.pol k' hk'
    have o1 := gcf_ok f9 k
    have o2 := gcf_ok f9 k'
    obtain ⟨fw, fv, mw, mv, hww, hwv, hCw⟩ := hx.wk
    have hpd := gmu_pd hG.2.2.1 o1 o2
    have l1 := o1.le (by omega)
    have l2 := o2.le (by omega)
    by_cases hbad : 66 < pd (gcf Cp k) + pd (gcf Cp k') ∨ pn = 40
    · have hbad2 : pn = 40 ∨ 65 < pd (gmu n (2 ^ n ||| p) (gcf Cp k) (gcf Cp k') 65 65) := by
        rcases hbad with h | h
        · refine Or.inr ?_
          rw [gmu_65 o1 o2, hpd, if_neg (by omega)]
          omega
        · exact Or.inl h
      refine bth.gen (th := th) (k := 2) (v := 0) (rn' := rn) (mn' := mn) (pn' := pn) (sn' := sn) (row' := row) (S' := S) (MA' := MA) (PA' := PA) (rr' := rr) (cc' := cc) (Cm' := Cm) (Cp' := Cp) (by decide) hxM ⟨f1, f2, f3, f4, f5, f6, f7, f8, f9, f10⟩ hm ho ?_ (fun A1 h1 => ?_)
      · refine bw_C.mono (k9_multiplyY g (hx.cs.sub [0, 3] (by decide) rfl) q4 q4' o1 o2 hk hk' f3 q1 q1' hbad) (fun o A1 h => ?_)
        obtain ⟨h1, m, hm, rfl⟩ := h
        exact ⟨Or.inr ⟨by decide, h1⟩, hx.fr (fun _ _ _ => rfl) (fun _ _ _ => rfl) hm, fun _ _ _ => rfl, hm⟩
      · obtain ⟨rd, rs, pt, dd, V, T, Rt, Pc, L, hc, hF⟩ := h1
        obtain ⟨u10, u11, u12, u13, u16, u17, z10, z11, z12, z13, z16, z17, hC⟩ := hc.all
        refine bw_C.mono (m_multiplyY g hG (hC.sub [0, 8, 9, 10, 11, 12] (by decide) rfl) f9 z10 z11 z12 f3 hk hk' hbad2) (fun o A2 h => ?_)
        obtain ⟨e0, e1, e2, e3, e4, e5, e6, e7, e8, e9, e10, e11, e12, e13, e14, e15, e16, e17, e18⟩ := hc
        obtain ⟨y, hy, ⟨rfl, hs, h6⟩, h7, h8⟩ := h
        exact ⟨_, hy, fun h => absurd h (by decide), ⟨rd, rs, pt, dd, V, T, Rt, Pc, L, ⟨h6, (hs.2 _ (by simp [mpl])).trans e1, (hs.2 _ (by simp [mpl])).trans e2, (hs.2 _ (by simp [mpl])).trans e3, (hs.2 _ (by simp [mpl])).trans e4, (hs.2 _ (by simp [mpl])).trans e5, (hs.2 _ (by simp [mpl])).trans e6, (hs.2 _ (by simp [mpl])).trans e7, h8.at 0 rfl, h8.at 1 rfl, h7 (M + 10) (by simp), h7 (M + 11) (by simp), h7 (M + 12) (by simp), e13.fr (hs.2 _ (by simp [mpl])), (hs.2 _ (by simp [mpl])).trans e14, (hs.2 _ (by simp [mpl])).trans e15, e16.fr (hs.2 _ (by simp [mpl])), e17.fr (hs.2 _ (by simp [mpl])), (hs.2 _ (by simp [mpl])).trans e18⟩, hF⟩, fun b hb => hs.2 b (by simp [mpl]; omega), hs.1⟩
    · have h66 : pd (gcf Cp k) + pd (gcf Cp k') ≤ 66 := by omega
      have hfk : pok n 65 (gmu n (2 ^ n ||| p) (gcf Cp k) (gcf Cp k') 65 65) := by
        rw [gmu_65 o1 o2]
        exact ⟨fun i hi => gmu_z _ i (by omega), gmu_lt hG.2.2.1 o1.2 _⟩
      have h65 : pd (gmu n (2 ^ n ||| p) (gcf Cp k) (gcf Cp k') 65 65) ≤ 65 := hfk.le (by omega)
      refine bth.gen (th := th) (k := 0) (v := nI pn) (rn' := rn) (mn' := mn) (pn' := pn + 1) (sn' := sn) (row' := row) (S' := S) (MA' := MA) (PA' := (fun i => if i = pn then some A.1 else PA i)) (rr' := rr) (cc' := cc) (Cm' := Cm) (Cp' := gck (gmu n (2 ^ n ||| p) (gcf Cp k) (gcf Cp k') 65 65) Cp pn 65) (by decide) hxM (fI.pol ⟨f1, f2, f3, f4, f5, f6, f7, f8, f9, f10⟩ (by omega) f1 hfk) hm ho ?_ (fun A1 h1 => ?_)
      · refine bw_C.mono (k9_multiply g hG (hCw.sub [0, 1, 2, 3, 7, 8] (by decide) rfl) hww q4 q4' rfl o1 o2 (by omega) (by omega) q3 q3' hk hk' (by omega) q1 q1' h66) (fun o A1 h => ?_)
        obtain ⟨y, ho1, hP⟩ := h
        rw [← gmu_65 o1 o2] at hP
        have hy0 := hP.1
        subst hy0
        exact ⟨Or.inl ⟨rfl, ho1⟩, hx.u6 hxM ho rfl hP (fun b hb => by simp at hb; omega) (Or.inl fun b _ _ => hP.2.2.2 b (by have := ho.2; omega) (by simp; omega)) (Or.inl fun b _ _ => hP.2.2.2 b (by have := ho.2; omega) (by simp; omega)) hfk⟩
      · obtain ⟨rd, rs, pt, dd, V, T, Rt, Pc, L, hc, hF⟩ := h1
        obtain ⟨u10, u11, u12, u13, u16, u17, z10, z11, z12, z13, z16, z17, hC⟩ := hc.all
        refine bw_C.mono (m_multiply g hG (hC.sub [0, 8, 9, 10, 11, 12] (by decide) rfl) f9 z10 z11 z12 (by omega) hk hk' h65) (fun o A2 h => ?_)
        obtain ⟨e0, e1, e2, e3, e4, e5, e6, e7, e8, e9, e10, e11, e12, e13, e14, e15, e16, e17, e18⟩ := hc
        obtain ⟨y, hy, rfl, hs, h6, h7, hW⟩ := h
        exact ⟨_, hy, fun _ => rfl, ⟨rd, rs, pt, _, V, T, Rt, Pc, L, ⟨h6, (hs.2 _ (by simp [mpl])).trans e1, (hs.2 _ (by simp [mpl])).trans e2, (hs.2 _ (by simp [mpl])).trans e3, (hs.2 _ (by simp [mpl])).trans e4, (hs.2 _ (by simp [mpl])).trans e5, (hs.2 _ (by simp [mpl])).trans e6, (hs.2 _ (by simp [mpl])).trans e7, h7.at 0 rfl, h7.at 1 rfl, hW (M + 10) (by simp), hW (M + 11) (by simp), hW (M + 12) (by simp), e13.fr (hs.2 _ (by simp [mpl])), (hs.2 _ (by simp [mpl])).trans e14, (hs.2 _ (by simp [mpl])).trans e15, e16.fr (hs.2 _ (by simp [mpl])), e17.fr (hs.2 _ (by simp [mpl])), (hs.2 _ (by simp [mpl])).trans e18⟩, hF.pol hfk.1⟩, fun b hb => hs.2 b (by simp [mpl]; omega), hs.1⟩
  · exact bth.pure (k := 1) (v := 0) (by decide) hxM ⟨f1, f2, f3, f4, f5, f6, f7, f8, f9, f10⟩ hx hm ho (Or.inr ⟨by decide, k9_multiplyX g (hx.cs.sub [0, 3] (by decide) rfl) f3 hx.pols hab⟩) (fun A1 rd rs pt dd V T Rt Pc L hc hF => ⟨nI 0, fun h => absurd h (by decide), m_multiplyX g (bw_has.one hc.1) hab⟩)
set_option maxHeartbeats 1000000 in
theorem b_divideR (hG : GFg n p gg) (hxM : x + 57 + 2 * n ≤ M) (h : LI g x M n p gg th A) (a b : Int32) : bth g x M n p gg mX9_divide mX10_divide [.int a, .int b, .int 1] [eIO, eAE, eUO] A := by
  obtain ⟨rn, mn, pn, sn, row, S, MA, PA, rr, cc, Cm, Cp, hf, hx, hm, ho⟩ := h
  obtain ⟨f1, f2, f3, f4, f5, f6, f7, f8, f9, f10⟩ := hf
  by_cases hab : kI pn a ∧ kI pn b
  · obtain ⟨k, hk, rfl⟩ := kI_of (by omega) hab.1
    obtain ⟨k', hk', rfl⟩ := kI_of (by omega) hab.2
    obtain ⟨bm, w, q1, q2, q3, q4, q5⟩ := hx.pol k hk
    obtain ⟨bm', w', q1', q2', q3', q4', q5'⟩ := hx.pol k' hk'
    have o1 := gcf_ok f9 k
    have o2 := gcf_ok f9 k'
    obtain ⟨fw, fv, mw, mv, hww, hwv, hCw⟩ := hx.wk
    by_cases h0 : pd (gcf Cp k') = 0
    · exact bth.pure (k := 2) (v := 0) (by decide) hxM ⟨f1, f2, f3, f4, f5, f6, f7, f8, f9, f10⟩ hx hm ho (Or.inr ⟨by decide, k9_divideY g (hx.cs.sub [0, 3] (by decide) rfl) q4' o2 hk hk' f3 q1 q1' h0⟩) (fun A1 rd rs pt dd V T Rt Pc L hc hF => ⟨nI 0, fun h => absurd h (by decide), m_divideY g (dd := dd) (mrC.sb hc [0, 8] rfl) f3 hk hk' ((hF.1 k' hk').trans h0)⟩)
    · by_cases hp40 : pn = 40
      · subst hp40
        exact bth.pure (k := 3) (v := 0) (by decide) hxM ⟨f1, f2, f3, f4, f5, f6, f7, f8, f9, f10⟩ hx hm ho (Or.inr ⟨by decide, k9_divideZ g (hx.cs.sub [0, 3] (by decide) rfl) q4' o2 hk hk' rfl q1 q1' h0⟩) (fun A1 rd rs pt dd V T Rt Pc L hc hF => ⟨nI 0, fun h => absurd h (by decide), m_divideZ g (dd := dd) (mrC.sb hc [0, 8] rfl) hk hk' (by rw [hF.1 k' hk']; have := o2.le (by omega); omega) (by rw [hF.1 k' hk']; exact h0)⟩)
      · have hfk : pok n 65 (grs n (2 ^ n ||| p) (gcf Cp k) (gcf Cp k')) := (grs_ok hG.2.2.1 o1).mono (by have := o2.le (by omega); omega)
        refine bth.gen (th := th) (k := 0) (v := nI pn) (rn' := rn) (mn' := mn) (pn' := pn + 1) (sn' := sn) (row' := row) (S' := S) (MA' := MA) (PA' := (fun i => if i = pn then some A.1 else PA i)) (rr' := rr) (cc' := cc) (Cm' := Cm) (Cp' := gck (grs n (2 ^ n ||| p) (gcf Cp k) (gcf Cp k')) Cp pn 65) (by decide) hxM (fI.pol ⟨f1, f2, f3, f4, f5, f6, f7, f8, f9, f10⟩ (by omega) f1 hfk) hm ho ?_ (fun A1 h1 => ?_)
        · refine bw_C.mono (k9_divideR g hG (hCw.sub [0, 1, 2, 3, 6, 7, 8] (by decide) rfl) hww q4 q4' rfl o1 o2 (by omega) (by omega) q3 q3' hk hk' (by omega) q1 q1' h0) (fun o A1 h => ?_)
          obtain ⟨y, ho1, hP⟩ := h
          have hy0 := hP.1
          subst hy0
          exact ⟨Or.inl ⟨rfl, ho1⟩, hx.u6 hxM ho rfl hP (fun b hb => by simp at hb; omega) (Or.inl fun b _ _ => hP.2.2.2 b (by have := ho.2; omega) (by simp; omega)) (Or.inl fun b _ _ => hP.2.2.2 b (by have := ho.2; omega) (by simp; omega)) hfk⟩
        · obtain ⟨rd, rs, pt, dd, V, T, Rt, Pc, L, hc, hF⟩ := h1
          obtain ⟨u10, u11, u12, u13, u16, u17, z10, z11, z12, z13, z16, z17, hC⟩ := hc.all
          refine bw_C.mono (m_divideR g hG (hC.sub [0, 8, 9, 10, 11, 12] (by decide) rfl) f9 z10 z11 z12 (by omega) hk hk' (hF.1 k' hk') h0) (fun o A2 h => ?_)
          obtain ⟨e0, e1, e2, e3, e4, e5, e6, e7, e8, e9, e10, e11, e12, e13, e14, e15, e16, e17, e18⟩ := hc
          obtain ⟨y, hy, rfl, hs, h6, h7, hW⟩ := h
          exact ⟨_, hy, fun _ => rfl, ⟨rd, rs, pt, _, V, T, Rt, Pc, L, ⟨h6, (hs.2 _ (by simp [mpl])).trans e1, (hs.2 _ (by simp [mpl])).trans e2, (hs.2 _ (by simp [mpl])).trans e3, (hs.2 _ (by simp [mpl])).trans e4, (hs.2 _ (by simp [mpl])).trans e5, (hs.2 _ (by simp [mpl])).trans e6, (hs.2 _ (by simp [mpl])).trans e7, h7.at 0 rfl, h7.at 1 rfl, hW (M + 10) (by simp), hW (M + 11) (by simp), hW (M + 12) (by simp), e13.fr (hs.2 _ (by simp [mpl])), (hs.2 _ (by simp [mpl])).trans e14, (hs.2 _ (by simp [mpl])).trans e15, e16.fr (hs.2 _ (by simp [mpl])), e17.fr (hs.2 _ (by simp [mpl])), (hs.2 _ (by simp [mpl])).trans e18⟩, hF.pol hfk.1⟩, fun b hb => hs.2 b (by simp [mpl]; omega), hs.1⟩
  · exact bth.pure (k := 1) (v := 0) (by decide) hxM ⟨f1, f2, f3, f4, f5, f6, f7, f8, f9, f10⟩ hx hm ho (Or.inr ⟨by decide, k9_divideX g (hx.cs.sub [0, 3] (by decide) rfl) f3 hx.pols hab⟩) (fun A1 rd rs pt dd V T Rt Pc L hc hF => ⟨nI 0, fun h => absurd h (by decide), m_divideX g (bw_has.one hc.1) hab⟩)
set_option maxHeartbeats 1000000 in
theorem b_divideQ (hG : GFg n p gg) (hxM : x + 57 + 2 * n ≤ M) (h : LI g x M n p gg th A) (a b : Int32) : bth g x M n p gg mX9_divide mX10_divide [.int a, .int b, .int 0] [eIO, eAE, eUO] A := by
  obtain ⟨rn, mn, pn, sn, row, S, MA, PA, rr, cc, Cm, Cp, hf, hx, hm, ho⟩ := h
  obtain ⟨f1, f2, f3, f4, f5, f6, f7, f8, f9, f10⟩ := hf
  by_cases hab : kI pn a ∧ kI pn b
  · obtain ⟨k, hk, rfl⟩ := kI_of (by omega) hab.1
    obtain ⟨k', hk', rfl⟩ := kI_of (by omega) hab.2
    obtain ⟨bm, w, q1, q2, q3, q4, q5⟩ := hx.pol k hk
    obtain ⟨bm', w', q1', q2', q3', q4', q5'⟩ := hx.pol k' hk'
    have o1 := gcf_ok f9 k
    have o2 := gcf_ok f9 k'
    obtain ⟨fw, fv, mw, mv, hww, hwv, hCw⟩ := hx.wk
    by_cases h0 : pd (gcf Cp k') = 0
    · exact bth.pure (k := 2) (v := 0) (by decide) hxM ⟨f1, f2, f3, f4, f5, f6, f7, f8, f9, f10⟩ hx hm ho (Or.inr ⟨by decide, k9_divideY g (hx.cs.sub [0, 3] (by decide) rfl) q4' o2 hk hk' f3 q1 q1' h0⟩) (fun A1 rd rs pt dd V T Rt Pc L hc hF => ⟨nI 0, fun h => absurd h (by decide), m_divideY g (dd := dd) (mrC.sb hc [0, 8] rfl) f3 hk hk' ((hF.1 k' hk').trans h0)⟩)
    · by_cases hp40 : pn = 40
      · subst hp40
        exact bth.pure (k := 3) (v := 0) (by decide) hxM ⟨f1, f2, f3, f4, f5, f6, f7, f8, f9, f10⟩ hx hm ho (Or.inr ⟨by decide, k9_divideZ g (hx.cs.sub [0, 3] (by decide) rfl) q4' o2 hk hk' rfl q1 q1' h0⟩) (fun A1 rd rs pt dd V T Rt Pc L hc hF => ⟨nI 0, fun h => absurd h (by decide), m_divideZ g (dd := dd) (mrC.sb hc [0, 8] rfl) hk hk' (by rw [hF.1 k' hk']; have := o2.le (by omega); omega) (by rw [hF.1 k' hk']; exact h0)⟩)
      · have hfk : pok n 65 (gqu n (2 ^ n ||| p) (gcf Cp k) (gcf Cp k')) := (gqu_ok hG.2.2.1 o1 (by omega)).mono (by omega)
        refine bth.gen (th := th) (k := 0) (v := nI pn) (rn' := rn) (mn' := mn) (pn' := pn + 1) (sn' := sn) (row' := row) (S' := S) (MA' := MA) (PA' := (fun i => if i = pn then some A.1 else PA i)) (rr' := rr) (cc' := cc) (Cm' := Cm) (Cp' := gck (gqu n (2 ^ n ||| p) (gcf Cp k) (gcf Cp k')) Cp pn 65) (by decide) hxM (fI.pol ⟨f1, f2, f3, f4, f5, f6, f7, f8, f9, f10⟩ (by omega) f1 hfk) hm ho ?_ (fun A1 h1 => ?_)
        · refine bw_C.mono (k9_divideQ g hG (hCw.sub [0, 1, 2, 3, 6, 7, 8] (by decide) rfl) hww q4 q4' rfl o1 o2 (by omega) (by omega) q3 q3' hk hk' (by omega) q1 q1' h0) (fun o A1 h => ?_)
          obtain ⟨y, ho1, hP⟩ := h
          have hy0 := hP.1
          subst hy0
          exact ⟨Or.inl ⟨rfl, ho1⟩, hx.u6 hxM ho rfl hP (fun b hb => by simp at hb; omega) (Or.inl fun b _ _ => hP.2.2.2 b (by have := ho.2; omega) (by simp; omega)) (Or.inl fun b _ _ => hP.2.2.2 b (by have := ho.2; omega) (by simp; omega)) hfk⟩
        · obtain ⟨rd, rs, pt, dd, V, T, Rt, Pc, L, hc, hF⟩ := h1
          obtain ⟨u10, u11, u12, u13, u16, u17, z10, z11, z12, z13, z16, z17, hC⟩ := hc.all
          refine bw_C.mono (m_divideQ g hG (hC.sub [0, 8, 9, 10, 11, 12] (by decide) rfl) f9 z10 z11 z12 (by omega) hk hk' (hF.1 k' hk') h0) (fun o A2 h => ?_)
          obtain ⟨e0, e1, e2, e3, e4, e5, e6, e7, e8, e9, e10, e11, e12, e13, e14, e15, e16, e17, e18⟩ := hc
          obtain ⟨y, hy, rfl, hs, h6, h7, hW⟩ := h
          exact ⟨_, hy, fun _ => rfl, ⟨rd, rs, pt, _, V, T, Rt, Pc, L, ⟨h6, (hs.2 _ (by simp [mpl])).trans e1, (hs.2 _ (by simp [mpl])).trans e2, (hs.2 _ (by simp [mpl])).trans e3, (hs.2 _ (by simp [mpl])).trans e4, (hs.2 _ (by simp [mpl])).trans e5, (hs.2 _ (by simp [mpl])).trans e6, (hs.2 _ (by simp [mpl])).trans e7, h7.at 0 rfl, h7.at 1 rfl, hW (M + 10) (by simp), hW (M + 11) (by simp), hW (M + 12) (by simp), e13.fr (hs.2 _ (by simp [mpl])), (hs.2 _ (by simp [mpl])).trans e14, (hs.2 _ (by simp [mpl])).trans e15, e16.fr (hs.2 _ (by simp [mpl])), e17.fr (hs.2 _ (by simp [mpl])), (hs.2 _ (by simp [mpl])).trans e18⟩, hF.pol hfk.1⟩, fun b hb => hs.2 b (by simp [mpl]; omega), hs.1⟩
  · exact bth.pure (k := 1) (v := 0) (by decide) hxM ⟨f1, f2, f3, f4, f5, f6, f7, f8, f9, f10⟩ hx hm ho (Or.inr ⟨by decide, k9_divideX g (hx.cs.sub [0, 3] (by decide) rfl) f3 hx.pols hab⟩) (fun A1 rd rs pt dd V T Rt Pc L hc hF => ⟨nI 0, fun h => absurd h (by decide), m_divideX g (bw_has.one hc.1) hab⟩)
set_option maxHeartbeats 1000000 in
theorem b_common (hG : GFg n p gg) (hxM : x + 57 + 2 * n ≤ M) (h : LI g x M n p gg th A) (a b : Int32) : bth g x M n p gg mX9_common mX10_common [.int a, .int b] [eIO, eUO] A := by
  obtain ⟨rn, mn, pn, sn, row, S, MA, PA, rr, cc, Cm, Cp, hf, hx, hm, ho⟩ := h
  obtain ⟨f1, f2, f3, f4, f5, f6, f7, f8, f9, f10⟩ := hf
  by_cases hab : kI pn a ∧ kI pn b
  · obtain ⟨k, hk, rfl⟩ := kI_of (by omega) hab.1
    obtain ⟨k', hk', rfl⟩ := kI_of (by omega) hab.2
    obtain ⟨bm, w, q1, q2, q3, q4, q5⟩ := hx.pol k hk
    obtain ⟨bm', w', q1', q2', q3', q4', q5'⟩ := hx.pol k' hk'
    have o1 := gcf_ok f9 k
    have o2 := gcf_ok f9 k'
    obtain ⟨fw, fv, mw, mv, hww, hwv, hCw⟩ := hx.wk
    by_cases hp40 : pn = 40
    · subst hp40
      exact bth.pure (k := 2) (v := 0) (by decide) hxM ⟨f1, f2, f3, f4, f5, f6, f7, f8, f9, f10⟩ hx hm ho (Or.inr ⟨by decide, k9_commonY g (hx.cs.sub [0, 3] (by decide) rfl) hk hk' rfl q1 q1'⟩) (fun A1 rd rs pt dd V T Rt Pc L hc hF => ⟨nI 0, fun h => absurd h (by decide), m_commonY g (bw_has.one hc.1) hk hk'⟩)
    · have hfk := ggcd_ok hG.2.2.1 (by omega) o1 o2
      refine bth.gen (th := th) (k := 0) (v := nI pn) (rn' := rn) (mn' := mn) (pn' := pn + 1) (sn' := sn) (row' := row) (S' := S) (MA' := MA) (PA' := (fun i => if i = pn then some A.1 else PA i)) (rr' := rr) (cc' := cc) (Cm' := Cm) (Cp' := gck (ggcd n (2 ^ n ||| p) (gcf Cp k) (gcf Cp k')) Cp pn 65) (by decide) hxM (fI.pol ⟨f1, f2, f3, f4, f5, f6, f7, f8, f9, f10⟩ (by omega) f1 hfk) hm ho ?_ (fun A1 h1 => ?_)
      · refine bw_C.mono (k9_common g hG (hCw.sub [0, 1, 2, 3, 4, 5, 6, 7, 8] (by decide) rfl) hww hwv q4 q4' rfl o1 o2 (by omega) (by omega) q3 q3' hk hk' (by omega) q1 q1') (fun o A1 h => ?_)
        obtain ⟨y, ho1, hP, fb, mb, hb1, hb2⟩ := h
        have hy0 := hP.1
        subst hy0
        exact ⟨Or.inl ⟨rfl, ho1⟩, hx.u6 hxM ho rfl hP (fun b hb => by simp at hb; omega) (Or.inr ⟨fb, mb, hb1, hb2⟩) (Or.inl fun b _ _ => hP.2.2.2 b (by have := ho.2; omega) (by simp; omega)) hfk⟩
      · obtain ⟨rd, rs, pt, dd, V, T, Rt, Pc, L, hc, hF⟩ := h1
        obtain ⟨u10, u11, u12, u13, u16, u17, z10, z11, z12, z13, z16, z17, hC⟩ := hc.all
        refine bw_C.mono (m_common g hG (hC.sub [0, 8, 9, 10, 11, 12, 13] (by decide) rfl) f9 z10 z11 z12 z13 (by omega) hk hk') (fun o A2 h => ?_)
        obtain ⟨e0, e1, e2, e3, e4, e5, e6, e7, e8, e9, e10, e11, e12, e13, e14, e15, e16, e17, e18⟩ := hc
        obtain ⟨y, hy, rfl, hs, h6, h7, hW⟩ := h
        exact ⟨_, hy, fun _ => rfl, ⟨rd, rs, pt, _, V, T, Rt, Pc, L, ⟨h6, (hs.2 _ (by simp [mpl])).trans e1, (hs.2 _ (by simp [mpl])).trans e2, (hs.2 _ (by simp [mpl])).trans e3, (hs.2 _ (by simp [mpl])).trans e4, (hs.2 _ (by simp [mpl])).trans e5, (hs.2 _ (by simp [mpl])).trans e6, (hs.2 _ (by simp [mpl])).trans e7, h7.at 0 rfl, h7.at 1 rfl, hW (M + 10) (by simp), hW (M + 11) (by simp), hW (M + 12) (by simp), hW (M + 13) (by simp), (hs.2 _ (by simp [mpl])).trans e14, (hs.2 _ (by simp [mpl])).trans e15, e16.fr (hs.2 _ (by simp [mpl])), e17.fr (hs.2 _ (by simp [mpl])), (hs.2 _ (by simp [mpl])).trans e18⟩, hF.pol hfk.1⟩, fun b hb => hs.2 b (by simp [mpl]; omega), hs.1⟩
  · exact bth.pure (k := 1) (v := 0) (by decide) hxM ⟨f1, f2, f3, f4, f5, f6, f7, f8, f9, f10⟩ hx hm ho (Or.inr ⟨by decide, k9_commonX g (hx.cs.sub [0, 3] (by decide) rfl) f3 hx.pols hab⟩) (fun A1 rd rs pt dd V T Rt Pc L hc hF => ⟨nI 0, fun h => absurd h (by decide), m_commonX g (bw_has.one hc.1) hab⟩)
theorem hal2_inj {row : Nat → Nat} {rn : Nat} (h : ¬ hal row rn 2) (i j : Nat) (hi : i < rn / 2) (hj : j < rn / 2) (he : row (2 * i) = row (2 * j)) : i = j := by
  apply Classical.byContradiction
  intro hne
  by_cases hlt : j < i
  · exact h ⟨i, j, by omega, hlt, he⟩
  · exact h ⟨j, i, by omega, by omega, he.symm⟩
set_option maxHeartbeats 1000000 in
theorem b_through (hG : GFg n p gg) (hxM : x + 57 + 2 * n ≤ M) (h : LI g x M n p gg th A) : bth g x M n p gg mX9_through mX10_through [] [eIS, eUO] A := by
  obtain ⟨rn, mn, pn, sn, row, S, MA, PA, rr, cc, Cm, Cp, hf, hx, hm, ho⟩ := h
  obtain ⟨f1, f2, f3, f4, f5, f6, f7, f8, f9, f10⟩ := hf
  obtain ⟨fw, fv, mw, mv, hww, hwv, hCw⟩ := hx.wk
  by_cases hgood : rn % 2 = 0 ∧ ¬ hal row rn 2
  · obtain ⟨h2, hal0⟩ := hgood
    by_cases hp40 : pn = 40
    · subst hp40
      exact bth.pure (k := 2) (v := 0) (by decide) hxM ⟨f1, f2, f3, f4, f5, f6, f7, f8, f9, f10⟩ hx hm ho (Or.inr ⟨by decide, k9_throughY g hG.p16 (hx.cs.sub [0, 1] (by decide) rfl) f5 f1 h2 hal0 rfl⟩) (fun A1 rd rs pt dd V T Rt Pc L hc hF => ⟨nI 0, fun h => absurd h (by decide), m_throughY g hG.p16 (mrC.sb hc [0, 1] rfl) f5 f1 h2 hal0⟩)
    · obtain ⟨X0, Y0, hX0, hY0, hCi⟩ := hx.2.2.2.2.2.2.2.2.2.2.2.1
      have hXl := fun i => gup_lt (k := rn / 2) (s := fun i => row (2 * i)) (fun i => f5 _) hX0 i
      have hYl := fun i => gup_lt (k := rn / 2) (s := fun i => row (2 * i + 1)) (fun i => f5 _) hY0 i
      have hthr := gpn_thr hG.2.2.1 (X := fun i => row (2 * i)) (Y := fun i => row (2 * i + 1)) (fun i => f5 _) (fun i => f5 _) hXl hYl (k := rn / 2) (by omega) (hal2_inj hal0) (fun i hi => if_pos hi) (fun i hi => if_pos hi)
      have hfk : pok n 65 (gpn n (2 ^ n ||| p) (fun i => row (2 * i)) (fun i => row (2 * i + 1)) (rn / 2)).1 := (gpn_ok hG.2.2.1 (fun i => f5 _) (rn / 2)).1.mono (by omega)
      refine bth.gen (th := th) (k := 0) (v := nI pn) (rn' := 0) (mn' := mn) (pn' := pn + 1) (sn' := sn) (row' := row) (S' := S) (MA' := MA) (PA' := (fun i => if i = pn then some A.1 else PA i)) (rr' := rr) (cc' := cc) (Cm' := Cm) (Cp' := gck ((gpn n (2 ^ n ||| p) (fun i => row (2 * i)) (fun i => row (2 * i + 1)) (rn / 2)).1) Cp pn 65) (by decide) hxM (fI.pol ⟨f1, f2, f3, f4, f5, f6, f7, f8, f9, f10⟩ (by omega) (Nat.zero_le 130) hfk) hm ho ?_ (fun A1 h1 => ?_)
      · refine bw_C.mono (k9_through g hG ((hCw.sub [0, 1, 9, 2, 3] (by decide) rfl).ap ((hCi.sub [0] (by decide) rfl).ap ((hx.cs.sub [5, 6] (by decide) rfl).ap (hCi.sub [1, 2] (by decide) rfl) (by simp)) (by simp)) (by simp <;> omega)) hww f5 hX0 hY0 rfl (by have := ho.2; omega) f1 h2 hal0 (by omega)) (fun o A1 h => ?_)
        obtain ⟨y, ho1, hP, hQ⟩ := h
        rw [← hthr] at hP
        have hy0 := hP.1
        subst hy0
        exact ⟨Or.inl ⟨rfl, ho1⟩, hx.u6 hxM ho rfl hP (fun b hb => by simp at hb; omega) (Or.inl fun b _ _ => hP.2.2.2 b (by have := ho.2; omega) (by simp; omega)) (Or.inr ⟨_, _, hXl, gdo_lt hG.2.2.1 _ hYl, bw_has.ap (ws := [(x + 34, iob (x + 9) (x + 35) (x + 36))]) (bw_has.one ((hP.2.2.2 _ (by have := ho.2; omega) (by simp)).trans (hCi.at 0 rfl))) hQ (by simp)⟩) hfk⟩
      · obtain ⟨rd, rs, pt, dd, V, T, Rt, Pc, L, hc, hF⟩ := h1
        obtain ⟨u10, u11, u12, u13, u16, u17, z10, z11, z12, z13, z16, z17, hC⟩ := hc.all
        refine bw_C.mono (m_through g hG (hC.sub [0, 8, 9, 1, 10, 11] (by decide) rfl) f5 z10 z11 f1 (by omega) h2 hal0) (fun o A2 h => ?_)
        obtain ⟨e0, e1, e2, e3, e4, e5, e6, e7, e8, e9, e10, e11, e12, e13, e14, e15, e16, e17, e18⟩ := hc
        obtain ⟨y, hy, rfl, hs, h6, h7, hW⟩ := h
        exact ⟨_, hy, fun _ => rfl, ⟨rd, rs, pt, _, V, T, Rt, Pc, L, ⟨h6, (hs.2 _ (by simp [mpl])).trans e1, (hs.2 _ (by simp [mpl])).trans e2, (hs.2 _ (by simp [mpl])).trans e3, (hs.2 _ (by simp [mpl])).trans e4, (hs.2 _ (by simp [mpl])).trans e5, (hs.2 _ (by simp [mpl])).trans e6, (hs.2 _ (by simp [mpl])).trans e7, h7.at 0 rfl, h7.at 1 rfl, hW (M + 10) (by simp), hW (M + 11) (by simp), e12.fr (hs.2 _ (by simp [mpl])), e13.fr (hs.2 _ (by simp [mpl])), (hs.2 _ (by simp [mpl])).trans e14, (hs.2 _ (by simp [mpl])).trans e15, e16.fr (hs.2 _ (by simp [mpl])), e17.fr (hs.2 _ (by simp [mpl])), (hs.2 _ (by simp [mpl])).trans e18⟩, hF.pol hfk.1⟩, fun b hb => hs.2 b (by simp [mpl]; omega), hs.1⟩
  · have hbad : rn % 2 = 1 ∨ hal row rn 2 := by
      by_cases h : hal row rn 2
      · exact Or.inr h
      · refine Or.inl ?_
        have : ¬ rn % 2 = 0 := fun h2 => hgood ⟨h2, h⟩
        omega
    exact bth.pure (k := 1) (v := 0) (by decide) hxM ⟨f1, f2, f3, f4, f5, f6, f7, f8, f9, f10⟩ hx hm ho (Or.inr ⟨by decide, k9_throughX g hG.p16 (hx.cs.sub [0, 1] (by decide) rfl) f5 f1 hbad⟩) (fun A1 rd rs pt dd V T Rt Pc L hc hF => ⟨nI 0, fun h => absurd h (by decide), m_throughX g hG.p16 (mrC.sb hc [0, 1] rfl) f5 f1 hbad⟩)
set_option maxHeartbeats 1000000 in
theorem b_back (hG : GFg n p gg) (hxM : x + 57 + 2 * n ≤ M) (h : LI g x M n p gg th A) : bth g x M n p gg mX9_back mX10_back [] [eIS, eUO] A := by
  obtain ⟨rn, mn, pn, sn, row, S, MA, PA, rr, cc, Cm, Cp, hf, hx, hm, ho⟩ := h
  obtain ⟨f1, f2, f3, f4, f5, f6, f7, f8, f9, f10⟩ := hf
  obtain ⟨fw, fv, mw, mv, hww, hwv, hCw⟩ := hx.wk
  by_cases hgood : sn ≠ 0 ∧ rn = sn
  · obtain ⟨h0, hrn⟩ := hgood
    subst hrn
    by_cases hp40 : pn = 40
    · subst hp40
      exact bth.pure (k := 2) (v := 0) (by decide) hxM ⟨f1, f2, f3, f4, f5, f6, f7, f8, f9, f10⟩ hx hm ho (Or.inr ⟨by decide, k9_backY g (hx.cs.sub [0] (by decide) rfl) f4 h0 rfl rfl⟩) (fun A1 rd rs pt dd V T Rt Pc L hc hF => ⟨nI 0, fun h => absurd h (by decide), m_backY g (bw_has.one hc.1) f4 h0⟩)
    · obtain ⟨X0, Y0, hX0, hY0, hCi⟩ := hx.2.2.2.2.2.2.2.2.2.2.2.1
      have hXl := fun i => gup_lt (k := rn) f6 hX0 i
      have hYl := fun i => gup_lt (k := rn) f5 hY0 i
      have hthr := gpn_thr hG.2.2.1 f6 f5 hXl hYl (k := rn) (by omega) f10 (fun i hi => if_pos hi) (fun i hi => if_pos hi)
      have hfk : pok n 65 (gpn n (2 ^ n ||| p) S row rn).1 := (gpn_ok hG.2.2.1 f5 rn).1.mono (by omega)
      refine bth.gen (th := th) (k := 0) (v := nI pn) (rn' := 0) (mn' := mn) (pn' := pn + 1) (sn' := rn) (row' := row) (S' := S) (MA' := MA) (PA' := (fun i => if i = pn then some A.1 else PA i)) (rr' := rr) (cc' := cc) (Cm' := Cm) (Cp' := gck ((gpn n (2 ^ n ||| p) S row rn).1) Cp pn 65) (by decide) hxM (fI.pol ⟨f1, f2, f3, f4, f5, f6, f7, f8, f9, f10⟩ (by omega) (Nat.zero_le 130) hfk) hm ho ?_ (fun A1 h1 => ?_)
      · refine bw_C.mono (k9_back g hG ((hCw.sub [0, 1, 9, 10, 2, 3] (by decide) rfl).ap ((hCi.sub [0] (by decide) rfl).ap ((hx.cs.sub [5, 6] (by decide) rfl).ap (hCi.sub [1, 2] (by decide) rfl) (by simp)) (by simp)) (by simp <;> omega)) hww f5 f6 hX0 hY0 rfl (by have := ho.2; omega) f4 h0 rfl (by omega)) (fun o A1 h => ?_)
        obtain ⟨y, ho1, hP, hQ⟩ := h
        rw [← hthr] at hP
        have hy0 := hP.1
        subst hy0
        exact ⟨Or.inl ⟨rfl, ho1⟩, hx.u6 hxM ho rfl hP (fun b hb => by simp at hb; omega) (Or.inl fun b _ _ => hP.2.2.2 b (by have := ho.2; omega) (by simp; omega)) (Or.inr ⟨_, _, hXl, gdo_lt hG.2.2.1 _ hYl, bw_has.ap (ws := [(x + 34, iob (x + 9) (x + 35) (x + 36))]) (bw_has.one ((hP.2.2.2 _ (by have := ho.2; omega) (by simp)).trans (hCi.at 0 rfl))) hQ (by simp)⟩) hfk⟩
      · obtain ⟨rd, rs, pt, dd, V, T, Rt, Pc, L, hc, hF⟩ := h1
        obtain ⟨u10, u11, u12, u13, u16, u17, z10, z11, z12, z13, z16, z17, hC⟩ := hc.all
        refine bw_C.mono (m_back g hG (hC.sub [0, 8, 9, 1, 18, 10, 11] (by decide) rfl) f5 f6 z10 z11 f4 h0 (by omega)) (fun o A2 h => ?_)
        obtain ⟨e0, e1, e2, e3, e4, e5, e6, e7, e8, e9, e10, e11, e12, e13, e14, e15, e16, e17, e18⟩ := hc
        obtain ⟨y, hy, rfl, hs, h6, h7, hW⟩ := h
        exact ⟨_, hy, fun _ => rfl, ⟨rd, rs, pt, _, V, T, Rt, Pc, L, ⟨h6, (hs.2 _ (by simp [mpl])).trans e1, (hs.2 _ (by simp [mpl])).trans e2, (hs.2 _ (by simp [mpl])).trans e3, (hs.2 _ (by simp [mpl])).trans e4, (hs.2 _ (by simp [mpl])).trans e5, (hs.2 _ (by simp [mpl])).trans e6, (hs.2 _ (by simp [mpl])).trans e7, h7.at 0 rfl, h7.at 1 rfl, hW (M + 10) (by simp), hW (M + 11) (by simp), e12.fr (hs.2 _ (by simp [mpl])), e13.fr (hs.2 _ (by simp [mpl])), (hs.2 _ (by simp [mpl])).trans e14, (hs.2 _ (by simp [mpl])).trans e15, e16.fr (hs.2 _ (by simp [mpl])), e17.fr (hs.2 _ (by simp [mpl])), (hs.2 _ (by simp [mpl])).trans e18⟩, hF.pol hfk.1⟩, fun b hb => hs.2 b (by simp [mpl]; omega), hs.1⟩
  · have hbad : sn = 0 ∨ rn ≠ sn := by
      by_cases h : sn = 0
      · exact Or.inl h
      · exact Or.inr (fun h2 => hgood ⟨h, h2⟩)
    exact bth.pure (k := 1) (v := 0) (by decide) hxM ⟨f1, f2, f3, f4, f5, f6, f7, f8, f9, f10⟩ hx hm ho (Or.inr ⟨by decide, k9_backX g (hx.cs.sub [0] (by decide) rfl) f4 f1 hbad⟩) (fun A1 rd rs pt dd V T Rt Pc L hc hF => ⟨nI 0, fun h => absurd h (by decide), m_backX g (bw_has.one hc.1) f4 f1 hbad⟩)
end CALLS
