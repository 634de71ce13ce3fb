/-! class and reference side by side: the row, the span, matrices -/
/-- nothing that is kept has changed -/
theorem xI.fx {g : bw_G} {x M n p gg rn mn pn sn rn' sn' : Nat} {row S row' S' : Nat → Nat} {MA PA : Nat → Option Nat} {rr cc Cm Cp : Nat → Nat} {A A' : bw_H} (h : xI g x n p gg (M + 20) rn mn pn sn row S MA PA rr cc Cm Cp A) (hxM : x + 57 + 2 * n ≤ M) (hz : A.1 ≤ A'.1) (hO : ∀ b, b < A.1 → b = x + 6 ∨ b = x + 7 ∨ b = x + 9 ∨ b = x + 10 ∨ b = x + 33 ∨ M ≤ b → A'.2 b = A.2 b) (hA : M + 20 ≤ A.1)
    (h0 : A'.2 x = some (xob x n rn' mn pn sn')) (h1 : agr (x + 1) (x + 3) A A' ∨ wP g (x + 1) A') (h3 : agr (x + 3) (x + 5) A A' ∨ wP g (x + 3) A') (h5 : A'.2 (x + 5) = some (bw_an g 130 row')) (h8 : A'.2 (x + 8) = some (bw_an g 64 S')) (hE : agr (x + 11) (x + 22) A A' ∨ eP g x n A') (hN : agr (x + 22) (x + 33) A A' ∨ nP g x n A') (hI : agr (x + 34) (x + 37) A A' ∨ iP g x n A') (hR : agr (x + 37) (x + 46 + 2 * (n + 1)) A A' ∨ rP g x n p A') (hK : agr (x + 46 + 2 * (n + 1)) (x + 46 + 2 * (n + 1) + 9) A A' ∨ kP g (x + 46 + 2 * (n + 1)) x A') :
    xI g x n p gg (M + 20) rn' mn pn sn' row' S' MA PA rr cc Cm Cp A' ∧ agr M (M + 20) A A' ∧ A.1 ≤ A'.1 := by
  have e := h
  obtain ⟨-, -, -, -, e6, e7, -, -, -, -, -, -, -, -, eM, ePp⟩ := e
  exact ⟨h.gen h0 h1 h3 h5 ((hO _ (by omega) (by omega)).trans e6) ((hO _ (by omega) (by omega)).trans e7) h8 (fun b _ _ => hO b (by omega) (by omega)) hE hN (fun b _ _ => hO b (by omega) (by omega)) hI hR hK (eM.fr (fun b _ _ => hO b (by omega) (by omega)) hz) (ePp.fr (fun b _ _ => hO b (by omega) (by omega)) hz), fun b _ _ => hO b (by omega) (by omega), hz⟩
/-- only the object, the row and the span -/
theorem xI.u1 {g : bw_G} {x M n p gg rn mn pn sn rn' sn' : Nat} {row S row' S' : Nat → Nat} {MA PA : Nat → Option Nat} {rr cc Cm Cp : Nat → Nat} {A A' : bw_H} (h : xI g x n p gg (M + 20) rn mn pn sn row S MA PA rr cc Cm Cp A) (hxM : x + 57 + 2 * n ≤ M) (ho : ouI g M A) (hs : bw_sm [x, x + 5, x + 8] A A') (h0 : A'.2 x = some (xob x n rn' mn pn sn')) (h5 : A'.2 (x + 5) = some (bw_an g 130 row')) (h8 : A'.2 (x + 8) = some (bw_an g 64 S')) : xI g x n p gg (M + 20) rn' mn pn sn' row' S' MA PA rr cc Cm Cp A' ∧ agr M (M + 20) A A' ∧ A.1 ≤ A'.1 := by
  have k : ∀ b, b ≠ x → b ≠ x + 5 → b ≠ x + 8 → A'.2 b = A.2 b := fun b h1 h2 h3 => hs.2 b (by simp; omega)
  exact h.fx hxM (Nat.le_of_eq hs.1.symm) (fun b _ hb => k b (by omega) (by omega) (by omega)) ho.2 h0 (Or.inl fun b _ _ => k b (by omega) (by omega) (by omega)) (Or.inl fun b _ _ => k b (by omega) (by omega) (by omega)) h5 h8 (Or.inl fun b _ _ => k b (by omega) (by omega) (by omega)) (Or.inl fun b _ _ => k b (by omega) (by omega) (by omega)) (Or.inl fun b _ _ => k b (by omega) (by omega) (by omega)) (Or.inl fun b _ _ => k b (by omega) (by omega) (by omega)) (Or.inl fun b _ _ => k b (by omega) (by omega) (by omega))
theorem bw_sm.mono {L L' : List Nat} {A A' : bw_H} (h : bw_sm L A A') (hs : ∀ b ∈ L, b ∈ L') : bw_sm L' A A' := ⟨h.1, fun b hb => h.2 b (fun hb' => hb (hs b hb'))⟩
/-- the elimination, the object and the row -/
theorem xI.u3 {g : bw_G} {x M n p gg rn mn pn sn rn' : Nat} {row S row' : Nat → Nat} {MA PA : Nat → Option Nat} {rr cc Cm Cp : Nat → Nat} {A A' : bw_H} (h : xI g x n p gg (M + 20) rn mn pn sn row S MA PA rr cc Cm Cp A) (hxM : x + 57 + 2 * n ≤ M) (ho : ouI g M A) (hs : bw_sm (x :: (x + 5) :: elL (x + 11) (x + 12) (x + 21)) A A') (h0 : A'.2 x = some (xob x n rn' mn pn sn)) (h5 : A'.2 (x + 5) = some (bw_an g 130 row')) (hE : eP g x n A') : xI g x n p gg (M + 20) rn' mn pn sn row' S MA PA rr cc Cm Cp A' ∧ agr M (M + 20) A A' ∧ A.1 ≤ A'.1 := by
  have k : ∀ b, b ≠ x → b ≠ x + 5 → (b < x + 11 ∨ x + 22 ≤ b) → A'.2 b = A.2 b := fun b h1 h2 h3 => hs.2 b (by simp [List.mem_range'_1]; omega)
  have e8 := h.2.2.2.2.2.2.1
  exact h.fx hxM (Nat.le_of_eq hs.1.symm) (fun b _ hb => k b (by omega) (by omega) (by omega)) ho.2 h0 (Or.inl fun b _ _ => k b (by omega) (by omega) (by omega)) (Or.inl fun b _ _ => k b (by omega) (by omega) (by omega)) h5 ((k _ (by omega) (by omega) (by omega)).trans e8) (Or.inr hE) (Or.inl fun b _ _ => k b (by omega) (by omega) (by omega)) (Or.inl fun b _ _ => k b (by omega) (by omega) (by omega)) (Or.inl fun b _ _ => k b (by omega) (by omega) (by omega)) (Or.inl fun b _ _ => k b (by omega) (by omega) (by omega))
theorem eP.of {g : bw_G} {x n p gg h wd rk pp : Nat} {pv : Nat → Option Nat} {W : Nat → Nat → Nat} {A : bw_H} (h1 : bw_has A (evl g n p gg (x + 11) (x + 9) (x + 12) (x + 21) h wd rk pp pv)) (h2 : bw_rw g A (x + 12 + 1) 8 16 W) (h3 : ∀ i j, W i j < 2 ^ n) : eP g x n A := ⟨h, wd, rk, pp, pv, W, h1.sub [0, 3, 4] (by decide) rfl, h2, h3⟩
/-- a matrix more -/
theorem xI.u2 {g : bw_G} {x M n p gg rn mn pn sn rn' r c a : Nat} {row S f Cm' : Nat → Nat} {MA PA : Nat → Option Nat} {rr cc Cm Cp : Nat → Nat} {L : List Nat} {y : Int32} {A A' : bw_H} (h : xI g x n p gg (M + 20) rn mn pn sn row S MA PA rr cc Cm Cp A) (hxM : x + 57 + 2 * n ≤ M) (ho : ouI g M A) (hz0 : A.1 = a) (hsz : ∀ k, k < mn → 1 ≤ rr k ∧ rr k ≤ 8 ∧ 1 ≤ cc k ∧ cc k ≤ 8) (hP : maP g x n rn' mn pn sn a r c MA f L A y A') (hL : ∀ b ∈ L, b = x ∨ b = x + 6 ∨ (x + 11 ≤ b ∧ b < x + 22)) (hE : agr (x + 11) (x + 22) A A' ∨ eP g x n A') (hfl : ∀ t, f t < 2 ^ n) (hv : ∀ i j, i < r → j < c → f (i * c + j) = Cm' (64 * mn + 8 * i + j)) (hold : ∀ t, t < 64 * mn → Cm' t = Cm t) :
    xI g x n p gg (M + 20) rn' (mn + 1) pn sn row S (fun i => if i = mn then some a else MA i) PA (fun i => if i = mn then r else rr i) (fun i => if i = mn then c else cc i) Cm' Cp A' ∧ agr M (M + 20) A A' ∧ A.1 ≤ A'.1 := by
  obtain ⟨-, hz, hC, hff⟩ := hP
  have k : ∀ b, b < A.1 → b ≠ x → b ≠ x + 6 → (b < x + 11 ∨ x + 22 ≤ b) → A'.2 b = A.2 b := fun b h0 h1 h2 h3 => hff b (by omega) (fun hb => by have := hL b hb; omega)
  have hA := ho.2
  have e := h
  obtain ⟨-, -, -, e5, e6, e7, e8, -, -, -, -, -, -, -, eM, ePp⟩ := e
  refine ⟨h.gen (hC.at 0 rfl) (Or.inl fun b _ _ => k b (by omega) (by omega) (by omega) (by omega)) (Or.inl fun b _ _ => k b (by omega) (by omega) (by omega) (by omega)) ((k _ (by omega) (by omega) (by omega) (by omega)).trans e5) (hC.at 1 rfl) ((k _ (by omega) (by omega) (by omega) (by omega)).trans e7) ((k _ (by omega) (by omega) (by omega) (by omega)).trans e8) (fun b _ _ => k b (by omega) (by omega) (by omega) (by omega)) hE (Or.inl fun b _ _ => k b (by omega) (by omega) (by omega) (by omega)) (fun b _ _ => k b (by omega) (by omega) (by omega) (by omega)) (Or.inl fun b _ _ => k b (by omega) (by omega) (by omega) (by omega)) (Or.inl fun b _ _ => k b (by omega) (by omega) (by omega) (by omega)) (Or.inl fun b _ _ => k b (by omega) (by omega) (by omega) (by omega)) ?_ (ePp.fr (fun b _ _ => k b (by omega) (by omega) (by omega) (by omega)) (by omega)), fun b _ _ => k b (by omega) (by omega) (by omega) (by omega), by omega⟩
  have eM' := eM.fr (A' := A') (fun b _ _ => k b (by omega) (by omega) (by omega) (by omega)) (by omega)
  refine ⟨fun j hj => ?_, fun j j' b hj hj' h1 h2 => ?_⟩
  · by_cases hjm : j = mn
    · subst hjm
      refine ⟨a, f, if_pos rfl, by omega, by omega, ?_, hfl, ?_⟩
      · simp only [if_true]
        exact hC.sub [2, 3] (by decide) rfl
      · simp only [if_true]
        exact hv
    · obtain ⟨b, f', q1, q2, q3, q4, q5, q6⟩ := eM'.1 j (by omega)
      obtain ⟨t1, t2, t3, t4⟩ := hsz j (by omega)
      refine ⟨b, f', (if_neg hjm).trans q1, q2, q3, ?_, q5, ?_⟩
      · simp only [if_neg hjm]
        exact q4
      · simp only [if_neg hjm]
        intro i l hi hl
        rw [hold _ (by omega)]
        exact q6 i l hi hl
  · have lt : ∀ i, i < mn → MA i = some a → False := fun i hi he => by
      obtain ⟨b, f', q1, q2, q3, -⟩ := eM.1 i hi
      rw [q1] at he
      cases he
      omega
    simp only at h1 h2
    by_cases hjm : j = mn
    · rw [if_pos hjm] at h1
      cases h1
      by_cases hjm' : j' = mn
      · omega
      · rw [if_neg hjm'] at h2
        exact absurd h2 (fun he => lt j' (by omega) he)
    · rw [if_neg hjm] at h1
      by_cases hjm' : j' = mn
      · rw [if_pos hjm'] at h2
        cases h2
        exact absurd h1 (fun he => lt j (by omega) he)
      · rw [if_neg hjm'] at h2
        exact eM.2 j j' b (by omega) (by omega) h1 h2
/-- the bounds with a matrix more -/
theorem fI.mat {n rn mn pn sn rn' r c : Nat} {row S rr cc Cm Cp Cm' : Nat → Nat} (h : fI n rn mn pn sn row S rr cc Cm Cp) (hm : mn < 40) (hrn : rn' ≤ 130) (hr : 1 ≤ r ∧ r ≤ 8 ∧ 1 ≤ c ∧ c ≤ 8) (hC : ∀ i, Cm' i < 2 ^ n) : fI n rn' (mn + 1) pn sn row S (fun i => if i = mn then r else rr i) (fun i => if i = mn then c else cc i) Cm' Cp := by
  obtain ⟨f1, f2, f3, f4, f5, f6, f7, f8, f9, f10⟩ := h
  refine ⟨hrn, by omega, f3, f4, f5, f6, fun k hk => ?_, hC, f9, f10⟩
  by_cases hkm : k = mn
  · simp only [if_pos hkm]; exact hr
  · simp only [if_neg hkm]; exact f7 k (by omega)
/-- the span's members are apart -/
theorem gxo_x {row : Nat → Nat} (a b : Nat) : ∀ k, gxo row (a ^^^ b) k = gxo row a k ^^^ gxo row b k
  | 0 => (Nat.xor_self 0).symm
  | k + 1 => by
    show (if (a ^^^ b) / 2 ^ k % 2 = 0 then gxo row (a ^^^ b) k else gxo row (a ^^^ b) k ^^^ row k) = (if a / 2 ^ k % 2 = 0 then gxo row a k else gxo row a k ^^^ row k) ^^^ (if b / 2 ^ k % 2 = 0 then gxo row b k else gxo row b k ^^^ row k)
    have hb : (a ^^^ b) / 2 ^ k % 2 = (a / 2 ^ k % 2 + b / 2 ^ k % 2) % 2 := by rw [← xor_par, ← Nat.shiftRight_eq_div_pow, ← Nat.shiftRight_eq_div_pow, ← Nat.shiftRight_eq_div_pow, Nat.shiftRight_xor_distrib]
    rw [gxo_x a b k, hb]
    have ha := Nat.mod_two_eq_zero_or_one (a / 2 ^ k)
    have hb2 := Nat.mod_two_eq_zero_or_one (b / 2 ^ k)
    rcases ha with ha | ha <;> rcases hb2 with hb2 | hb2 <;> rw [ha, hb2]
    · simp
    · simp [Nat.xor_assoc]
    · simp only [show (1 + 0) % 2 = 1 from rfl, show ¬ (1 = 0) by omega, if_true, if_false]
      rw [Nat.xor_assoc, Nat.xor_comm (gxo row b k), ← Nat.xor_assoc]
    · simp only [show (1 + 1) % 2 = 0 from rfl, if_true, show ¬ (1 = 0) by omega, if_false]
      rw [x4, Nat.xor_self, Nat.xor_zero]
theorem gxo_inj {row : Nat → Nat} {rn : Nat} (h : ¬ hxa row rn) : ∀ k, k ≤ rn → ∀ i j, i < 2 ^ k → j < 2 ^ k → gxo row i k = gxo row j k → i = j
  | 0, _, i, j, hi, hj, _ => by simp at hi hj; omega
  | k + 1, hk, i, j, hi, hj, he => by
    have key : ∀ a b, a < 2 ^ k → b < 2 ^ k → gxo row (2 ^ k + a) (k + 1) ≠ gxo row b (k + 1) := by
      intro a b ha hb e
      have e1 : gxo row (2 ^ k + a) (k + 1) = gxo row a k ^^^ row k := by
        show (if (2 ^ k + a) / 2 ^ k % 2 = 0 then _ else _) = _
        rw [show (2 ^ k + a) / 2 ^ k = 1 by rw [Nat.add_div_left _ (Nat.two_pow_pos k), Nat.div_eq_of_lt ha], if_neg (by decide), gxo_add a k k (Nat.le_refl k)]
      have e2 : gxo row b (k + 1) = gxo row b k := by
        show (if b / 2 ^ k % 2 = 0 then _ else _) = _
        rw [Nat.div_eq_of_lt hb, if_pos rfl]
      rw [e1, e2] at e
      refine h ⟨k, a ^^^ b, by omega, xor_lt ha hb, ?_⟩
      rw [gxo_x, ← e, ← Nat.xor_assoc, Nat.xor_self, Nat.zero_xor]
    have low : ∀ b, b < 2 ^ k → gxo row b (k + 1) = gxo row b k := by
      intro b hb
      show (if b / 2 ^ k % 2 = 0 then _ else _) = _
      rw [Nat.div_eq_of_lt hb, if_pos rfl]
    have hp : 2 ^ (k + 1) = 2 * 2 ^ k := by rw [Nat.pow_succ]; omega
    by_cases h1 : i < 2 ^ k
    · by_cases h2 : j < 2 ^ k
      · rw [low i h1, low j h2] at he
        exact gxo_inj h k (by omega) i j h1 h2 he
      · exact absurd he.symm (by have := key (j - 2 ^ k) i (by omega) h1; rwa [show 2 ^ k + (j - 2 ^ k) = j by omega] at this)
    · by_cases h2 : j < 2 ^ k
      · exact absurd he (by have := key (i - 2 ^ k) j (by omega) h2; rwa [show 2 ^ k + (i - 2 ^ k) = i by omega] at this)
      · have hi' : i = 2 ^ k + (i - 2 ^ k) := by omega
        have hj' : j = 2 ^ k + (j - 2 ^ k) := by omega
        have e1 : ∀ a, a < 2 ^ k → gxo row (2 ^ k + a) (k + 1) = gxo row a k ^^^ row k := by
          intro a ha
          show (if (2 ^ k + a) / 2 ^ k % 2 = 0 then _ else _) = _
          rw [show (2 ^ k + a) / 2 ^ k = 1 by rw [Nat.add_div_left _ (Nat.two_pow_pos k), Nat.div_eq_of_lt ha], if_neg (by decide), gxo_add a k k (Nat.le_refl k)]
        rw [hi', hj', e1 _ (by omega), e1 _ (by omega)] at he
        have he2 : gxo row (i - 2 ^ k) k = gxo row (j - 2 ^ k) k := by
          have := congrArg (· ^^^ row k) he
          simpa [Nat.xor_assoc] using this
        have := gxo_inj h k (by omega) (i - 2 ^ k) (j - 2 ^ k) (by omega) (by omega) he2
        omega
section CALLS
variable {g : bw_G} {x M n p gg th : Nat} {A : bw_H}
set_option maxHeartbeats 1000000 in
theorem b_put (hG : GFg n p gg) (hxM : x + 57 + 2 * n ≤ M) (h : LI g x M n p gg th A) (a : Int32) : bth g x M n p gg mX9_put mX10_put [.int a] [eIA, eUO] A := by
  obtain ⟨rn, mn, pn, sn, row, S, MA, PA, rr, cc, Cm, Cp, hf, hx, hm, ho⟩ := h
  obtain ⟨f1, f2, f3, f4, f5, f6, f7, f8, f9, f10⟩ := hf
  by_cases ha : mI n a
  · obtain ⟨i, hi, rfl⟩ := mI_of hG.p16 ha
    by_cases hr : rn = 130
    · subst hr
      exact bth.pure (k := 2) (v := 0) (by decide) hxM ⟨f1, f2, f3, f4, f5, f6, f7, f8, f9, f10⟩ hx hm ho (Or.inr ⟨by decide, k9_putF g hG.p16 (hx.cs.sub [0, 5, 1] (by decide) rfl) hi rfl⟩) (fun A1 rd rs pt dd V T Rt Pc L hc hF => ⟨nI 0, fun h => absurd h (by decide), m_putF g hG.p16 (bw_has.one hc.1) hi⟩)
    · have hrow : ∀ j, (fun j => if j = rn then i else row j) j < 2 ^ n := fun j => by
        simp only
        split
        · exact hi
        · exact f5 j
      refine bth.gen (th := th) (k := 0) (v := nI (rn + 1)) (rn' := rn + 1) (mn' := mn) (pn' := pn) (sn' := sn) (row' := (fun j => if j = rn then i else row j)) (S' := S) (MA' := MA) (PA' := PA) (rr' := rr) (cc' := cc) (Cm' := Cm) (Cp' := Cp) (by decide) hxM ⟨by omega, f2, f3, f4, hrow, f6, f7, f8, f9, f10⟩ hm ho ?_ (fun A1 h1 => ?_)
      · refine bw_C.mono (k9_put g hG.p16 (hx.cs.sub [0, 5, 1] (by decide) rfl) hi (by omega)) (fun o A1 h => ?_)
        obtain ⟨y, ho1, rfl, hA⟩ := h
        have hs : bw_sm [x, x + 5, x + 8] A A1 := (bw_sm.upd (bw_sm.upd bw_sm.rf rfl (by simp)) hA (by simp))
        have hC := (hx.cs.upd 1 rfl rfl).upd 0 rfl hA
        exact ⟨Or.inl ⟨rfl, ho1⟩, hx.u1 hxM ho hs (hC.at 0 rfl) (hC.at 1 rfl) (hC.at 4 rfl)⟩
      · obtain ⟨rd, rs, pt, dd, V, T, Rt, Pc, L, hc, hF⟩ := h1
        refine bw_C.mono (m_put g hG.p16 (mrC.sb hc [0, 1] rfl) hi (by omega)) (fun o A2 h => ?_)
        obtain ⟨e0, e1, e2, e3, e4, e5, e6, e7, e8, e9, e10, e11, e12, e13, e14, e15, e16, e17, e18⟩ := hc
        obtain ⟨y, hy, ⟨rfl, hs, h6⟩, h7⟩ := h
        exact ⟨_, hy, fun _ => rfl, ⟨rd, rs, pt, dd, V, T, Rt, Pc, L, ⟨h6, h7, (hs.2 _ (by simp)).trans e2, (hs.2 _ (by simp)).trans e3, (hs.2 _ (by simp)).trans e4, (hs.2 _ (by simp)).trans e5, (hs.2 _ (by simp)).trans e6, (hs.2 _ (by simp)).trans e7, (hs.2 _ (by simp)).trans e8, (hs.2 _ (by simp)).trans e9, e10.fr (hs.2 _ (by simp)), e11.fr (hs.2 _ (by simp)), e12.fr (hs.2 _ (by simp)), e13.fr (hs.2 _ (by simp)), (hs.2 _ (by simp)).trans e14, (hs.2 _ (by simp)).trans e15, e16.fr (hs.2 _ (by simp)), e17.fr (hs.2 _ (by simp)), (hs.2 _ (by simp)).trans e18⟩, hF⟩, fun b hb => hs.2 b (by simp; omega), hs.1⟩
  · exact bth.pure (k := 1) (v := 0) (by decide) hxM ⟨f1, f2, f3, f4, f5, f6, f7, f8, f9, f10⟩ hx hm ho (Or.inr ⟨by decide, k9_putX g (hx.cs.sub [0, 5, 1] (by decide) rfl) ha⟩) (fun A1 rd rs pt dd V T Rt Pc L hc hF => ⟨nI 0, fun h => absurd h (by decide), m_putX g (bw_has.one hc.1) ha⟩)
set_option maxHeartbeats 1000000 in
theorem b_drop (hG : GFg n p gg) (hxM : x + 57 + 2 * n ≤ M) (h : LI g x M n p gg th A) : bth g x M n p gg mX9_drop mX10_drop [] [] A := by
  obtain ⟨rn, mn, pn, sn, row, S, MA, PA, rr, cc, Cm, Cp, hf, hx, hm, ho⟩ := h
  obtain ⟨f1, f2, f3, f4, f5, f6, f7, f8, f9, f10⟩ := hf
  refine bth.gen (th := th) (k := 0) (v := nI rn) (rn' := 0) (mn' := mn) (pn' := pn) (sn' := sn) (row' := row) (S' := S) (MA' := MA) (PA' := PA) (rr' := rr) (cc' := cc) (Cm' := Cm) (Cp' := Cp) (by decide) hxM ⟨by omega, f2, f3, f4, f5, f6, f7, f8, f9, f10⟩ hm ho ?_ (fun A1 h1 => ?_)
  · refine bw_C.mono (k9_drop g (hx.cs.sub [0] (by decide) rfl)) (fun o A1 h => ?_)
    obtain ⟨y, ho1, rfl, hA⟩ := h
    have hs : bw_sm [x, x + 5, x + 8] A A1 := bw_sm.upd bw_sm.rf hA (by simp)
    have hC := hx.cs.upd 0 rfl hA
    exact ⟨Or.inl ⟨rfl, ho1⟩, hx.u1 hxM ho hs (hC.at 0 rfl) (hC.at 1 rfl) (hC.at 4 rfl)⟩
  · obtain ⟨rd, rs, pt, dd, V, T, Rt, Pc, L, hc, hF⟩ := h1
    refine bw_C.mono (m_drop g (bw_has.one hc.1)) (fun o A2 h => ?_)
    obtain ⟨e0, e1, e2, e3, e4, e5, e6, e7, e8, e9, e10, e11, e12, e13, e14, e15, e16, e17, e18⟩ := hc
    obtain ⟨y, hy, rfl, hs, h6⟩ := h
    exact ⟨_, hy, fun _ => rfl, ⟨rd, rs, pt, dd, V, T, Rt, Pc, L, ⟨h6, (hs.2 _ (by simp)).trans e1, (hs.2 _ (by simp)).trans e2, (hs.2 _ (by simp)).trans e3, (hs.2 _ (by simp)).trans e4, (hs.2 _ (by simp)).trans e5, (hs.2 _ (by simp)).trans e6, (hs.2 _ (by simp)).trans e7, (hs.2 _ (by simp)).trans e8, (hs.2 _ (by simp)).trans e9, e10.fr (hs.2 _ (by simp)), e11.fr (hs.2 _ (by simp)), e12.fr (hs.2 _ (by simp)), e13.fr (hs.2 _ (by simp)), (hs.2 _ (by simp)).trans e14, (hs.2 _ (by simp)).trans e15, e16.fr (hs.2 _ (by simp)), e17.fr (hs.2 _ (by simp)), (hs.2 _ (by simp)).trans e18⟩, hF⟩, fun b hb => hs.2 b (by simp; omega), hs.1⟩
set_option maxHeartbeats 1000000 in
theorem b_span (hG : GFg n p gg) (hxM : x + 57 + 2 * n ≤ M) (h : LI g x M n p gg th A) : bth g x M n p gg mX9_span mX10_span [] [eIS] A := by
  obtain ⟨rn, mn, pn, sn, row, S, MA, PA, rr, cc, Cm, Cp, hf, hx, hm, ho⟩ := h
  obtain ⟨f1, f2, f3, f4, f5, f6, f7, f8, f9, f10⟩ := hf
  by_cases hr : rn ≤ 6 ∧ ¬ hxa row rn
  · obtain ⟨hr6, hxa0⟩ := hr
    have h64 : 2 ^ rn ≤ 2 ^ 6 := Nat.pow_le_pow_right (by omega) hr6
    have hsl : ∀ j, gsp row S rn (2 ^ rn) j < 2 ^ n := fun j => by
      unfold gsp
      split
      · exact gxo_lt f5 _ _
      · exact f6 j
    have hsi : ∀ i j, i < 2 ^ rn → j < 2 ^ rn → gsp row S rn (2 ^ rn) i = gsp row S rn (2 ^ rn) j → i = j := fun i j hi hj he => by
      unfold gsp at he
      rw [if_pos hi, if_pos hj] at he
      exact gxo_inj hxa0 rn (Nat.le_refl rn) i j hi hj he
    refine bth.gen (th := th) (k := 0) (v := nI (2 ^ rn)) (rn' := 0) (mn' := mn) (pn' := pn) (sn' := 2 ^ rn) (row' := row) (S' := gsp row S rn (2 ^ rn)) (MA' := MA) (PA' := PA) (rr' := rr) (cc' := cc) (Cm' := Cm) (Cp' := Cp) (by decide) hxM ⟨by omega, f2, f3, by omega, f5, hsl, f7, f8, f9, hsi⟩ hm ho ?_ (fun A1 h1 => ?_)
    · refine bw_C.mono (k9_span g hG.p16 (hx.cs.sub [0, 1, 4] (by decide) rfl) f5 hr6 hxa0) (fun o A1 h => ?_)
      obtain ⟨y, ho1, rfl, hs, hC⟩ := h
      have hsX := hs
      have hs : bw_sm [x, x + 5, x + 8] A A1 := hs.mono (by simp)
      exact ⟨Or.inl ⟨rfl, ho1⟩, hx.u1 hxM ho hs (hC.at 0 rfl) ((hsX.2 (x + 5) (by simp)).trans (hx.cs.at 1 rfl)) (hC.at 1 rfl)⟩
    · obtain ⟨rd, rs, pt, dd, V, T, Rt, Pc, L, hc, hF⟩ := h1
      obtain ⟨u10, u11, u12, u13, u16, u17, z10, z11, z12, z13, z16, z17, hC⟩ := hc.all
      refine bw_C.mono (m_span g hG.p16 (hC.sub [0, 1, 13, 18] (by decide) rfl) f5 z13 hr6 hxa0) (fun o A2 h => ?_)
      obtain ⟨e0, e1, e2, e3, e4, e5, e6, e7, e8, e9, e10, e11, e12, e13, e14, e15, e16, e17, e18⟩ := hc
      obtain ⟨y, hy, ⟨rfl, hs, h6⟩, h7, h8⟩ := h
      exact ⟨_, hy, fun _ => rfl, ⟨rd, rs, pt, dd, V, T, Rt, Pc, L, ⟨h6, (hs.2 _ (by simp)).trans e1, (hs.2 _ (by simp)).trans e2, (hs.2 _ (by simp)).trans e3, (hs.2 _ (by simp)).trans e4, (hs.2 _ (by simp)).trans e5, (hs.2 _ (by simp)).trans e6, (hs.2 _ (by simp)).trans e7, (hs.2 _ (by simp)).trans e8, (hs.2 _ (by simp)).trans e9, e10.fr (hs.2 _ (by simp)), e11.fr (hs.2 _ (by simp)), e12.fr (hs.2 _ (by simp)), h8, (hs.2 _ (by simp)).trans e14, (hs.2 _ (by simp)).trans e15, e16.fr (hs.2 _ (by simp)), e17.fr (hs.2 _ (by simp)), h7⟩, hF⟩, fun b hb => hs.2 b (by simp; omega), hs.1⟩
  · have hr : 6 < rn ∨ hxa row rn := by
      by_cases h6 : 6 < rn
      · exact Or.inl h6
      · exact Or.inr (Classical.byContradiction fun h => hr ⟨by omega, h⟩)
    refine bth.gen (th := th) (k := 1) (v := 0) (rn' := rn) (mn' := mn) (pn' := pn) (sn' := sn) (row' := row) (S' := S) (MA' := MA) (PA' := PA) (rr' := rr) (cc' := cc) (Cm' := Cm) (Cp' := Cp) (by decide) hxM ⟨f1, f2, f3, f4, f5, f6, f7, f8, f9, f10⟩ hm ho ?_ (fun A1 h1 => ?_)
    · refine bw_C.mono (k9_spanX g hG.p16 (hx.cs.sub [0, 1] (by decide) rfl) f5 f1 hr) (fun o A1 h => ?_)
      obtain ⟨h1, m, hm, rfl⟩ := h
      exact ⟨Or.inr ⟨by decide, h1⟩, hx.fr (fun _ _ _ => rfl) (fun _ _ _ => rfl) hm, fun _ _ _ => rfl, hm⟩
    · obtain ⟨rd, rs, pt, dd, V, T, Rt, Pc, L, hc, hF⟩ := h1
      obtain ⟨u10, u11, u12, u13, u16, u17, z10, z11, z12, z13, z16, z17, hC⟩ := hc.all
      refine bw_C.mono (m_spanX g hG.p16 (hC.sub [0, 1, 13, 18] (by decide) rfl) f5 z13 f1 hr) (fun o A2 h => ?_)
      obtain ⟨e0, e1, e2, e3, e4, e5, e6, e7, e8, e9, e10, e11, e12, e13, e14, e15, e16, e17, e18⟩ := hc
      obtain ⟨y, hy, ⟨rfl, hs, h6⟩, h7, h8⟩ := h
      exact ⟨_, hy, fun h => absurd h (by decide), ⟨rd, rs, pt, dd, V, T, Rt, Pc, L, ⟨h6, (hs.2 _ (by simp)).trans e1, (hs.2 _ (by simp)).trans e2, (hs.2 _ (by simp)).trans e3, (hs.2 _ (by simp)).trans e4, (hs.2 _ (by simp)).trans e5, (hs.2 _ (by simp)).trans e6, (hs.2 _ (by simp)).trans e7, (hs.2 _ (by simp)).trans e8, (hs.2 _ (by simp)).trans e9, e10.fr (hs.2 _ (by simp)), e11.fr (hs.2 _ (by simp)), e12.fr (hs.2 _ (by simp)), h8, (hs.2 _ (by simp)).trans e14, (hs.2 _ (by simp)).trans e15, e16.fr (hs.2 _ (by simp)), e17.fr (hs.2 _ (by simp)), h7⟩, hF⟩, fun b hb => hs.2 b (by simp; omega), hs.1⟩
end CALLS
