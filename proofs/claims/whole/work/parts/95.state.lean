/-! what class and reference keep -/
theorem bw_C.mono {g : bw_G} {R : Room} {k : bw_M} {av : List Value} {A : bw_H} {Q Q' : bw_O → bw_H → Prop} (h : bw_C g R k av A Q) (hQ : ∀ (o : bw_O) (A' : bw_H), Q o A' → Q' o A') : bw_C g R k av A Q' := by
  intro l hl p e a1 a2 a3 s m args below b1 b2 b3 b4
  obtain ⟨n, o, c1, c2, c3, c4⟩ := h l hl p e a1 a2 a3 s m args below b1 b2 b3 b4
  refine ⟨n, o, c1, c2, c3, ?_⟩
  rcases c4 with ⟨⟨v, A', e1, e2, e3⟩, c4⟩ | ⟨q, hq, E, ce, L, ⟨A', hA', hQ'⟩, hr⟩
  · exact Or.inl ⟨⟨v, A', e1, e2, hQ _ _ e3⟩, c4⟩
  · exact Or.inr ⟨q, hq, E, ce, L, ⟨A', hA', hQ _ _ hQ'⟩, hr⟩
theorem hs_fr {A A' : bw_H} {ws : List (Nat × va_E)} (h : bw_has A ws) (hF : ∀ q ∈ ws, A'.2 q.1 = A.2 q.1) : bw_has A' ws := ⟨fun q hq => (hF q hq).trans (h.1 q hq), h.2⟩
/-- nothing between lo and hi has changed -/
def agr (lo hi : Nat) (A A' : bw_H) : Prop := ∀ b : Nat, lo ≤ b → b < hi → A'.2 b = A.2 b
def wP (g : bw_G) (a : Nat) (A : bw_H) : Prop := ∃ (f : Nat → Nat) (m : Nat), pwk 129 f m ∧ bw_has A (pcl g a 129 f m .null)
theorem wP.fr {g : bw_G} {a : Nat} {A A' : bw_H} (h : wP g a A) (hF : agr a (a + 2) A A') : wP g a A' := by
  obtain ⟨f, m, h1, h2⟩ := h
  exact ⟨f, m, h1, hs_fr h2 (fun q hq => hF q.1 (by simp at hq; rcases hq with rfl | rfl <;> simp) (by simp at hq; rcases hq with rfl | rfl <;> simp))⟩
def eP (g : bw_G) (x n : Nat) (A : bw_H) : Prop := ∃ (h wd rk pp : Nat) (pv : Nat → Option Nat) (W : Nat → Nat → Nat), bw_has A [(x + 11, eob (x + 9) (x + 12) (x + 21) h wd rk pp), (x + 12, eco g (x + 12) 8), (x + 21, bw_ao g 8 pv)] ∧ bw_rw g A (x + 12 + 1) 8 16 W ∧ ∀ i j, W i j < 2 ^ n
theorem eP.fr {g : bw_G} {x n : Nat} {A A' : bw_H} (h : eP g x n A) (hF : agr (x + 11) (x + 22) A A') : eP g x n A' := by
  obtain ⟨h, wd, rk, pp, pv, W, h1, h2, h3⟩ := h
  refine ⟨h, wd, rk, pp, pv, W, hs_fr h1 (fun q hq => ?_), fun i hi => (hF _ (by omega) (by omega)).trans (h2 i hi), h3⟩
  simp only [List.mem_cons, List.not_mem_nil, or_false] at hq
  rcases hq with rfl | rfl | rfl <;> exact hF _ (by simp only; omega) (by simp only; omega)
def nP (g : bw_G) (x n : Nat) (A : bw_H) : Prop := ∃ V : Nat → Nat → Nat, bw_has A [(x + 22, nob (x + 9) (x + 23)), (x + 23, eco g (x + 23) 9)] ∧ bw_rw g A (x + 23 + 1) 9 256 V ∧ ∀ i j, V i j < 2 ^ n
theorem nP.fr {g : bw_G} {x n : Nat} {A A' : bw_H} (h : nP g x n A) (hF : agr (x + 22) (x + 33) A A') : nP g x n A' := by
  obtain ⟨V, h1, h2, h3⟩ := h
  refine ⟨V, hs_fr h1 (fun q hq => ?_), fun i hi => (hF _ (by omega) (by omega)).trans (h2 i hi), h3⟩
  simp only [List.mem_cons, List.not_mem_nil, or_false] at hq
  rcases hq with rfl | rfl <;> exact hF _ (by simp only; omega) (by simp only; omega)
def iP (g : bw_G) (x n : Nat) (A : bw_H) : Prop := ∃ X Y : Nat → Nat, (∀ i, X i < 2 ^ n) ∧ (∀ i, Y i < 2 ^ n) ∧ bw_has A [(x + 34, iob (x + 9) (x + 35) (x + 36)), (x + 35, bw_an g 65 X), (x + 36, bw_an g 65 Y)]
theorem iP.fr {g : bw_G} {x n : Nat} {A A' : bw_H} (h : iP g x n A) (hF : agr (x + 34) (x + 37) A A') : iP g x n A' := by
  obtain ⟨X, Y, h1, h2, h3⟩ := h
  refine ⟨X, Y, h1, h2, hs_fr h3 (fun q hq => ?_)⟩
  simp only [List.mem_cons, List.not_mem_nil, or_false] at hq
  rcases hq with rfl | rfl | rfl <;> exact hF _ (by simp only; omega) (by simp only; omega)
def rP (g : bw_G) (x n p : Nat) (A : bw_H) : Prop := bw_has A [(x + 37, rob (x + 9) (x + 33) (x + 44) (x + 45) (x + 38) (x + 40) (x + 42)), (x + 44, bw_an g n (gsF n (2 ^ n ||| p) n)), (x + 45, bw_aq g 4 (n + 1) (fun i => if i < n + 1 then some (x + 46 + 2 * i) else none))] ∧ rtW g (x + 38) (x + 40) (x + 42) (x + 46) n A
theorem rtW.fr {g : bw_G} {la lo ot rb n : Nat} {A A' : bw_H} (h : rtW g la lo ot rb n A) (h1 : agr la (la + 2) A A') (h2 : agr lo (lo + 2) A A') (h3 : agr ot (ot + 2) A A') (h4 : agr rb (rb + (2 * n + 2)) A A') : rtW g la lo ot rb n A' := by
  obtain ⟨fl, fw, fo, ml, mw, mo, rf, rm, e1, e2, e3, e4, e5, e6⟩ := h
  refine ⟨fl, fw, fo, ml, mw, mo, rf, rm, e1, e2, e3, e4, hs_fr e5 (fun q hq => ?_), fun j hj => hs_fr (e6 j hj) (fun q hq => ?_)⟩
  · simp only [pcl, List.cons_append, List.nil_append, List.mem_cons, List.not_mem_nil, or_false] at hq
    rcases hq with rfl | rfl | rfl | rfl | rfl | rfl
    · exact h1 _ (by simp only; omega) (by simp only; omega)
    · exact h1 _ (by simp only; omega) (by simp only; omega)
    · exact h2 _ (by simp only; omega) (by simp only; omega)
    · exact h2 _ (by simp only; omega) (by simp only; omega)
    · exact h3 _ (by simp only; omega) (by simp only; omega)
    · exact h3 _ (by simp only; omega) (by simp only; omega)
  · simp only [pcl, List.mem_cons, List.not_mem_nil, or_false] at hq
    rcases hq with rfl | rfl <;> exact h4 _ (by simp only; omega) (by simp only; omega)
theorem agr.sub {lo hi lo' hi' : Nat} {A A' : bw_H} (h : agr lo hi A A') (h1 : lo ≤ lo') (h2 : hi' ≤ hi) : agr lo' hi' A A' := fun b hb hb' => h b (by omega) (by omega)
theorem rP.fr {g : bw_G} {x n p : Nat} {A A' : bw_H} (h : rP g x n p A) (hF : agr (x + 37) (x + 46 + 2 * (n + 1)) A A') : rP g x n p A' := by
  refine ⟨hs_fr h.1 (fun q hq => ?_), h.2.fr (hF.sub (by omega) (by omega)) (hF.sub (by omega) (by omega)) (hF.sub (by omega) (by omega)) (hF.sub (by omega) (by omega))⟩
  simp only [List.mem_cons, List.not_mem_nil, or_false] at hq
  rcases hq with rfl | rfl | rfl <;> exact hF _ (by simp only; omega) (by simp only; omega)
theorem ktW.fr {g : bw_G} {K : Nat} {A A' : bw_H} (h : ktW g (K + 1) (K + 3) (K + 5) (K + 7) A) (hF : agr (K + 1) (K + 9) A A') : ktW g (K + 1) (K + 3) (K + 5) (K + 7) A' := by
  obtain ⟨fa, fb, fc, fd, ma, mb, mc, md, e1, e2, e3, e4, e5⟩ := h
  refine ⟨fa, fb, fc, fd, ma, mb, mc, md, e1, e2, e3, e4, hs_fr e5 (fun q hq => ?_)⟩
  simp only [pcl, List.cons_append, List.nil_append, List.mem_cons, List.not_mem_nil, or_false] at hq
  rcases hq with rfl | rfl | rfl | rfl | rfl | rfl | rfl | rfl <;> exact hF _ (by simp only; omega) (by simp only; omega)
def kP (g : bw_G) (K x : Nat) (A : bw_H) : Prop := A.2 K = some (kob (x + 9) (x + 33) (K + 1) (K + 3) (K + 5) (K + 7)) ∧ ktW g (K + 1) (K + 3) (K + 5) (K + 7) A
theorem kP.fr {g : bw_G} {K x : Nat} {A A' : bw_H} (h : kP g K x A) (hF : agr K (K + 9) A A') : kP g K x A' := ⟨(hF K (by omega) (by omega)).trans h.1, h.2.fr (hF.sub (by omega) (by omega))⟩
/-- the matrices that are kept, from B on -/
def sM (g : bw_G) (B n mn : Nat) (MA : Nat → Option Nat) (rr cc Cm : Nat → Nat) (A : bw_H) : Prop :=
  (∀ k, k < mn → ∃ (a : Nat) (f : Nat → Nat), MA k = some a ∧ B ≤ a ∧ a + 1 < A.1 ∧ bw_has A (mcl g a (rr k) (cc k) f) ∧ (∀ t, f t < 2 ^ n) ∧ ∀ i j, i < rr k → j < cc k → f (i * cc k + j) = Cm (64 * k + 8 * i + j)) ∧
  ∀ k k' a, k < mn → k' < mn → MA k = some a → MA k' = some a → k = k'
theorem sM.fr {g : bw_G} {B n mn : Nat} {MA : Nat → Option Nat} {rr cc Cm : Nat → Nat} {A A' : bw_H} (h : sM g B n mn MA rr cc Cm A) (hF : agr B A.1 A A') (hz : A.1 ≤ A'.1) : sM g B n mn MA rr cc Cm A' := by
  refine ⟨fun k hk => ?_, h.2⟩
  obtain ⟨a, f, e1, e2, e3, e4, e5, e6⟩ := h.1 k hk
  refine ⟨a, f, e1, e2, by omega, hs_fr e4 (fun q hq => ?_), e5, e6⟩
  simp only [mcl, List.mem_cons, List.not_mem_nil, or_false] at hq
  rcases hq with rfl | rfl <;> exact hF _ (by simp only; omega) (by simp only; omega)
/-- the polynomials that are kept -/
def sP (g : bw_G) (B n q pn : Nat) (PA : Nat → Option Nat) (Cp : Nat → Nat) (A : bw_H) : Prop :=
  (∀ k, k < pn → ∃ (b : Nat) (w : Value), PA k = some b ∧ B ≤ b ∧ b + 1 < A.1 ∧ bw_has A (ppl g b 65 (gcf Cp k) w) ∧ (w = .null ∨ ∃ wa, w = .ref wa ∧ B ≤ wa ∧ wa < A.1 ∧ A.2 wa = some (bw_an g 65 (gcnt n q (gcf Cp k))))) ∧
  ∀ k k' a, k < pn → k' < pn → PA k = some a → PA k' = some a → k = k'
theorem sP.fr {g : bw_G} {B n q pn : Nat} {PA : Nat → Option Nat} {Cp : Nat → Nat} {A A' : bw_H} (h : sP g B n q pn PA Cp A) (hF : agr B A.1 A A') (hz : A.1 ≤ A'.1) : sP g B n q pn PA Cp A' := by
  refine ⟨fun k hk => ?_, h.2⟩
  obtain ⟨b, w, e1, e2, e3, e4, e5⟩ := h.1 k hk
  refine ⟨b, w, e1, e2, by omega, hs_fr e4 (fun q hq => ?_), ?_⟩
  · simp only [ppl, pcl, List.mem_cons, List.not_mem_nil, or_false] at hq
    rcases hq with rfl | rfl <;> exact hF _ (by simp only; omega) (by simp only; omega)
  · rcases e5 with e5 | ⟨wa, h1, h2, h3, h4⟩
    · exact Or.inl e5
    · exact Or.inr ⟨wa, h1, h2, Nat.lt_of_lt_of_le h3 hz, (hF wa h2 h3).trans h4⟩
/-- the class's cells; what is kept lies from B on -/
def xI (g : bw_G) (x n p gg B rn mn pn sn : Nat) (row S : Nat → Nat) (MA PA : Nat → Option Nat) (rr cc Cm Cp : Nat → Nat) (A : bw_H) : Prop :=
  A.2 x = some (xob x n rn mn pn sn) ∧ wP g (x + 1) A ∧ wP g (x + 3) A ∧ A.2 (x + 5) = some (bw_an g 130 row) ∧ A.2 (x + 6) = some (bw_aq g 3 40 MA) ∧ A.2 (x + 7) = some (bw_aq g 4 40 PA) ∧ A.2 (x + 8) = some (bw_an g 64 S) ∧ bw_has A (fcl g n p gg (x + 9)) ∧ eP g x n A ∧ nP g x n A ∧ A.2 (x + 33) = some (dob (x + 9)) ∧ iP g x n A ∧ rP g x n p A ∧ kP g (x + 46 + 2 * (n + 1)) x A ∧ sM g B n mn MA rr cc Cm A ∧ sP g B n (2 ^ n ||| p) pn PA Cp A
theorem xI.gen {g : bw_G} {x n p gg B rn mn pn sn rn' mn' pn' sn' : Nat} {row S row' S' : Nat → Nat} {MA PA MA' PA' : Nat → Option Nat} {rr cc Cm Cp rr' cc' Cm' Cp' : Nat → Nat} {A A' : bw_H} (h : xI g x n p gg B rn mn pn sn row S MA PA rr cc Cm Cp A)
    (h0 : A'.2 x = some (xob x n rn' mn' pn' sn')) (h1 : agr (x + 1) (x + 3) A A' ∨ wP g (x + 1) A') (h3 : agr (x + 3) (x + 5) A A' ∨ wP g (x + 3) A') (h5 : A'.2 (x + 5) = some (bw_an g 130 row')) (h6 : A'.2 (x + 6) = some (bw_aq g 3 40 MA')) (h7 : A'.2 (x + 7) = some (bw_aq g 4 40 PA')) (h8 : A'.2 (x + 8) = some (bw_an g 64 S')) (hF : agr (x + 9) (x + 11) A A') (hE : agr (x + 11) (x + 22) A A' ∨ eP g x n A') (hN : agr (x + 22) (x + 33) A A' ∨ nP g x n A') (hD : agr (x + 33) (x + 34) A A') (hI : agr (x + 34) (x + 37) A A' ∨ iP g x n A') (hR : agr (x + 37) (x + 46 + 2 * (n + 1)) A A' ∨ rP g x n p A') (hK : agr (x + 46 + 2 * (n + 1)) (x + 46 + 2 * (n + 1) + 9) A A' ∨ kP g (x + 46 + 2 * (n + 1)) x A') (hM : sM g B n mn' MA' rr' cc' Cm' A') (hP : sP g B n (2 ^ n ||| p) pn' PA' Cp' A') :
    xI g x n p gg B rn' mn' pn' sn' row' S' MA' PA' rr' cc' Cm' Cp' A' := by
  obtain ⟨e0, e1, e3, e5, e6, e7, e8, eF, eE, eN, eD, eI, eR, eK, eM, ePp⟩ := h
  refine ⟨h0, ?_, ?_, h5, h6, h7, h8, hs_fr eF (fun q hq => ?_), ?_, ?_, (hD _ (by omega) (by omega)).trans eD, ?_, ?_, ?_, hM, hP⟩
  · rcases h1 with h | h
    · exact e1.fr h
    · exact h
  · rcases h3 with h | h
    · exact e3.fr h
    · exact h
  · simp only [fcl, List.mem_cons, List.not_mem_nil, or_false] at hq
    rcases hq with rfl | rfl <;> exact hF _ (by simp only; omega) (by simp only; omega)
  · rcases hE with h | h
    · exact eE.fr h
    · exact h
  · rcases hN with h | h
    · exact eN.fr h
    · exact h
  · rcases hI with h | h
    · exact eI.fr h
    · exact h
  · rcases hR with h | h
    · exact eR.fr h
    · exact h
  · rcases hK with h | h
    · exact eK.fr h
    · exact h
/-- what isn't the class's changes nothing -/
theorem xI.fr {g : bw_G} {x n p gg B rn mn pn sn : Nat} {row S : Nat → Nat} {MA PA : Nat → Option Nat} {rr cc Cm Cp : Nat → Nat} {A A' : bw_H} (h : xI g x n p gg B rn mn pn sn row S MA PA rr cc Cm Cp A) (h1 : agr x (x + 57 + 2 * n) A A') (h2 : agr B A.1 A A') (hz : A.1 ≤ A'.1) : xI g x n p gg B rn mn pn sn row S MA PA rr cc Cm Cp A' := by
  have e := h
  obtain ⟨e0, -, -, e5, e6, e7, e8, -, -, -, -, -, -, -, eM, ePp⟩ := e
  exact h.gen ((h1 _ (by omega) (by omega)).trans e0) (Or.inl (h1.sub (by omega) (by omega))) (Or.inl (h1.sub (by omega) (by omega))) ((h1 _ (by omega) (by omega)).trans e5) ((h1 _ (by omega) (by omega)).trans e6) ((h1 _ (by omega) (by omega)).trans e7) ((h1 _ (by omega) (by omega)).trans e8) (h1.sub (by omega) (by omega)) (Or.inl (h1.sub (by omega) (by omega))) (Or.inl (h1.sub (by omega) (by omega))) (h1.sub (by omega) (by omega)) (Or.inl (h1.sub (by omega) (by omega))) (Or.inl (h1.sub (by omega) (by omega))) (Or.inl (h1.sub (by omega) (by omega))) (eM.fr h2 hz) (ePp.fr h2 hz)
/-- the reference's cells -/
def mrC (g : bw_G) (M n p gg th rn mn pn sn rd rs pt : Nat) (row S rr cc Cm Cp dd V T Rt Pc : Nat → Nat) (L : Nat → Option Nat) (A : bw_H) : Prop :=
  A.2 M = some (mdo M n p gg th rn mn pn rd rs pt sn) ∧ A.2 (M + 1) = some (bw_an g 130 row) ∧ A.2 (M + 2) = some (bw_an g 40 rr) ∧ A.2 (M + 3) = some (bw_an g 40 cc) ∧ A.2 (M + 4) = some (bw_an g 2560 Cm) ∧ A.2 (M + 5) = some (bw_an g 65536 V) ∧ A.2 (M + 6) = some (bw_an g 72 T) ∧ A.2 (M + 7) = some (bw_ao g 8 L) ∧ A.2 (M + 8) = some (bw_ao g 40 (fun i => tO (dd i))) ∧ A.2 (M + 9) = some (bw_an g 2600 Cp) ∧ mzz g A (M + 10) ∧ mzz g A (M + 11) ∧ mzz g A (M + 12) ∧ mzz g A (M + 13) ∧ A.2 (M + 14) = some (bw_an g 64 Rt) ∧ A.2 (M + 15) = some (bw_an g 65 Pc) ∧ mzz g A (M + 16) ∧ mzz g A (M + 17) ∧ A.2 (M + 18) = some (bw_an g 64 S)
/-- its caches are right -/
def mrF (n q pn rd rs pt : Nat) (Cp dd Rt Pc : Nat → Nat) : Prop :=
  (∀ k, k < pn → dd k = pd (gcf Cp k)) ∧ rd ≤ pn ∧ pt ≤ pn ∧ (∀ b, rd = b + 1 → rs = (rtl n q (gcf Cp b) (2 ^ n)).length ∧ mrl (rtl n q (gcf Cp b) (2 ^ n)) Rt) ∧ (∀ b, pt = b + 1 → Pc = gpa n q (gcf Cp b)) ∧ ∀ i, 65 ≤ i → Pc i = 0
def mrI (g : bw_G) (M n p gg th rn mn pn sn : Nat) (row S rr cc Cm Cp : Nat → Nat) (A : bw_H) : Prop :=
  ∃ (rd rs pt : Nat) (dd V T Rt Pc : Nat → Nat) (L : Nat → Option Nat), mrC g M n p gg th rn mn pn sn rd rs pt row S rr cc Cm Cp dd V T Rt Pc L A ∧ mrF n (2 ^ n ||| p) pn rd rs pt Cp dd Rt Pc
theorem mzz.fr {g : bw_G} {A A' : bw_H} {X : Nat} (h : mzz g A X) (hF : A'.2 X = A.2 X) : mzz g A' X := by
  obtain ⟨f, h1, h2⟩ := h
  exact ⟨f, h1, hF.trans h2⟩
theorem mrI.fr {g : bw_G} {M n p gg th rn mn pn sn : Nat} {row S rr cc Cm Cp : Nat → Nat} {A A' : bw_H} (h : mrI g M n p gg th rn mn pn sn row S rr cc Cm Cp A) (hF : agr M (M + 19) A A') : mrI g M n p gg th rn mn pn sn row S rr cc Cm Cp A' := by
  obtain ⟨rd, rs, pt, dd, V, T, Rt, Pc, L, ⟨e0, e1, e2, e3, e4, e5, e6, e7, e8, e9, e10, e11, e12, e13, e14, e15, e16, e17, e18⟩, hf⟩ := h
  have k : ∀ i, i < 19 → A'.2 (M + i) = A.2 (M + i) := fun i hi => hF _ (by omega) (by omega)
  exact ⟨rd, rs, pt, dd, V, T, Rt, Pc, L, ⟨(k 0 (by omega)).trans e0, (k 1 (by omega)).trans e1, (k 2 (by omega)).trans e2, (k 3 (by omega)).trans e3, (k 4 (by omega)).trans e4, (k 5 (by omega)).trans e5, (k 6 (by omega)).trans e6, (k 7 (by omega)).trans e7, (k 8 (by omega)).trans e8, (k 9 (by omega)).trans e9, e10.fr (k 10 (by omega)), e11.fr (k 11 (by omega)), e12.fr (k 12 (by omega)), e13.fr (k 13 (by omega)), (k 14 (by omega)).trans e14, (k 15 (by omega)).trans e15, e16.fr (k 16 (by omega)), e17.fr (k 17 (by omega)), (k 18 (by omega)).trans e18⟩, hf⟩
/-- the numbers are in their bounds -/
def fI (n rn mn pn sn : Nat) (row S rr cc Cm Cp : Nat → Nat) : Prop :=
  rn ≤ 130 ∧ mn ≤ 40 ∧ pn ≤ 40 ∧ sn ≤ 64 ∧ (∀ i, row i < 2 ^ n) ∧ (∀ i, S i < 2 ^ n) ∧ (∀ k, k < mn → 1 ≤ rr k ∧ rr k ≤ 8 ∧ 1 ≤ cc k ∧ cc k ≤ 8) ∧ (∀ i, Cm i < 2 ^ n) ∧ (∀ i, Cp i < 2 ^ n) ∧ ∀ i j, i < sn → j < sn → S i = S j → i = j
def ouI (g : bw_G) (M : Nat) (A : bw_H) : Prop := (∃ f, A.2 (M + 19) = some (bw_al g 1 f)) ∧ M + 20 ≤ A.1
/-- class and reference stand alike, and the reference said th -/
def LI (g : bw_G) (x M n p gg th : Nat) (A : bw_H) : Prop := ∃ (rn mn pn sn : Nat) (row S : Nat → Nat) (MA PA : Nat → Option Nat) (rr cc Cm Cp : Nat → Nat), fI n rn mn pn sn row S rr cc Cm Cp ∧ xI g x n p gg (M + 20) rn mn pn sn row S MA PA rr cc Cm Cp A ∧ mrI g M n p gg th rn mn pn sn row S rr cc Cm Cp A ∧ ouI g M A
def exN (l : List String) (k : Nat) : String := l.getD (k - 1) ""
/-- both are called: the same code, and the same answer -/
def bth (g : bw_G) (x M n p gg : Nat) (kx km : bw_M) (as : List Value) (E : List String) (A : bw_H) : Prop :=
  ∃ (k : Nat) (v : Int32) (J : bw_H → Prop), k ≤ E.length ∧ (∀ (A1 : bw_H) (f : Nat → Int64), J A1 → J (bw_up A1 (M + 19) (bw_al g 1 f))) ∧ (∀ A1 : bw_H, J A1 → ouI g M A1 ∧ ∃ fs, A1.2 M = some (.inr (12, fs))) ∧
    bw_C g (bw_rm 8 20 200) kx (.ref x :: as) A (fun o A1 => (k = 0 ∧ o = .inl (some (.int v)) ∨ k ≠ 0 ∧ o = .inr (exN E k)) ∧ J A1) ∧
    ∀ A1 : bw_H, J A1 → bw_C g (bw_rm 8 0 0) km (.ref M :: as) A1 (bw_pm (fun y A2 => (k = 0 → y = v) ∧ LI g x M n p gg k A2 ∧ A2.2 (M + 19) = A1.2 (M + 19)))
theorem mrI.ob {g : bw_G} {M n p gg th rn mn pn sn : Nat} {row S rr cc Cm Cp : Nat → Nat} {A : bw_H} (h : mrI g M n p gg th rn mn pn sn row S rr cc Cm Cp A) : ∃ fs, A.2 M = some (.inr (12, fs)) := by
  obtain ⟨rd, rs, pt, dd, V, T, Rt, Pc, L, hc, -⟩ := h
  exact ⟨_, hc.1⟩
theorem bth.gen {g : bw_G} {x M n p gg th k rn mn pn sn rn' mn' pn' sn' : Nat} {v : Int32} {row S row' S' : Nat → Nat} {MA' PA' : Nat → Option Nat} {rr cc Cm Cp rr' cc' Cm' Cp' : Nat → Nat} {A : bw_H} {kx km : bw_M} {as : List Value} {E : List String} (hk : k ≤ E.length) (hxM : x + 57 + 2 * n ≤ M) (hf : fI n rn' mn' pn' sn' row' S' rr' cc' Cm' Cp') (hm : mrI g M n p gg th rn mn pn sn row S rr cc Cm Cp A) (ho : ouI g M A)
    (hX : bw_C g (bw_rm 8 20 200) kx (.ref x :: as) A (fun o A1 => (k = 0 ∧ o = .inl (some (.int v)) ∨ k ≠ 0 ∧ o = .inr (exN E k)) ∧ xI g x n p gg (M + 20) rn' mn' pn' sn' row' S' MA' PA' rr' cc' Cm' Cp' A1 ∧ agr M (M + 20) A A1 ∧ A.1 ≤ A1.1))
    (hM : ∀ A1 : bw_H, mrI g M n p gg th rn mn pn sn row S rr cc Cm Cp A1 → bw_C g (bw_rm 8 0 0) km (.ref M :: as) A1 (bw_pm (fun y A2 => (k = 0 → y = v) ∧ mrI g M n p gg k rn' mn' pn' sn' row' S' rr' cc' Cm' Cp' A2 ∧ (∀ b : Nat, b < M ∨ M + 19 ≤ b → A2.2 b = A1.2 b) ∧ A2.1 = A1.1))) : bth g x M n p gg kx km as E A := by
  refine ⟨k, v, fun A1 => xI g x n p gg (M + 20) rn' mn' pn' sn' row' S' MA' PA' rr' cc' Cm' Cp' A1 ∧ mrI g M n p gg th rn mn pn sn row S rr cc Cm Cp A1 ∧ ouI g M A1, hk, ?_, fun A1 h => ⟨h.2.2, h.2.1.ob⟩, ?_, ?_⟩
  · rintro A1 f ⟨h1, h2, h3, h4⟩
    have hu : ∀ b, b ≠ M + 19 → (bw_up A1 (M + 19) (bw_al g 1 f)).2 b = A1.2 b := fun b hb => bw_up_ne hb
    exact ⟨h1.fr (fun b _ _ => hu b (by omega)) (fun b _ _ => hu b (by omega)) (Nat.le_refl _), h2.fr (fun b _ _ => hu b (by omega)), ⟨f, bw_up_eq⟩, h4⟩
  · refine bw_C.mono hX (fun o A1 h => ⟨h.1, h.2.1, hm.fr (h.2.2.1.sub (Nat.le_refl _) (by omega)), ?_, Nat.le_trans ho.2 h.2.2.2⟩)
    obtain ⟨f, hf0⟩ := ho.1
    exact ⟨f, (h.2.2.1 _ (by omega) (by omega)).trans hf0⟩
  · rintro A1 ⟨h1, h2, ho1⟩
    refine bw_C.mono (hM A1 h2) (fun o A2 h => ?_)
    obtain ⟨y, hy, e1, e2, e3, e4⟩ := h
    refine ⟨y, hy, e1, ⟨rn', mn', pn', sn', row', S', MA', PA', rr', cc', Cm', Cp', hf, h1.fr (fun b _ _ => e3 b (by omega)) (fun b _ _ => e3 b (by omega)) (by omega), e2, ?_, by rw [e4]; exact ho1.2⟩, e3 _ (by omega)⟩
    obtain ⟨f, hf0⟩ := ho1.1
    exact ⟨f, (e3 _ (by omega)).trans hf0⟩
