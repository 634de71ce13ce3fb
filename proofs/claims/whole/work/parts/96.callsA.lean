/-! class and reference side by side: calls that change nothing -/
/-- the class's single cells -/
theorem xI.cs {g : bw_G} {x n p gg B rn mn pn sn : Nat} {row S : Nat → Nat} {MA PA : Nat → Option Nat} {rr cc Cm Cp : Nat → Nat} {A : bw_H} (h : xI g x n p gg B rn mn pn sn row S MA PA rr cc Cm Cp A) : bw_has A [(x, xob x n rn mn pn sn), (x + 5, bw_an g 130 row), (x + 6, bw_aq g 3 40 MA), (x + 7, bw_aq g 4 40 PA), (x + 8, bw_an g 64 S), (x + 9, fob n p gg (x + 9)), (x + 9 + 1, bw_ai g (2 ^ n) (gtb n (2 ^ n ||| p) gg)), (x + 33, dob (x + 9))] := by
  obtain ⟨e0, -, -, e5, e6, e7, e8, eF, -, -, eD, -⟩ := h
  refine ⟨fun q hq => ?_, by simp <;> omega⟩
  simp only [List.mem_cons, List.not_mem_nil, or_false] at hq
  rcases hq with rfl | rfl | rfl | rfl | rfl | rfl | rfl | rfl
  · exact e0
  · exact e5
  · exact e6
  · exact e7
  · exact e8
  · exact eF.at 0 rfl
  · exact eF.at 1 rfl
  · exact eD
/-- the reference's cells, one by one -/
theorem mrC.all {g : bw_G} {M n p gg th rn mn pn sn rd rs pt : Nat} {row S rr cc Cm Cp dd V T Rt Pc : Nat → Nat} {L : Nat → Option Nat} {A : bw_H} (h : mrC g M n p gg th rn mn pn sn rd rs pt row S rr cc Cm Cp dd V T Rt Pc L A) : ∃ f10 f11 f12 f13 f16 f17 : Nat → Nat, zz f10 ∧ zz f11 ∧ zz f12 ∧ zz f13 ∧ zz f16 ∧ zz f17 ∧ bw_has A [(M, mdo M n p gg th rn mn pn rd rs pt sn), (M + 1, bw_an g 130 row), (M + 2, bw_an g 40 rr), (M + 3, bw_an g 40 cc), (M + 4, bw_an g 2560 Cm), (M + 5, bw_an g 65536 V), (M + 6, bw_an g 72 T), (M + 7, bw_ao g 8 L), (M + 8, bw_ao g 40 (fun i => tO (dd i))), (M + 9, bw_an g 2600 Cp), (M + 10, bw_an g 200 f10), (M + 11, bw_an g 200 f11), (M + 12, bw_an g 200 f12), (M + 13, bw_an g 200 f13), (M + 14, bw_an g 64 Rt), (M + 15, bw_an g 65 Pc), (M + 16, bw_an g 200 f16), (M + 17, bw_an g 200 f17), (M + 18, bw_an g 64 S)] := by
  obtain ⟨e0, e1, e2, e3, e4, e5, e6, e7, e8, e9, ⟨f10, z10, e10⟩, ⟨f11, z11, e11⟩, ⟨f12, z12, e12⟩, ⟨f13, z13, e13⟩, e14, e15, ⟨f16, z16, e16⟩, ⟨f17, z17, e17⟩, e18⟩ := h
  refine ⟨f10, f11, f12, f13, f16, f17, z10, z11, z12, z13, z16, z17, fun q hq => ?_, by simp⟩
  simp only [List.mem_cons, List.not_mem_nil, or_false] at hq
  rcases hq with rfl | rfl | rfl | rfl | rfl | rfl | rfl | rfl | rfl | rfl | rfl | rfl | rfl | rfl | rfl | rfl | rfl | rfl | rfl
  · exact e0
  · exact e1
  · exact e2
  · exact e3
  · exact e4
  · exact e5
  · exact e6
  · exact e7
  · exact e8
  · exact e9
  · exact e10
  · exact e11
  · exact e12
  · exact e13
  · exact e14
  · exact e15
  · exact e16
  · exact e17
  · exact e18
theorem bth.pure {g : bw_G} {x M n p gg th k rn mn pn sn : Nat} {v : Int32} {row S : Nat → Nat} {MA PA : Nat → Option Nat} {rr cc Cm Cp : Nat → Nat} {A : bw_H} {kx km : bw_M} {as : List Value} {E : List String} (hk : k ≤ E.length) (hxM : x + 57 + 2 * n ≤ M) (hf : fI n rn mn pn sn row S rr cc Cm Cp) (hx : xI g x n p gg (M + 20) rn mn pn sn row S MA PA rr cc Cm Cp A) (hm : mrI g M n p gg th rn mn pn sn row S rr cc Cm Cp A) (ho : ouI g M A)
    (hX : (k = 0 ∧ bw_C g (bw_rm 8 20 200) kx (.ref x :: as) A (bw_pi v A)) ∨ (k ≠ 0 ∧ bw_C g (bw_rm 8 20 200) kx (.ref x :: as) A (bw_pz (exN E k) A)))
    (hM : ∀ (A1 : bw_H) (rd rs pt : Nat) (dd V T Rt Pc : Nat → Nat) (L : Nat → Option Nat), mrC g M n p gg th rn mn pn sn rd rs pt row S rr cc Cm Cp dd V T Rt Pc L A1 → mrF n (2 ^ n ||| p) pn rd rs pt Cp dd Rt Pc → ∃ y, (k = 0 → y = v) ∧ bw_C g (bw_rm 8 0 0) km (.ref M :: as) A1 (bw_pm (maR M [] (mdo M n p gg k rn mn pn rd rs pt sn) y A1))) : bth g x M n p gg kx km as E A := by
  refine bth.gen (th := th) hk hxM hf hm ho (MA' := MA) (PA' := PA) (v := v) ?_ (fun A1 h1 => ?_)
  · rcases hX with ⟨h0, h⟩ | ⟨h0, h⟩
    · refine bw_C.mono h (fun o A1 h => ?_)
      obtain ⟨h1, rfl⟩ := h
      exact ⟨Or.inl ⟨h0, h1⟩, hx, fun _ _ _ => rfl, Nat.le_refl _⟩
    · refine bw_C.mono h (fun o A1 h => ?_)
      obtain ⟨h1, m, hm, rfl⟩ := h
      exact ⟨Or.inr ⟨h0, h1⟩, hx.fr (fun _ _ _ => rfl) (fun _ _ _ => rfl) hm, fun _ _ _ => rfl, hm⟩
  · obtain ⟨rd, rs, pt, dd, V, T, Rt, Pc, L, hc, hF⟩ := h1
    obtain ⟨y, hy, hC⟩ := hM A1 rd rs pt dd V T Rt Pc L hc hF
    obtain ⟨e0, e1, e2, e3, e4, e5, e6, e7, e8, e9, e10, e11, e12, e13, e14, e15, e16, e17, e18⟩ := hc
    refine bw_C.mono hC (fun o A2 h => ?_)
    obtain ⟨y', hy', rfl, hs, h6⟩ := h
    exact ⟨_, hy', hy, ⟨rd, rs, pt, dd, V, T, Rt, Pc, L, ⟨h6, (hs.2 _ (by simp)).trans e1, (hs.2 _ (by simp)).trans e2, (hs.2 _ (by simp)).trans e3, (hs.2 _ (by simp)).trans e4, (hs.2 _ (by simp)).trans e5, (hs.2 _ (by simp)).trans e6, (hs.2 _ (by simp)).trans e7, (hs.2 _ (by simp)).trans e8, (hs.2 _ (by simp)).trans e9, e10.fr (hs.2 _ (by simp)), e11.fr (hs.2 _ (by simp)), e12.fr (hs.2 _ (by simp)), e13.fr (hs.2 _ (by simp)), (hs.2 _ (by simp)).trans e14, (hs.2 _ (by simp)).trans e15, e16.fr (hs.2 _ (by simp)), e17.fr (hs.2 _ (by simp)), (hs.2 _ (by simp)).trans e18⟩, hF⟩, fun b hb => hs.2 b (by simp; omega), hs.1⟩
theorem mrC.sb {g : bw_G} {M n p gg th rn mn pn sn rd rs pt : Nat} {row S rr cc Cm Cp dd V T Rt Pc : Nat → Nat} {L : Nat → Option Nat} {A : bw_H} (h : mrC g M n p gg th rn mn pn sn rd rs pt row S rr cc Cm Cp dd V T Rt Pc L A) {ws : List (Nat × va_E)} (ps : List Nat) (hs : ps.filterMap (fun i => [(M, mdo M n p gg th rn mn pn rd rs pt sn), (M + 1, bw_an g 130 row), (M + 2, bw_an g 40 rr), (M + 3, bw_an g 40 cc), (M + 4, bw_an g 2560 Cm), (M + 5, bw_an g 65536 V), (M + 6, bw_an g 72 T), (M + 7, bw_ao g 8 L), (M + 8, bw_ao g 40 (fun i => tO (dd i))), (M + 9, bw_an g 2600 Cp)][i]?) = ws) (hn : ps.Nodup := by decide) : bw_has A ws := by
  obtain ⟨f10, f11, f12, f13, f16, f17, -, -, -, -, -, -, hC⟩ := h.all
  exact (hC.sub [0, 1, 2, 3, 4, 5, 6, 7, 8, 9] (by decide) rfl).sub ps hn hs
theorem xI.mat {g : bw_G} {x n p gg B rn mn pn sn : Nat} {row S : Nat → Nat} {MA PA : Nat → Option Nat} {rr cc Cm Cp : Nat → Nat} {A : bw_H} (h : xI g x n p gg B rn mn pn sn row S MA PA rr cc Cm Cp A) (k : Nat) (hk : k < mn) : ∃ (a : Nat) (f : Nat → Nat), MA k = some a ∧ B ≤ a ∧ a + 1 < A.1 ∧ bw_has A (mcl g a (rr k) (cc k) f) ∧ (∀ t, f t < 2 ^ n) ∧ ∀ i j, i < rr k → j < cc k → f (i * cc k + j) = Cm (64 * k + 8 * i + j) := h.2.2.2.2.2.2.2.2.2.2.2.2.2.2.1.1 k hk
theorem xI.pol {g : bw_G} {x n p gg B rn mn pn sn : Nat} {row S : Nat → Nat} {MA PA : Nat → Option Nat} {rr cc Cm Cp : Nat → Nat} {A : bw_H} (h : xI g x n p gg B rn mn pn sn row S MA PA rr cc Cm Cp A) (k : Nat) (hk : k < pn) : ∃ (b : Nat) (w : Value), PA k = some b ∧ B ≤ b ∧ b + 1 < A.1 ∧ bw_has A (ppl g b 65 (gcf Cp k) w) ∧ (w = .null ∨ ∃ wa, w = .ref wa ∧ B ≤ wa ∧ wa < A.1 ∧ A.2 wa = some (bw_an g 65 (gcnt n (2 ^ n ||| p) (gcf Cp k)))) := h.2.2.2.2.2.2.2.2.2.2.2.2.2.2.2.1 k hk
theorem xI.matC {g : bw_G} {x M n p gg rn mn pn sn : Nat} {row S : Nat → Nat} {MA PA : Nat → Option Nat} {rr cc Cm Cp : Nat → Nat} {A : bw_H} (h : xI g x n p gg (M + 20) rn mn pn sn row S MA PA rr cc Cm Cp A) {a r c : Nat} {f : Nat → Nat} (ha : M + 20 ≤ a) (hC : bw_has A (mcl g a r c f)) (hxM : x + 57 + 2 * n ≤ M) : bw_has A ((x, xob x n rn mn pn sn) :: (x + 6, bw_aq g 3 40 MA) :: mcl g a r c f) := (h.cs.sub [0, 2] (by decide) rfl).ap hC (by simp; omega)
theorem xI.polC {g : bw_G} {x M n p gg rn mn pn sn : Nat} {row S : Nat → Nat} {MA PA : Nat → Option Nat} {rr cc Cm Cp : Nat → Nat} {A : bw_H} (h : xI g x n p gg (M + 20) rn mn pn sn row S MA PA rr cc Cm Cp A) {b m : Nat} {w : Value} {f : Nat → Nat} (ha : M + 20 ≤ b) (hC : bw_has A (pcl g b 65 f m w)) (hxM : x + 57 + 2 * n ≤ M) : bw_has A ((x, xob x n rn mn pn sn) :: (x + 7, bw_aq g 4 40 PA) :: pcl g b 65 f m w) := (h.cs.sub [0, 3] (by decide) rfl).ap hC (by simp; omega)
section CALLS
variable {g : bw_G} {x M n p gg th : Nat} {A : bw_H}
theorem b_poly (hG : GFg n p gg) (hxM : x + 57 + 2 * n ≤ M) (h : LI g x M n p gg th A) : bth g x M n p gg mX9_poly mX10_poly [] [] A := by
  obtain ⟨rn, mn, pn, sn, row, S, MA, PA, rr, cc, Cm, Cp, hf, hx, hm, ho⟩ := h
  obtain ⟨f1, f2, f3, f4, f5, f6, f7, f8, f9, f10⟩ := hf
  exact bth.pure (k := 0) (v := nI p) (by decide) hxM ⟨f1, f2, f3, f4, f5, f6, f7, f8, f9, f10⟩ hx hm ho (Or.inl ⟨rfl, k9_poly g (hx.cs.sub [0, 5] (by decide) rfl)⟩) (fun A1 rd rs pt dd V T Rt Pc L hc hF => ⟨_, fun _ => rfl, m_poly g (bw_has.one hc.1)⟩)
theorem b_generator (hG : GFg n p gg) (hxM : x + 57 + 2 * n ≤ M) (h : LI g x M n p gg th A) : bth g x M n p gg mX9_generator mX10_generator [] [] A := by
  obtain ⟨rn, mn, pn, sn, row, S, MA, PA, rr, cc, Cm, Cp, hf, hx, hm, ho⟩ := h
  obtain ⟨f1, f2, f3, f4, f5, f6, f7, f8, f9, f10⟩ := hf
  exact bth.pure (k := 0) (v := nI gg) (by decide) hxM ⟨f1, f2, f3, f4, f5, f6, f7, f8, f9, f10⟩ hx hm ho (Or.inl ⟨rfl, k9_generator g (hx.cs.sub [0, 5] (by decide) rfl)⟩) (fun A1 rd rs pt dd V T Rt Pc L hc hF => ⟨_, fun _ => rfl, m_generator g (bw_has.one hc.1)⟩)
theorem b_product (hG : GFg n p gg) (hxM : x + 57 + 2 * n ≤ M) (h : LI g x M n p gg th A) (a b : Int32) : bth g x M n p gg mX9_product mX10_product [.int a, .int b] [eIA] A := by
  obtain ⟨rn, mn, pn, sn, row, S, MA, PA, rr, cc, Cm, Cp, hf, hx, hm, ho⟩ := h
  obtain ⟨f1, f2, f3, f4, f5, f6, f7, f8, f9, f10⟩ := hf
  by_cases hab : mI n a ∧ mI n b
  · obtain ⟨i, hi, rfl⟩ := mI_of hG.p16 hab.1
    obtain ⟨j, hj, rfl⟩ := mI_of hG.p16 hab.2
    exact bth.pure (k := 0) (v := nI (gm n (2 ^ n ||| p) i j)) (by decide) hxM ⟨f1, f2, f3, f4, f5, f6, f7, f8, f9, f10⟩ hx hm ho (Or.inl ⟨rfl, k9_product g hG (hx.cs.sub [0, 5, 6] (by decide) rfl) hi hj⟩) (fun A1 rd rs pt dd V T Rt Pc L hc hF => ⟨_, fun _ => rfl, m_product g hG (bw_has.one hc.1) hi hj⟩)
  · exact bth.pure (k := 1) (v := 0) (by decide) hxM ⟨f1, f2, f3, f4, f5, f6, f7, f8, f9, f10⟩ hx hm ho (Or.inr ⟨by decide, k9_productX g (hx.cs.sub [0, 5, 6] (by decide) rfl) hab⟩) (fun A1 rd rs pt dd V T Rt Pc L hc hF => ⟨nI 0, fun h => absurd h (by decide), m_productX g (bw_has.one hc.1) hab⟩)
theorem b_quotient (hG : GFg n p gg) (hxM : x + 57 + 2 * n ≤ M) (h : LI g x M n p gg th A) (a b : Int32) : bth g x M n p gg mX9_quotient mX10_quotient [.int a, .int b] [eIA, eAE] A := by
  obtain ⟨rn, mn, pn, sn, row, S, MA, PA, rr, cc, Cm, Cp, hf, hx, hm, ho⟩ := h
  obtain ⟨f1, f2, f3, f4, f5, f6, f7, f8, f9, f10⟩ := hf
  by_cases hab : mI n a ∧ mI n b
  · obtain ⟨i, hi, rfl⟩ := mI_of hG.p16 hab.1
    obtain ⟨j, hj, rfl⟩ := mI_of hG.p16 hab.2
    by_cases hj0 : j = 0
    · subst hj0
      exact bth.pure (k := 2) (v := 0) (by decide) hxM ⟨f1, f2, f3, f4, f5, f6, f7, f8, f9, f10⟩ hx hm ho (Or.inr ⟨by decide, k9_quotient0 g hG (hx.cs.sub [0, 5, 6] (by decide) rfl) hi⟩) (fun A1 rd rs pt dd V T Rt Pc L hc hF => ⟨nI 0, fun h => absurd h (by decide), m_quotient0 g hG (bw_has.one hc.1) hi⟩)
    · exact bth.pure (k := 0) (v := nI (gm n (2 ^ n ||| p) i (ginv n (2 ^ n ||| p) j))) (by decide) hxM ⟨f1, f2, f3, f4, f5, f6, f7, f8, f9, f10⟩ hx hm ho (Or.inl ⟨rfl, k9_quotient g hG (hx.cs.sub [0, 5, 6] (by decide) rfl) hi hj hj0⟩) (fun A1 rd rs pt dd V T Rt Pc L hc hF => ⟨_, fun _ => rfl, m_quotient g hG (bw_has.one hc.1) hi hj hj0⟩)
  · exact bth.pure (k := 1) (v := 0) (by decide) hxM ⟨f1, f2, f3, f4, f5, f6, f7, f8, f9, f10⟩ hx hm ho (Or.inr ⟨by decide, k9_quotientX g (hx.cs.sub [0, 5, 6] (by decide) rfl) hab⟩) (fun A1 rd rs pt dd V T Rt Pc L hc hF => ⟨nI 0, fun h => absurd h (by decide), m_quotientX g (bw_has.one hc.1) hab⟩)
theorem b_power (hG : GFg n p gg) (hxM : x + 57 + 2 * n ≤ M) (h : LI g x M n p gg th A) (a : Int32) (y : Int64) : bth g x M n p gg mX9_power mX10_power [.int a, .long y] [eIA, eAE] A := by
  obtain ⟨rn, mn, pn, sn, row, S, MA, PA, rr, cc, Cm, Cp, hf, hx, hm, ho⟩ := h
  obtain ⟨f1, f2, f3, f4, f5, f6, f7, f8, f9, f10⟩ := hf
  by_cases hab : mI n a
  · obtain ⟨i, hi, rfl⟩ := mI_of hG.p16 hab
    by_cases hj0 : i = 0 ∧ y < 0
    · obtain ⟨rfl, hy⟩ := hj0
      exact bth.pure (k := 2) (v := 0) (by decide) hxM ⟨f1, f2, f3, f4, f5, f6, f7, f8, f9, f10⟩ hx hm ho (Or.inr ⟨by decide, k9_power0 g hG (hx.cs.sub [0, 5, 6] (by decide) rfl) hy⟩) (fun A1 rd rs pt dd V T Rt Pc L hc hF => ⟨nI 0, fun h => absurd h (by decide), m_power0 g hG.p16 (bw_has.one hc.1) hy⟩)
    · exact bth.pure (k := 0) (v := nI (gpz n (2 ^ n ||| p) i y)) (by decide) hxM ⟨f1, f2, f3, f4, f5, f6, f7, f8, f9, f10⟩ hx hm ho (Or.inl ⟨rfl, k9_power g hG (hx.cs.sub [0, 5, 6] (by decide) rfl) hi hj0⟩) (fun A1 rd rs pt dd V T Rt Pc L hc hF => ⟨_, fun _ => rfl, m_power g hG (bw_has.one hc.1) hi hj0⟩)
  · exact bth.pure (k := 1) (v := 0) (by decide) hxM ⟨f1, f2, f3, f4, f5, f6, f7, f8, f9, f10⟩ hx hm ho (Or.inr ⟨by decide, k9_powerX g (hx.cs.sub [0, 5, 6] (by decide) rfl) hab⟩) (fun A1 rd rs pt dd V T Rt Pc L hc hF => ⟨nI 0, fun h => absurd h (by decide), m_powerX g (bw_has.one hc.1) hab⟩)
theorem b_log (hG : GFg n p gg) (hxM : x + 57 + 2 * n ≤ M) (h : LI g x M n p gg th A) (a : Int32) : bth g x M n p gg mX9_log mX10_log [.int a] [eIA, eAI] A := by
  obtain ⟨rn, mn, pn, sn, row, S, MA, PA, rr, cc, Cm, Cp, hf, hx, hm, ho⟩ := h
  obtain ⟨f1, f2, f3, f4, f5, f6, f7, f8, f9, f10⟩ := hf
  by_cases hab : mI n a
  · obtain ⟨i, hi, rfl⟩ := mI_of hG.p16 hab
    by_cases hj0 : i = 0
    · subst hj0
      exact bth.pure (k := 2) (v := 0) (by decide) hxM ⟨f1, f2, f3, f4, f5, f6, f7, f8, f9, f10⟩ hx hm ho (Or.inr ⟨by decide, k9_log0 g hG (hx.cs.sub [0, 5, 6] (by decide) rfl)⟩) (fun A1 rd rs pt dd V T Rt Pc L hc hF => ⟨nI 0, fun h => absurd h (by decide), m_log0 g hG.p16 (bw_has.one hc.1)⟩)
    · exact bth.pure (k := 0) (v := nI (glog n (2 ^ n ||| p) gg i)) (by decide) hxM ⟨f1, f2, f3, f4, f5, f6, f7, f8, f9, f10⟩ hx hm ho (Or.inl ⟨rfl, k9_log g hG (hx.cs.sub [0, 5, 6] (by decide) rfl) hi hj0⟩) (fun A1 rd rs pt dd V T Rt Pc L hc hF => ⟨_, fun _ => rfl, m_log g hG (bw_has.one hc.1) hi hj0⟩)
  · exact bth.pure (k := 1) (v := 0) (by decide) hxM ⟨f1, f2, f3, f4, f5, f6, f7, f8, f9, f10⟩ hx hm ho (Or.inr ⟨by decide, k9_logX g (hx.cs.sub [0, 5, 6] (by decide) rfl) hab⟩) (fun A1 rd rs pt dd V T Rt Pc L hc hF => ⟨nI 0, fun h => absurd h (by decide), m_logX g (bw_has.one hc.1) hab⟩)
theorem b_order (hG : GFg n p gg) (hxM : x + 57 + 2 * n ≤ M) (h : LI g x M n p gg th A) (a : Int32) : bth g x M n p gg mX9_order mX10_order [.int a] [eIA] A := by
  obtain ⟨rn, mn, pn, sn, row, S, MA, PA, rr, cc, Cm, Cp, hf, hx, hm, ho⟩ := h
  obtain ⟨f1, f2, f3, f4, f5, f6, f7, f8, f9, f10⟩ := hf
  by_cases hab : mI n a
  · obtain ⟨i, hi, rfl⟩ := mI_of hG.p16 hab
    exact bth.pure (k := 0) (v := nI (if i = 0 then 0 else gco (2 ^ n - 1) (glog n (2 ^ n ||| p) gg i) 4)) (by decide) hxM ⟨f1, f2, f3, f4, f5, f6, f7, f8, f9, f10⟩ hx hm ho (Or.inl ⟨rfl, k9_order g hG (hx.cs.sub [0, 5, 6] (by decide) rfl) hi⟩) (fun A1 rd rs pt dd V T Rt Pc L hc hF => ⟨_, fun _ => rfl, m_order g hG (bw_has.one hc.1) hi⟩)
  · exact bth.pure (k := 1) (v := 0) (by decide) hxM ⟨f1, f2, f3, f4, f5, f6, f7, f8, f9, f10⟩ hx hm ho (Or.inr ⟨by decide, k9_orderX g (hx.cs.sub [0, 5, 6] (by decide) rfl) hab⟩) (fun A1 rd rs pt dd V T Rt Pc L hc hF => ⟨nI 0, fun h => absurd h (by decide), m_orderX g (bw_has.one hc.1) hab⟩)
theorem b_row (hG : GFg n p gg) (hxM : x + 57 + 2 * n ≤ M) (h : LI g x M n p gg th A) (a : Int32) : bth g x M n p gg mX9_row mX10_row [.int a] [eIO] A := by
  obtain ⟨rn, mn, pn, sn, row, S, MA, PA, rr, cc, Cm, Cp, hf, hx, hm, ho⟩ := h
  obtain ⟨f1, f2, f3, f4, f5, f6, f7, f8, f9, f10⟩ := hf
  by_cases ha : a < 0
  · exact bth.pure (k := 1) (v := 0) (by decide) hxM ⟨f1, f2, f3, f4, f5, f6, f7, f8, f9, f10⟩ hx hm ho (Or.inr ⟨by decide, k9_rowX g (hx.cs.sub [0, 1] (by decide) rfl) ha⟩) (fun A1 rd rs pt dd V T Rt Pc L hc hF => ⟨nI 0, fun h => absurd h (by decide), m_rowX g (bw_has.one hc.1) ha⟩)
  · obtain ⟨k, hk, rfl⟩ := nI_of ha
    exact bth.pure (k := 0) (v := if k < rn then nI (row k) else -1) (by decide) hxM ⟨f1, f2, f3, f4, f5, f6, f7, f8, f9, f10⟩ hx hm ho (Or.inl ⟨rfl, k9_row g (hx.cs.sub [0, 1] (by decide) rfl) f1 hk⟩) (fun A1 rd rs pt dd V T Rt Pc L hc hF => ⟨_, fun _ => rfl, m_row g (mrC.sb hc [0, 1] rfl) f1 hk⟩)
theorem told_out {a : Int32} (h0 : ¬ a = nI 0) (h1 : ¬ a = nI 1) (h2 : ¬ a = nI 2) (h3 : ¬ a = nI 3) : a.toInt < 0 ∨ 3 < a.toInt := by
  by_cases h : a < 0
  · exact Or.inl (Int32.lt_iff_toInt_lt.mp h)
  · obtain ⟨j, hj, rfl⟩ := nI_of h
    refine Or.inr ?_
    rw [nI_toInt hj]
    have e0 : j ≠ 0 := fun e => h0 (by rw [e])
    have e1 : j ≠ 1 := fun e => h1 (by rw [e])
    have e2 : j ≠ 2 := fun e => h2 (by rw [e])
    have e3 : j ≠ 3 := fun e => h3 (by rw [e])
    omega
theorem b_told (hG : GFg n p gg) (hxM : x + 57 + 2 * n ≤ M) (h : LI g x M n p gg th A) (a : Int32) : bth g x M n p gg mX9_told mX10_told [.int a] [eIA] A := by
  obtain ⟨rn, mn, pn, sn, row, S, MA, PA, rr, cc, Cm, Cp, hf, hx, hm, ho⟩ := h
  obtain ⟨f1, f2, f3, f4, f5, f6, f7, f8, f9, f10⟩ := hf
  by_cases h0 : a = nI 0
  · subst h0
    exact bth.pure (k := 0) (v := nI rn) (by decide) hxM ⟨f1, f2, f3, f4, f5, f6, f7, f8, f9, f10⟩ hx hm ho (Or.inl ⟨rfl, k9_told0 g (hx.cs.sub [0] (by decide) rfl)⟩) (fun A1 rd rs pt dd V T Rt Pc L hc hF => ⟨_, fun _ => rfl, m_told0 g (bw_has.one hc.1)⟩)
  by_cases h1 : a = nI 1
  · subst h1
    exact bth.pure (k := 0) (v := nI mn) (by decide) hxM ⟨f1, f2, f3, f4, f5, f6, f7, f8, f9, f10⟩ hx hm ho (Or.inl ⟨rfl, k9_told1 g (hx.cs.sub [0] (by decide) rfl)⟩) (fun A1 rd rs pt dd V T Rt Pc L hc hF => ⟨_, fun _ => rfl, m_told1 g (bw_has.one hc.1)⟩)
  by_cases h2 : a = nI 2
  · subst h2
    exact bth.pure (k := 0) (v := nI pn) (by decide) hxM ⟨f1, f2, f3, f4, f5, f6, f7, f8, f9, f10⟩ hx hm ho (Or.inl ⟨rfl, k9_told2 g (hx.cs.sub [0] (by decide) rfl)⟩) (fun A1 rd rs pt dd V T Rt Pc L hc hF => ⟨_, fun _ => rfl, m_told2 g (bw_has.one hc.1)⟩)
  by_cases h3 : a = nI 3
  · subst h3
    exact bth.pure (k := 0) (v := nI sn) (by decide) hxM ⟨f1, f2, f3, f4, f5, f6, f7, f8, f9, f10⟩ hx hm ho (Or.inl ⟨rfl, k9_told3 g (hx.cs.sub [0] (by decide) rfl)⟩) (fun A1 rd rs pt dd V T Rt Pc L hc hF => ⟨_, fun _ => rfl, m_told3 g (bw_has.one hc.1)⟩)
  exact bth.pure (k := 1) (v := 0) (by decide) hxM ⟨f1, f2, f3, f4, f5, f6, f7, f8, f9, f10⟩ hx hm ho (Or.inr ⟨by decide, k9_toldX g (told_out h0 h1 h2 h3)⟩) (fun A1 rd rs pt dd V T Rt Pc L hc hF => ⟨nI 0, fun h => absurd h (by decide), m_toldX g (bw_has.one hc.1) h0 h1 h2 h3⟩)
theorem b_size (hG : GFg n p gg) (hxM : x + 57 + 2 * n ≤ M) (h : LI g x M n p gg th A) (a w : Int32) : bth g x M n p gg mX9_size mX10_size [.int a, .int w] [eIO, eIA] A := by
  obtain ⟨rn, mn, pn, sn, row, S, MA, PA, rr, cc, Cm, Cp, hf, hx, hm, ho⟩ := h
  obtain ⟨f1, f2, f3, f4, f5, f6, f7, f8, f9, f10⟩ := hf
  by_cases ha : kI mn a
  · obtain ⟨k, hk, rfl⟩ := kI_of (by omega) ha
    obtain ⟨am, f, q1, q2, q3, q4, q5, q6⟩ := hx.mat k hk
    by_cases h0 : w = nI 0
    · subst h0
      exact bth.pure (k := 0) (v := nI (rr k)) (by decide) hxM ⟨f1, f2, f3, f4, f5, f6, f7, f8, f9, f10⟩ hx hm ho (Or.inl ⟨rfl, k9_size0 g (hx.matC q2 q4 hxM) hk f2 q1⟩) (fun A1 rd rs pt dd V T Rt Pc L hc hF => ⟨_, fun _ => rfl, m_size0 g (mrC.sb hc [0, 2, 3] rfl) f2 hk⟩)
    · by_cases h1 : w = nI 1
      · subst h1
        exact bth.pure (k := 0) (v := nI (cc k)) (by decide) hxM ⟨f1, f2, f3, f4, f5, f6, f7, f8, f9, f10⟩ hx hm ho (Or.inl ⟨rfl, k9_size1 g (hx.matC q2 q4 hxM) hk f2 q1⟩) (fun A1 rd rs pt dd V T Rt Pc L hc hF => ⟨_, fun _ => rfl, m_size1 g (mrC.sb hc [0, 2, 3] rfl) f2 hk⟩)
      · exact bth.pure (k := 2) (v := 0) (by decide) hxM ⟨f1, f2, f3, f4, f5, f6, f7, f8, f9, f10⟩ hx hm ho (Or.inr ⟨by decide, k9_sizeY g (hx.matC q2 q4 hxM) hk f2 q1 h0 h1⟩) (fun A1 rd rs pt dd V T Rt Pc L hc hF => ⟨nI 0, fun h => absurd h (by decide), m_sizeY g (bw_has.one hc.1) f2 hk h0 h1⟩)
  · exact bth.pure (k := 1) (v := 0) (by decide) hxM ⟨f1, f2, f3, f4, f5, f6, f7, f8, f9, f10⟩ hx hm ho (Or.inr ⟨by decide, k9_sizeX g (hx.cs.sub [0] (by decide) rfl) ha⟩) (fun A1 rd rs pt dd V T Rt Pc L hc hF => ⟨nI 0, fun h => absurd h (by decide), m_sizeX g (bw_has.one hc.1) ha⟩)
theorem b_cell (hG : GFg n p gg) (hxM : x + 57 + 2 * n ≤ M) (h : LI g x M n p gg th A) (a b d : Int32) : bth g x M n p gg mX9_cell mX10_cell [.int a, .int b, .int d] [eIO] A := by
  obtain ⟨rn, mn, pn, sn, row, S, MA, PA, rr, cc, Cm, Cp, hf, hx, hm, ho⟩ := h
  obtain ⟨f1, f2, f3, f4, f5, f6, f7, f8, f9, f10⟩ := hf
  by_cases ha : kI mn a
  · obtain ⟨k, hk, rfl⟩ := kI_of (by omega) ha
    obtain ⟨am, f, q1, q2, q3, q4, q5, q6⟩ := hx.mat k hk
    obtain ⟨t1, t2, t3, t4⟩ := f7 k hk
    by_cases hb : kI (rr k) b ∧ kI (cc k) d
    · obtain ⟨i, hi, rfl⟩ := kI_of (by omega) hb.1
      obtain ⟨j, hj, rfl⟩ := kI_of (by omega) hb.2
      exact bth.pure (k := 0) (v := nI (Cm (64 * k + 8 * i + j))) (by decide) hxM ⟨f1, f2, f3, f4, f5, f6, f7, f8, f9, f10⟩ hx hm ho (Or.inl ⟨rfl, by rw [← q6 i j hi hj]; exact k9_cell g (hx.matC q2 q4 hxM) hk f2 q1 t2 t4 hi hj⟩) (fun A1 rd rs pt dd V T Rt Pc L hc hF => ⟨_, fun _ => rfl, m_cell g (mrC.sb hc [0, 2, 3, 4] rfl) f2 hk t2 t4 hi hj⟩)
    · exact bth.pure (k := 1) (v := 0) (by decide) hxM ⟨f1, f2, f3, f4, f5, f6, f7, f8, f9, f10⟩ hx hm ho (Or.inr ⟨by decide, k9_cellY g (hx.matC q2 q4 hxM) hk f2 q1 hb⟩) (fun A1 rd rs pt dd V T Rt Pc L hc hF => ⟨nI 0, fun h => absurd h (by decide), m_cellX g (mrC.sb hc [0, 2, 3, 4] rfl) (fun A hA => m_isCellY g (hA.sub [0, 1, 2] (by decide) rfl) f2 hk hb)⟩)
  · exact bth.pure (k := 1) (v := 0) (by decide) hxM ⟨f1, f2, f3, f4, f5, f6, f7, f8, f9, f10⟩ hx hm ho (Or.inr ⟨by decide, k9_cellX g (hx.cs.sub [0] (by decide) rfl) ha⟩) (fun A1 rd rs pt dd V T Rt Pc L hc hF => ⟨nI 0, fun h => absurd h (by decide), m_cellX g (mrC.sb hc [0, 2, 3, 4] rfl) (fun A hA => m_isCellX g (hA.sub [0] (by decide) rfl) ha)⟩)
theorem b_degree (hG : GFg n p gg) (hxM : x + 57 + 2 * n ≤ M) (h : LI g x M n p gg th A) (a : Int32) : bth g x M n p gg mX9_degree mX10_degree [.int a] [eIO] A := by
  obtain ⟨rn, mn, pn, sn, row, S, MA, PA, rr, cc, Cm, Cp, hf, hx, hm, ho⟩ := h
  obtain ⟨f1, f2, f3, f4, f5, f6, f7, f8, f9, f10⟩ := hf
  by_cases ha : kI pn a
  · obtain ⟨k, hk, rfl⟩ := kI_of (by omega) ha
    obtain ⟨bm, w, q1, q2, q3, q4, q5⟩ := hx.pol k hk
    exact bth.pure (k := 0) (v := tI (pd (gcf Cp k))) (by decide) hxM ⟨f1, f2, f3, f4, f5, f6, f7, f8, f9, f10⟩ hx hm ho (Or.inl ⟨rfl, k9_degree g (hx.polC q2 q4 hxM) hk f3 q1⟩) (fun A1 rd rs pt dd V T Rt Pc L hc hF => ⟨_, fun _ => rfl, by have e := m_degree g (dd := dd) (mrC.sb hc [0, 8] rfl) f3 hk; rw [hF.1 k hk] at e; exact e⟩)
  · exact bth.pure (k := 1) (v := 0) (by decide) hxM ⟨f1, f2, f3, f4, f5, f6, f7, f8, f9, f10⟩ hx hm ho (Or.inr ⟨by decide, k9_degreeX g (hx.cs.sub [0] (by decide) rfl) ha⟩) (fun A1 rd rs pt dd V T Rt Pc L hc hF => ⟨nI 0, fun h => absurd h (by decide), m_degreeX g (bw_has.one hc.1) ha⟩)
theorem b_coefficient (hG : GFg n p gg) (hxM : x + 57 + 2 * n ≤ M) (h : LI g x M n p gg th A) (a b : Int32) : bth g x M n p gg mX9_coefficient mX10_coefficient [.int a, .int b] [eIO] A := by
  obtain ⟨rn, mn, pn, sn, row, S, MA, PA, rr, cc, Cm, Cp, hf, hx, hm, ho⟩ := h
  obtain ⟨f1, f2, f3, f4, f5, f6, f7, f8, f9, f10⟩ := hf
  by_cases ha : kI pn a
  · obtain ⟨k, hk, rfl⟩ := kI_of (by omega) ha
    obtain ⟨bm, w, q1, q2, q3, q4, q5⟩ := hx.pol k hk
    by_cases hb : b < 0
    · exact bth.pure (k := 1) (v := 0) (by decide) hxM ⟨f1, f2, f3, f4, f5, f6, f7, f8, f9, f10⟩ hx hm ho (Or.inr ⟨by decide, k9_coefficientY g (hx.cs.sub [0, 3] (by decide) rfl) hk f3 q1 hb⟩) (fun A1 rd rs pt dd V T Rt Pc L hc hF => ⟨nI 0, fun h => absurd h (by decide), m_coefficientX g (bw_has.one hc.1) (fun h => h.2 hb)⟩)
    · obtain ⟨j, hj, rfl⟩ := nI_of hb
      exact bth.pure (k := 0) (v := nI (gcf Cp k j)) (by decide) hxM ⟨f1, f2, f3, f4, f5, f6, f7, f8, f9, f10⟩ hx hm ho (Or.inl ⟨rfl, k9_coefficient g (hx.polC q2 q4 hxM) (gcf_ok f9 k) hk f3 q1 hj⟩) (fun A1 rd rs pt dd V T Rt Pc L hc hF => ⟨_, fun _ => rfl, m_coefficient g (mrC.sb hc [0, 9] rfl) f3 hk hj⟩)
  · exact bth.pure (k := 1) (v := 0) (by decide) hxM ⟨f1, f2, f3, f4, f5, f6, f7, f8, f9, f10⟩ hx hm ho (Or.inr ⟨by decide, k9_coefficientX g (hx.cs.sub [0] (by decide) rfl) ha⟩) (fun A1 rd rs pt dd V T Rt Pc L hc hF => ⟨nI 0, fun h => absurd h (by decide), m_coefficientX g (bw_has.one hc.1) (fun h => ha h.1)⟩)
end CALLS
