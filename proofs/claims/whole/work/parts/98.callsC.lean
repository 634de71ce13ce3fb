/-! class and reference side by side: values, matrices -/
theorem gfv_lt {n q sn : Nat} (hG : GFp n q) {f row S : Nat → Nat} (hf : ∀ i, f i < 2 ^ n) (hrow : ∀ i, row i < 2 ^ n) (i : Nat) : gfv n q f row S sn i < 2 ^ n := by
  unfold gfv
  split
  · exact gho_lt hG hf _ (Nat.two_pow_pos n)
  · exact hrow i
theorem gsr_lt {n q c k : Nat} {row : Nat → Nat} {W : Nat → Nat → Nat} {pv : Nat → Option Nat} (hW : ∀ a b, W a b < 2 ^ n) (hrow : ∀ i, row i < 2 ^ n) (i : Nat) : gsr n q row W pv c k i < 2 ^ n := by
  unfold gsr
  split
  · unfold gsl
    split
    · exact Nat.two_pow_pos n
    · exact hW _ _
  · exact hrow i
theorem gv1_lt {n : Nat} (h1 : 1 < 2 ^ n) {V : Nat → Nat → Nat} (hV : ∀ i j, V i j < 2 ^ n) (i j : Nat) : gv1 V i j < 2 ^ n := by
  unfold gv1
  split
  · exact h1
  · exact hV i j
/-- minors alone -/
theorem xI.u4 {g : bw_G} {x M n p gg rn mn pn sn : Nat} {row S : Nat → Nat} {MA PA : Nat → Option Nat} {rr cc Cm Cp : Nat → Nat} {A A' : bw_H} (h : xI g x n p gg (M + 20) rn mn pn sn row S MA PA rr cc Cm Cp A) (hxM : x + 57 + 2 * n ≤ M) (ho : ouI g M A) (hs : bw_sm (mnL (x + 23)) A A') (hN : nP g x n A') : xI g x n p gg (M + 20) rn mn pn sn row S MA PA rr cc Cm Cp A' ∧ agr M (M + 20) A A' ∧ A.1 ≤ A'.1 := by
  have k : ∀ b, (b < x + 24 ∨ x + 33 ≤ b) → A'.2 b = A.2 b := fun b h1 => hs.2 b (by simp [List.mem_range'_1]; omega)
  exact h.fx hxM (Nat.le_of_eq hs.1.symm) (fun b _ hb => k b (by omega)) ho.2 ((k _ (by omega)).trans h.1) (Or.inl fun b _ _ => k b (by omega)) (Or.inl fun b _ _ => k b (by omega)) ((k _ (by omega)).trans h.2.2.2.1) ((k _ (by omega)).trans h.2.2.2.2.2.2.1) (Or.inl fun b _ _ => k b (by omega)) (Or.inr hN) (Or.inl fun b _ _ => k b (by omega)) (Or.inl fun b _ _ => k b (by omega)) (Or.inl fun b _ _ => k b (by omega))
/-- a matrix's cells change -/
theorem xI.u5 {g : bw_G} {x M n p gg rn mn pn sn k i j v am : Nat} {row S f : Nat → Nat} {MA PA : Nat → Option Nat} {rr cc Cm Cp : Nat → Nat} {A A' : bw_H} (h : xI g x n p gg (M + 20) rn mn pn sn row S MA PA rr cc Cm Cp A) (hxM : x + 57 + 2 * n ≤ M) (hsz : ∀ k, k < mn → 1 ≤ rr k ∧ rr k ≤ 8 ∧ 1 ≤ cc k ∧ cc k ≤ 8) (hk : k < mn) (q1 : MA k = some am) (q2 : M + 20 ≤ am) (q3 : am + 1 < A.1) (q4 : bw_has A (mcl g am (rr k) (cc k) f)) (q5 : ∀ t, f t < 2 ^ n) (q6 : ∀ i j, i < rr k → j < cc k → f (i * cc k + j) = Cm (64 * k + 8 * i + j)) (hi : i < rr k) (hj : j < cc k) (hv : v < 2 ^ n) (hA : A' = bw_up A (am + 1) (bw_an g (rr k * cc k) (fun t => if t = i * cc k + j then v else f t))) :
    xI g x n p gg (M + 20) rn mn pn sn row S MA PA rr cc (fun t => if t = 64 * k + 8 * i + j then v else Cm t) Cp A' ∧ agr M (M + 20) A A' ∧ A.1 ≤ A'.1 := by
  have hu : ∀ b, b ≠ am + 1 → A'.2 b = A.2 b := fun b hb => by rw [hA]; exact bw_up_ne hb
  have hz : A'.1 = A.1 := by rw [hA]; rfl
  have e := h
  obtain ⟨e0, -, -, e5, e6, e7, e8, -, -, -, -, -, -, -, eM, ePp⟩ := e
  have kind : ∀ b cl vs, A.2 b = some (.inr (cl, vs)) → b ≠ am + 1 := fun b cl vs hb he => by
    rw [he, q4.at 1 rfl] at hb
    cases hb
  refine ⟨h.gen ((hu _ (by omega)).trans e0) (Or.inl fun b _ _ => hu b (by omega)) (Or.inl fun b _ _ => hu b (by omega)) ((hu _ (by omega)).trans e5) ((hu _ (by omega)).trans e6) ((hu _ (by omega)).trans e7) ((hu _ (by omega)).trans e8) (fun b _ _ => hu b (by omega)) (Or.inl fun b _ _ => hu b (by omega)) (Or.inl fun b _ _ => hu b (by omega)) (fun b _ _ => hu b (by omega)) (Or.inl fun b _ _ => hu b (by omega)) (Or.inl fun b _ _ => hu b (by omega)) (Or.inl fun b _ _ => hu b (by omega)) ⟨fun k' hk' => ?_, eM.2⟩ ⟨fun k' hk' => ?_, ePp.2⟩, fun b _ _ => hu b (by omega), by omega⟩
  · by_cases hkk : k' = k
    · subst hkk
      refine ⟨am, fun t => if t = i * cc k' + j then v else f t, q1, q2, by omega, ?_, fun t => ?_, fun i' j' hi' hj' => ?_⟩
      · exact q4.upd 1 rfl hA
      · simp only
        split
        · exact hv
        · exact q5 t
      · simp only
        obtain ⟨t1, t2, t3, t4⟩ := hsz k' hk
        have d1 := dm_ij (i := i') hj'
        have d2 := dm_ij (i := i) hj
        by_cases he : i' * cc k' + j' = i * cc k' + j
        · rw [he] at d1
          have : i' = i := by omega
          have : j' = j := by omega
          rw [if_pos he, if_pos (by omega)]
        · rw [if_neg he, if_neg (fun h2 => he ?_)]
          · exact q6 i' j' hi' hj'
          · have h3 : i' = i := by omega
            have h4 : j' = j := by omega
            rw [h3, h4]
    · obtain ⟨a', f', r1, r2, r3, r4, r5, r6⟩ := eM.1 k' hk'
      have hne : a' ≠ am := fun he => hkk (eM.2 k' k am hk' hk (by rw [r1, he]) q1)
      refine ⟨a', f', r1, r2, by omega, hs_fr r4 (fun q hq => ?_), r5, fun i' j' hi' hj' => ?_⟩
      · simp only [mcl, List.mem_cons, List.not_mem_nil, or_false] at hq
        rcases hq with rfl | rfl
        · exact hu _ (kind _ _ _ (r4.at 0 rfl))
        · exact hu _ (by simp only; omega)
      · obtain ⟨t1, t2, t3, t4⟩ := hsz k' hk'
        obtain ⟨t5, t6, t7, t8⟩ := hsz k hk
        simp only
        rw [if_neg (by omega)]
        exact r6 i' j' hi' hj'
  · obtain ⟨b, w, r1, r2, r3, r4, r5⟩ := ePp.1 k' hk'
    have hb := kind _ _ _ (r4.at 0 rfl)
    have hlen : ∀ (c : Nat) (e' : va_E), A.2 (am + 1) = some e' → A.2 c = some e' → True := fun _ _ _ _ => trivial
    refine ⟨b, w, r1, r2, by omega, hs_fr r4 (fun q hq => ?_), ?_⟩
    · simp only [ppl, pcl, List.mem_cons, List.not_mem_nil, or_false] at hq
      rcases hq with rfl | rfl
      · exact hu _ hb
      · refine hu _ (fun he => ?_)
        have h1 := r4.at 1 rfl
        have h2 : A.2 (b + 1) = some (bw_an g (rr k * cc k) f) := by rw [show b + 1 = am + 1 from he]; exact q4.at 1 rfl
        rw [h1] at h2
        have h3 : (65 : Nat) = rr k * cc k := by
          injection h2 with h2
          injection h2 with h2
          exact congrArg (fun z => z.2.1) h2
        obtain ⟨t5, t6, t7, t8⟩ := hsz k hk
        have := Nat.mul_le_mul t6 t8
        omega
    · rcases r5 with r5 | ⟨wa, s1, s2, s3, s4⟩
      · exact Or.inl r5
      · refine Or.inr ⟨wa, s1, s2, by rw [hz]; exact s3, (hu _ (fun he => ?_)).trans s4⟩
        have h2 : A.2 wa = some (bw_an g (rr k * cc k) f) := by rw [he]; exact q4.at 1 rfl
        rw [s4] at h2
        have h3 : (65 : Nat) = rr k * cc k := by
          injection h2 with h2
          injection h2 with h2
          exact congrArg (fun z => z.2.1) h2
        obtain ⟨t5, t6, t7, t8⟩ := hsz k hk
        have := Nat.mul_le_mul t6 t8
        omega
/-- the elimination's and a matrix's cells -/
theorem xI.elC {g : bw_G} {x M n p gg rn mn pn sn : Nat} {row S : Nat → Nat} {MA PA : Nat → Option Nat} {rr cc Cm Cp : Nat → Nat} {A : bw_H} (h : xI g x n p gg (M + 20) rn mn pn sn row S MA PA rr cc Cm Cp A) {a r c : Nat} {f : Nat → Nat} (ha : M + 20 ≤ a) (hC : bw_has A (mcl g a r c f)) (hxM : x + 57 + 2 * n ≤ M) : ∃ (hh wd rk pp : Nat) (pv : Nat → Option Nat) (W : Nat → Nat → Nat), bw_has A ((x, xob x n rn mn pn sn) :: (x + 6, bw_aq g 3 40 MA) :: (x + 5, bw_an g 130 row) :: (mcl g a r c f ++ evl g n p gg (x + 11) (x + 9) (x + 12) (x + 21) hh wd rk pp pv)) ∧ bw_rw g A (x + 12 + 1) 8 16 W ∧ ∀ i j, W i j < 2 ^ n := by
  obtain ⟨hh, wd, rk, pp, pv, W, e1, e2, e3⟩ := h.2.2.2.2.2.2.2.2.1
  refine ⟨hh, wd, rk, pp, pv, W, ?_, e2, e3⟩
  have h1 := (h.cs.sub [0, 2, 1] (by decide) rfl).ap hC (by simp; omega)
  have h2 := (e1.sub [0] (by decide) rfl).ap ((h.cs.sub [5, 6] (by decide) rfl).ap (e1.sub [1, 2] (by decide) rfl) (by simp)) (by simp)
  exact h1.ap h2 (by simp; omega)
section CALLS
variable {g : bw_G} {x M n p gg th : Nat} {A : bw_H}
set_option maxHeartbeats 1000000 in
theorem b_value (hG : GFg n p gg) (hxM : x + 57 + 2 * n ≤ M) (h : LI g x M n p gg th A) (a b : Int32) : bth g x M n p gg mX9_value mX10_value [.int a, .int b] [eIO, eIA] A := by
  obtain ⟨rn, mn, pn, sn, row, S, MA, PA, rr, cc, Cm, Cp, hf, hx, hm, ho⟩ := h
  obtain ⟨f1, f2, f3, f4, f5, f6, f7, f8, f9, f10⟩ := hf
  by_cases ha : kI pn a
  · obtain ⟨k, hk, rfl⟩ := kI_of (by omega) ha
    obtain ⟨bm, w, q1, q2, q3, q4, q5⟩ := hx.pol k hk
    by_cases hb : mI n b
    · obtain ⟨v, hv, rfl⟩ := mI_of hG.p16 hb
      refine bth.gen (th := th) (k := 0) (v := nI (gvl n (2 ^ n ||| p) (gcf Cp k) v)) (rn' := rn) (mn' := mn) (pn' := pn) (sn' := sn) (row' := row) (S' := S) (MA' := MA) (PA' := PA) (rr' := rr) (cc' := cc) (Cm' := Cm) (Cp' := Cp) (by decide) hxM ⟨f1, f2, f3, f4, f5, f6, f7, f8, f9, f10⟩ hm ho ?_ (fun A1 h1 => ?_)
      · refine bw_C.mono (k9_value g hG ((hx.cs.sub [0, 3, 5, 6] (by decide) rfl).ap q4 (by simp; omega)) (gcf_ok f9 k) hk f3 q1 hv) (fun o A1 h => ?_)
        obtain ⟨h1, rfl⟩ := h
        exact ⟨Or.inl ⟨rfl, h1⟩, hx, fun _ _ _ => rfl, Nat.le_refl _⟩
      · obtain ⟨rd, rs, pt, dd, V, T, Rt, Pc, L, hc, hF⟩ := h1
        obtain ⟨u10, u11, u12, u13, u16, u17, z10, z11, z12, z13, z16, z17, hC⟩ := hc.all
        refine bw_C.mono (m_value g hG (hC.sub [0, 9, 10] (by decide) rfl) f9 z10 f3 hk hv) (fun o A2 h => ?_)
        obtain ⟨e0, e1, e2, e3, e4, e5, e6, e7, e8, e9, e10, e11, e12, e13, e14, e15, e16, e17, e18⟩ := hc
        obtain ⟨y, hy, ⟨rfl, hs, h6⟩, h7⟩ := h
        exact ⟨_, hy, fun _ => rfl, ⟨rd, rs, pt, dd, V, T, Rt, Pc, L, ⟨h6, (hs.2 _ (by simp)).trans e1, (hs.2 _ (by simp)).trans e2, (hs.2 _ (by simp)).trans e3, (hs.2 _ (by simp)).trans e4, (hs.2 _ (by simp)).trans e5, (hs.2 _ (by simp)).trans e6, (hs.2 _ (by simp)).trans e7, (hs.2 _ (by simp)).trans e8, (hs.2 _ (by simp)).trans e9, h7, e11.fr (hs.2 _ (by simp)), e12.fr (hs.2 _ (by simp)), e13.fr (hs.2 _ (by simp)), (hs.2 _ (by simp)).trans e14, (hs.2 _ (by simp)).trans e15, e16.fr (hs.2 _ (by simp)), e17.fr (hs.2 _ (by simp)), (hs.2 _ (by simp)).trans e18⟩, hF⟩, fun b hb => hs.2 b (by simp; omega), hs.1⟩
    · exact bth.pure (k := 2) (v := 0) (by decide) hxM ⟨f1, f2, f3, f4, f5, f6, f7, f8, f9, f10⟩ hx hm ho (Or.inr ⟨by decide, k9_valueY g (hx.cs.sub [0, 3, 5] (by decide) rfl) hk f3 q1 hb⟩) (fun A1 rd rs pt dd V T Rt Pc L hc hF => ⟨nI 0, fun h => absurd h (by decide), m_valueY g (bw_has.one hc.1) f3 hk hb⟩)
  · exact bth.pure (k := 1) (v := 0) (by decide) hxM ⟨f1, f2, f3, f4, f5, f6, f7, f8, f9, f10⟩ hx hm ho (Or.inr ⟨by decide, k9_valueX g (hx.cs.sub [0] (by decide) rfl) ha⟩) (fun A1 rd rs pt dd V T Rt Pc L hc hF => ⟨nI 0, fun h => absurd h (by decide), m_valueX g (bw_has.one hc.1) ha⟩)
set_option maxHeartbeats 1000000 in
theorem b_forth (hG : GFg n p gg) (hxM : x + 57 + 2 * n ≤ M) (h : LI g x M n p gg th A) (a : Int32) : bth g x M n p gg mX9_forth mX10_forth [.int a] [eIO, eIS] A := by
  obtain ⟨rn, mn, pn, sn, row, S, MA, PA, rr, cc, Cm, Cp, hf, hx, hm, ho⟩ := h
  obtain ⟨f1, f2, f3, f4, f5, f6, f7, f8, f9, f10⟩ := hf
  by_cases ha : kI pn a
  · obtain ⟨k, hk, rfl⟩ := kI_of (by omega) ha
    obtain ⟨bm, w, q1, q2, q3, q4, q5⟩ := hx.pol k hk
    by_cases h0 : sn = 0
    · subst h0
      exact bth.pure (k := 2) (v := 0) (by decide) hxM ⟨f1, f2, f3, f4, f5, f6, f7, f8, f9, f10⟩ hx hm ho (Or.inr ⟨by decide, k9_forthY g (hx.cs.sub [0, 3] (by decide) rfl) hk f3 q1 rfl⟩) (fun A1 rd rs pt dd V T Rt Pc L hc hF => ⟨nI 0, fun h => absurd h (by decide), m_forthY g (bw_has.one hc.1) f3 hk⟩)
    · refine bth.gen (th := th) (k := 0) (v := nI sn) (rn' := sn) (mn' := mn) (pn' := pn) (sn' := sn) (row' := gfv n (2 ^ n ||| p) (gcf Cp k) row S sn) (S' := S) (MA' := MA) (PA' := PA) (rr' := rr) (cc' := cc) (Cm' := Cm) (Cp' := Cp) (by decide) hxM ⟨by omega, f2, f3, f4, gfv_lt hG.2.2.1 (gcf_ok f9 k).2 f5, f6, f7, f8, f9, f10⟩ hm ho ?_ (fun A1 h1 => ?_)
      · refine bw_C.mono (k9_forth g hG (hx.cs.sub [0, 3, 1, 4, 5, 6] (by decide) rfl) q4 (gcf_ok f9 k) (by omega) f6 f4 h0 hk f3 q1) (fun o A1 h => ?_)
        obtain ⟨y, ho1, rfl, hs, hC⟩ := h
        exact ⟨Or.inl ⟨rfl, ho1⟩, hx.u1 hxM ho (hs.mono (by simp)) (hC.at 0 rfl) (hC.at 1 rfl) ((hs.2 _ (by simp)).trans (hx.cs.at 4 rfl))⟩
      · obtain ⟨rd, rs, pt, dd, V, T, Rt, Pc, L, hc, hF⟩ := h1
        obtain ⟨u10, u11, u12, u13, u16, u17, z10, z11, z12, z13, z16, z17, hC⟩ := hc.all
        refine bw_C.mono (m_forth g hG (hC.sub [0, 9, 1, 18, 10] (by decide) rfl) f9 z10 f6 f4 h0 f3 hk) (fun o A2 h => ?_)
        obtain ⟨e0, e1, e2, e3, e4, e5, e6, e7, e8, e9, e10, e11, e12, e13, e14, e15, e16, e17, e18⟩ := hc
        obtain ⟨y, hy, ⟨rfl, hs, h6⟩, h7, h8⟩ := h
        exact ⟨_, hy, fun _ => rfl, ⟨rd, rs, pt, dd, V, T, Rt, Pc, L, ⟨h6, h7, (hs.2 _ (by simp)).trans e2, (hs.2 _ (by simp)).trans e3, (hs.2 _ (by simp)).trans e4, (hs.2 _ (by simp)).trans e5, (hs.2 _ (by simp)).trans e6, (hs.2 _ (by simp)).trans e7, (hs.2 _ (by simp)).trans e8, (hs.2 _ (by simp)).trans e9, h8, e11.fr (hs.2 _ (by simp)), e12.fr (hs.2 _ (by simp)), e13.fr (hs.2 _ (by simp)), (hs.2 _ (by simp)).trans e14, (hs.2 _ (by simp)).trans e15, e16.fr (hs.2 _ (by simp)), e17.fr (hs.2 _ (by simp)), (hs.2 _ (by simp)).trans e18⟩, hF⟩, fun b hb => hs.2 b (by simp; omega), hs.1⟩
  · exact bth.pure (k := 1) (v := 0) (by decide) hxM ⟨f1, f2, f3, f4, f5, f6, f7, f8, f9, f10⟩ hx hm ho (Or.inr ⟨by decide, k9_forthX g (hx.cs.sub [0] (by decide) rfl) ha⟩) (fun A1 rd rs pt dd V T Rt Pc L hc hF => ⟨nI 0, fun h => absurd h (by decide), m_forthX g (bw_has.one hc.1) ha⟩)
set_option maxHeartbeats 1000000 in
theorem b_set (hG : GFg n p gg) (hxM : x + 57 + 2 * n ≤ M) (h : LI g x M n p gg th A) (a b d w : Int32) : bth g x M n p gg mX9_set mX10_set [.int a, .int b, .int d, .int w] [eIO, eIA] A := by
  obtain ⟨rn, mn, pn, sn, row, S, MA, PA, rr, cc, Cm, Cp, hf, hx, hm, ho⟩ := h
  obtain ⟨f1, f2, f3, f4, f5, f6, f7, f8, f9, f10⟩ := hf
  by_cases ha : kI mn a
  · obtain ⟨k, hk, rfl⟩ := kI_of (by omega) ha
    obtain ⟨am, f, q1, q2, q3, q4, q5, q6⟩ := hx.mat k hk
    obtain ⟨t1, t2, t3, t4⟩ := f7 k hk
    have hCs := (hx.cs.sub [0, 2] (by decide) rfl).ap (q4.ap (hx.cs.sub [5] (by decide) rfl) (by simp; omega)) (by simp; omega)
    by_cases hb : kI (rr k) b ∧ kI (cc k) d
    · obtain ⟨i, hi, rfl⟩ := kI_of (by omega) hb.1
      obtain ⟨j, hj, rfl⟩ := kI_of (by omega) hb.2
      by_cases hw : mI n w
      · obtain ⟨v, hv, rfl⟩ := mI_of hG.p16 hw
        have hCl : ∀ t, (fun t => if t = 64 * k + 8 * i + j then v else Cm t) t < 2 ^ n := fun t => by
          simp only
          split
          · exact hv
          · exact f8 t
        refine bth.gen (th := th) (k := 0) (v := nI (Cm (64 * k + 8 * i + j))) (rn' := rn) (mn' := mn) (pn' := pn) (sn' := sn) (row' := row) (S' := S) (MA' := MA) (PA' := PA) (rr' := rr) (cc' := cc) (Cm' := (fun t => if t = 64 * k + 8 * i + j then v else Cm t)) (Cp' := Cp) (by decide) hxM ⟨f1, f2, f3, f4, f5, f6, f7, hCl, f9, f10⟩ hm ho ?_ (fun A1 h1 => ?_)
        · refine bw_C.mono (k9_set g hG.p16 hCs hk f2 q1 t2 t4 hi hj hv) (fun o A1 h => ?_)
          obtain ⟨y, ho1, rfl, hA⟩ := h
          exact ⟨Or.inl ⟨rfl, by rw [← q6 i j hi hj]; exact ho1⟩, hx.u5 hxM f7 hk q1 q2 q3 q4 q5 q6 hi hj hv hA⟩
        · obtain ⟨rd, rs, pt, dd, V, T, Rt, Pc, L, hc, hF⟩ := h1
          refine bw_C.mono (m_set g hG.p16 (mrC.sb hc [0, 2, 3, 4] rfl) f2 hk t2 t4 hi hj hv) (fun o A2 h => ?_)
          obtain ⟨e0, e1, e2, e3, e4, e5, e6, e7, e8, e9, e10, e11, e12, e13, e14, e15, e16, e17, e18⟩ := hc
          obtain ⟨y, hy, ⟨rfl, hs, h6⟩, h7⟩ := h
          exact ⟨_, hy, fun _ => rfl, ⟨rd, rs, pt, dd, V, T, Rt, Pc, L, ⟨h6, (hs.2 _ (by simp)).trans e1, (hs.2 _ (by simp)).trans e2, (hs.2 _ (by simp)).trans e3, h7, (hs.2 _ (by simp)).trans e5, (hs.2 _ (by simp)).trans e6, (hs.2 _ (by simp)).trans e7, (hs.2 _ (by simp)).trans e8, (hs.2 _ (by simp)).trans e9, e10.fr (hs.2 _ (by simp)), e11.fr (hs.2 _ (by simp)), e12.fr (hs.2 _ (by simp)), e13.fr (hs.2 _ (by simp)), (hs.2 _ (by simp)).trans e14, (hs.2 _ (by simp)).trans e15, e16.fr (hs.2 _ (by simp)), e17.fr (hs.2 _ (by simp)), (hs.2 _ (by simp)).trans e18⟩, hF⟩, fun b hb => hs.2 b (by simp; omega), hs.1⟩
      · exact bth.pure (k := 2) (v := 0) (by decide) hxM ⟨f1, f2, f3, f4, f5, f6, f7, f8, f9, f10⟩ hx hm ho (Or.inr ⟨by decide, k9_setZ g hCs hk f2 q1 t2 t4 hi hj hw⟩) (fun A1 rd rs pt dd V T Rt Pc L hc hF => ⟨nI 0, fun h => absurd h (by decide), m_setZ g (mrC.sb hc [0, 2, 3, 4] rfl) f2 hk t2 t4 hi hj hw⟩)
    · exact bth.pure (k := 1) (v := 0) (by decide) hxM ⟨f1, f2, f3, f4, f5, f6, f7, f8, f9, f10⟩ hx hm ho (Or.inr ⟨by decide, k9_setY g (hx.matC q2 q4 hxM) hk f2 q1 hb⟩) (fun A1 rd rs pt dd V T Rt Pc L hc hF => ⟨nI 0, fun h => absurd h (by decide), m_setX g (mrC.sb hc [0, 2, 3, 4] rfl) (fun A hA => m_isCellY g (hA.sub [0, 1, 2] (by decide) rfl) f2 hk hb)⟩)
  · exact bth.pure (k := 1) (v := 0) (by decide) hxM ⟨f1, f2, f3, f4, f5, f6, f7, f8, f9, f10⟩ hx hm ho (Or.inr ⟨by decide, k9_setX g (hx.cs.sub [0] (by decide) rfl) ha⟩) (fun A1 rd rs pt dd V T Rt Pc L hc hF => ⟨nI 0, fun h => absurd h (by decide), m_setX g (mrC.sb hc [0, 2, 3, 4] rfl) (fun A hA => m_isCellX g (hA.sub [0] (by decide) rfl) ha)⟩)
set_option maxHeartbeats 1000000 in
theorem b_rank (hG : GFg n p gg) (hxM : x + 57 + 2 * n ≤ M) (h : LI g x M n p gg th A) (a : Int32) : bth g x M n p gg mX9_rank mX10_rank [.int a] [eIO] A := by
  obtain ⟨rn, mn, pn, sn, row, S, MA, PA, rr, cc, Cm, Cp, hf, hx, hm, ho⟩ := h
  obtain ⟨f1, f2, f3, f4, f5, f6, f7, f8, f9, f10⟩ := hf
  by_cases ha : kI mn a
  · obtain ⟨k, hk, rfl⟩ := kI_of (by omega) ha
    obtain ⟨am, f, q1, q2, q3, q4, q5, q6⟩ := hx.mat k hk
    obtain ⟨t1, t2, t3, t4⟩ := f7 k hk
    obtain ⟨hh, wd, rk, pp, pv, W, hCe, hRw, hWl⟩ := hx.elC q2 q4 hxM
    have hUl := fun i j => gel_lt (c := cc k) (m := f) q5 hWl (rr k) i j
    have hUv : ∀ i j, i < rr k → j < cc k → gel (cc k) f W (rr k) i j = mcf Cm k i j := fun i j hi hj => (gel_v hi hj).trans (q6 i j hi hj)
    refine bth.gen (th := th) (k := 0) (v := nI (gre n (2 ^ n ||| p) (rr k) (cc k) (cc k) 0 (gel (cc k) f W (rr k)) 0 1 pv).2.1) (rn' := rn) (mn' := mn) (pn' := pn) (sn' := sn) (row' := row) (S' := S) (MA' := MA) (PA' := PA) (rr' := rr) (cc' := cc) (Cm' := Cm) (Cp' := Cp) (by decide) hxM ⟨f1, f2, f3, f4, f5, f6, f7, f8, f9, f10⟩ hm ho ?_ (fun A1 h1 => ?_)
    · refine bw_C.mono (k9_rank g hG (hCe.sub [0, 1, 3, 4, 5, 6, 7, 8, 9] (by decide) rfl) hRw (by omega) q5 hWl hk f2 q1 t2 t4) (fun o A1 h => ?_)
      obtain ⟨y, ho1, rfl, hs, hv1, hv2⟩ := h
      exact ⟨Or.inl ⟨rfl, ho1⟩, hx.u3 hxM ho (hs.mono (by simp <;> omega)) ((hs.2 _ (by simp [List.mem_range'_1] <;> omega)).trans hx.1) ((hs.2 _ (by simp [List.mem_range'_1] <;> omega)).trans (hx.cs.at 1 rfl)) (eP.of hv1 hv2 (gre_lt hG.2.2.1 _ _ _ _ _ _ hUl))⟩
    · obtain ⟨rd, rs, pt, dd, V, T, Rt, Pc, L, hc, hF⟩ := h1
      refine bw_C.mono (m_rank g hG (mrC.sb hc [0, 2, 3, 4, 5] rfl) f8 f2 hk t2 t4 (fun b hb => rank_fin hG.2.2.1 (pv := pv) t2 hUl hUv b hb)) (fun o A2 h => ?_)
      obtain ⟨e0, e1, e2, e3, e4, e5, e6, e7, e8, e9, e10, e11, e12, e13, e14, e15, e16, e17, e18⟩ := hc
      obtain ⟨y, hy, rfl, hs, V, h7⟩ := h
      exact ⟨_, hy, fun _ => rfl, ⟨rd, rs, pt, dd, V, T, Rt, Pc, L, ⟨h7.at 0 rfl, (hs.2 _ (by simp)).trans e1, (hs.2 _ (by simp)).trans e2, (hs.2 _ (by simp)).trans e3, (hs.2 _ (by simp)).trans e4, h7.at 4 rfl, (hs.2 _ (by simp)).trans e6, (hs.2 _ (by simp)).trans e7, (hs.2 _ (by simp)).trans e8, (hs.2 _ (by simp)).trans e9, e10.fr (hs.2 _ (by simp)), e11.fr (hs.2 _ (by simp)), e12.fr (hs.2 _ (by simp)), e13.fr (hs.2 _ (by simp)), (hs.2 _ (by simp)).trans e14, (hs.2 _ (by simp)).trans e15, e16.fr (hs.2 _ (by simp)), e17.fr (hs.2 _ (by simp)), (hs.2 _ (by simp)).trans e18⟩, hF⟩, fun b hb => hs.2 b (by simp; omega), hs.1⟩
  · exact bth.pure (k := 1) (v := 0) (by decide) hxM ⟨f1, f2, f3, f4, f5, f6, f7, f8, f9, f10⟩ hx hm ho (Or.inr ⟨by decide, k9_rankX g (hx.cs.sub [0] (by decide) rfl) ha⟩) (fun A1 rd rs pt dd V T Rt Pc L hc hF => ⟨nI 0, fun h => absurd h (by decide), m_rankX g (bw_has.one hc.1) ha⟩)
set_option maxHeartbeats 1000000 in
theorem b_determinant (hG : GFg n p gg) (hxM : x + 57 + 2 * n ≤ M) (h : LI g x M n p gg th A) (a : Int32) : bth g x M n p gg mX9_determinant mX10_determinant [.int a] [eIO, eIS] A := by
  obtain ⟨rn, mn, pn, sn, row, S, MA, PA, rr, cc, Cm, Cp, hf, hx, hm, ho⟩ := h
  obtain ⟨f1, f2, f3, f4, f5, f6, f7, f8, f9, f10⟩ := hf
  by_cases ha : kI mn a
  · obtain ⟨k, hk, rfl⟩ := kI_of (by omega) ha
    obtain ⟨am, f, q1, q2, q3, q4, q5, q6⟩ := hx.mat k hk
    obtain ⟨t1, t2, t3, t4⟩ := f7 k hk
    obtain ⟨hh, wd, rk, pp, pv, W, hCe, hRw, hWl⟩ := hx.elC q2 q4 hxM
    have hUl := fun i j => gel_lt (c := cc k) (m := f) q5 hWl (rr k) i j
    have hUv : ∀ i j, i < rr k → j < cc k → gel (cc k) f W (rr k) i j = mcf Cm k i j := fun i j hi hj => (gel_v hi hj).trans (q6 i j hi hj)
    by_cases hsq : rr k = cc k
    · have hdet := gre_det hG.2.2.1 (A := gel (cc k) f W (rr k)) hUl (h := rr k) (wd := rr k) t2 (Nat.le_refl _) pv
      rw [mnv_cg hG.2.2.1 (h := rr k) (A' := mcf Cm k) (fun i j hi hj => hUv i j hi (by omega)) (by have := Nat.two_pow_pos (rr k); omega)] at hdet
      rw [← hsq] at q4 hCe hUl hUv hdet
      have hrk := (gre_rk (n := n) (q := 2 ^ n ||| p) (h := rr k) (wd := rr k) (rr k) 0 (gel (rr k) f W (rr k)) 0 1 pv).1
      refine bth.gen (th := th) (k := 0) (v := nI (mnv hG.2.2.1 (mcf Cm k) (rr k) (2 ^ rr k - 1) (2 ^ rr k - 1))) (rn' := rn) (mn' := mn) (pn' := pn) (sn' := sn) (row' := row) (S' := S) (MA' := MA) (PA' := PA) (rr' := rr) (cc' := cc) (Cm' := Cm) (Cp' := Cp) (by decide) hxM ⟨f1, f2, f3, f4, f5, f6, f7, f8, f9, f10⟩ hm ho ?_ (fun A1 h1 => ?_)
      · refine bw_C.mono (k9_determinant g hG (hCe.sub [0, 1, 3, 4, 5, 6, 7, 8, 9] (by decide) rfl) hRw (by omega) q5 hWl hk f2 q1 t2 (by omega)) (fun o A1 h => ?_)
        obtain ⟨y, ho1, rfl, hs, hv1, hv2⟩ := h
        exact ⟨Or.inl ⟨rfl, by rw [hdet]; exact ho1⟩, hx.u3 hxM ho (hs.mono (by simp <;> omega)) ((hs.2 _ (by simp [List.mem_range'_1] <;> omega)).trans hx.1) ((hs.2 _ (by simp [List.mem_range'_1] <;> omega)).trans (hx.cs.at 1 rfl)) (eP.of hv1 hv2 (gre_lt hG.2.2.1 _ _ _ _ _ _ hUl))⟩
      · obtain ⟨rd, rs, pt, dd, V, T, Rt, Pc, L, hc, hF⟩ := h1
        refine bw_C.mono (m_determinant g hG (mrC.sb hc [0, 2, 3, 4, 5] rfl) f8 f2 hk t2 hsq) (fun o A2 h => ?_)
        obtain ⟨e0, e1, e2, e3, e4, e5, e6, e7, e8, e9, e10, e11, e12, e13, e14, e15, e16, e17, e18⟩ := hc
        obtain ⟨y, hy, rfl, hs, V, h7⟩ := h
        exact ⟨_, hy, fun _ => by rw [← hsq], ⟨rd, rs, pt, dd, V, T, Rt, Pc, L, ⟨h7.at 0 rfl, (hs.2 _ (by simp)).trans e1, (hs.2 _ (by simp)).trans e2, (hs.2 _ (by simp)).trans e3, (hs.2 _ (by simp)).trans e4, h7.at 4 rfl, (hs.2 _ (by simp)).trans e6, (hs.2 _ (by simp)).trans e7, (hs.2 _ (by simp)).trans e8, (hs.2 _ (by simp)).trans e9, e10.fr (hs.2 _ (by simp)), e11.fr (hs.2 _ (by simp)), e12.fr (hs.2 _ (by simp)), e13.fr (hs.2 _ (by simp)), (hs.2 _ (by simp)).trans e14, (hs.2 _ (by simp)).trans e15, e16.fr (hs.2 _ (by simp)), e17.fr (hs.2 _ (by simp)), (hs.2 _ (by simp)).trans e18⟩, hF⟩, fun b hb => hs.2 b (by simp; omega), hs.1⟩
    · exact bth.pure (k := 2) (v := 0) (by decide) hxM ⟨f1, f2, f3, f4, f5, f6, f7, f8, f9, f10⟩ hx hm ho (Or.inr ⟨by decide, k9_determinantY g (hx.matC q2 q4 hxM) hk f2 q1 t2 t4 hsq⟩) (fun A1 rd rs pt dd V T Rt Pc L hc hF => ⟨nI 0, fun h => absurd h (by decide), m_determinantY g (mrC.sb hc [0, 2, 3] rfl) f2 hk t2 t4 hsq⟩)
  · exact bth.pure (k := 1) (v := 0) (by decide) hxM ⟨f1, f2, f3, f4, f5, f6, f7, f8, f9, f10⟩ hx hm ho (Or.inr ⟨by decide, k9_determinantX g (hx.cs.sub [0] (by decide) rfl) ha⟩) (fun A1 rd rs pt dd V T Rt Pc L hc hF => ⟨nI 0, fun h => absurd h (by decide), m_determinantX g (bw_has.one hc.1) ha⟩)
end CALLS
