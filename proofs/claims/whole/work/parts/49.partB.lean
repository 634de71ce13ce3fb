/-! the counts of parts: both alike -/
theorem gfE {n q : Nat} (a : GFt n q) : a ∈ (List.range (2 ^ n)).map (gfz (n := n) (q := q)) := List.mem_map.2 ⟨a.1, List.mem_range.2 a.2, gfz_e a⟩
theorem gfEn {n q : Nat} : ((List.range (2 ^ n)).map (gfz (n := n) (q := q))).Nodup := gfz_nd _ List.nodup_range (fun x hx => List.mem_range.1 hx)
theorem gfEl {n q : Nat} : ((List.range (2 ^ n)).map (gfz (n := n) (q := q))).length = 2 ^ n := by rw [List.length_map, List.length_range]
theorem gpow_q {n q a : Nat} (hG : GFp n q) (ha : a < 2 ^ n) : gpow n q a (2 ^ n) = a := by
  have h2 : ∀ m, m = 2 ^ n → gpow n q a m = a := by
    intro m hm
    obtain ⟨k, rfl⟩ : ∃ k, m = k + 1 := ⟨m - 1, by have := Nat.two_pow_pos n; omega⟩
    show gm n q (gpow n q a k) a = a
    by_cases c0 : a = 0
    · rw [c0]
      exact gm_b0 _
    · rw [show k = 2 ^ n - 1 by omega, gpow_units hG ha c0, gm_1 ha]
  exact h2 _ rfl
theorem gfFm {n q : Nat} (hG : GFp n q) (c : GFt n q) : letI := gfF hG; sqi c n = c := by
  letI := gfF hG
  have h : ∀ k, (sqi c k).1 = gpow n q c.1 (2 ^ k) := fun k => by
    induction k with
    | zero => exact (gpow_1 hG c.2).symm
    | succ k ih =>
      show gm n q (sqi c k).1 (sqi c k).1 = _
      rw [ih, ← gpow_add hG c.2, ← Nat.two_mul, Nat.pow_succ, Nat.mul_comm]
  refine GFt.ext ?_
  rw [h]
  exact gpow_q hG c.2
/-- what splits no more is found at its own degree -/
theorem gmo_tail {n q : Nat} (hG : GFp n q) {R : Type} [Lean.Grind.CommRing R] {co : R → Nat → GFt n q} {C : GFt n q → R} {X : R} (P : @Pol (GFt n q) R (gfF hG) _ co C X) : ∀ (k d : Nat) (l w c : Nat → Nat) (L W : R) (r : Nat), 1 ≤ d → @irr _ _ (gfF hG) _ co L (d + k) → pd l = d + k + 1 → ptS co X l w L W (n * (d - 1)) → (∀ i, d ≤ i → c i = 0) → k + 1 ≤ r → gmo n q r d l w c = fun i => if i = d + k then 1 else c i := by
  letI := gfF hG
  have hn0 : 0 < n := by have := hG.1; omega
  intro k
  induction k with
  | zero =>
    intro d l w c L W r hd hi hp hS hc hr
    obtain ⟨s1, s2, s3, s4, s5, s6⟩ := hS
    obtain ⟨s7, s8⟩ := s6 (by omega)
    obtain ⟨V, v1, v2, v3, v4⟩ := gsn_rp hG P s1 s3 s4 n w W _ s2 s5 s7 s8
    rw [sqi_sqi, show n * (d - 1) + n = n * d by rw [← Nat.mul_succ]; congr 1; omega] at v4
    rw [Nat.add_zero] at hi
    have hf := hi.fermat P gfE gfEn gfEl
    have hLX : pdv L (X + V) := by
      have e : X + V = (sqi X (n * d) + X) + (V + sqi X (n * d)) := by
        have := P.two (sqi X (n * d))
        grind
      rw [e]
      exact hf.add v4
    have hXo : pok n 65 (gps n q gX (gsn n q l n w) 1) := gps_ok hG (pok.X hG.one (by omega)) v2 hG.one
    obtain ⟨D, hD, d1, d2, ⟨u, v, d3⟩, dd, d4, d5⟩ := ggcd_rp hG P (N := 65) (by omega) s4 (gXW_rp hG P v1) s1 hXo (Or.inl s3)
    have hDo := ggcd_ok hG (N := 65) (by omega) s1 hXo
    have hDp := rp_pd hG P hD hDo (by omega) d4
    have hLD : pdv L D := by
      rw [d3]
      exact ((pdv.rf L).mul u).add (hLX.mul v)
    have a1 := hLD.dg P hi.1 d4
    have a2 := d1.dg P d4 hi.1
    obtain ⟨Q, q1, q2, q3, q4, q5⟩ := quo_rp hG P s1 hDo s4 hD s3 (by omega) d1
    obtain ⟨r, rfl⟩ : ∃ r', r = r' + 1 := ⟨r - 1, by omega⟩
    have e1 : gmi n q d 64 l (gsn n q l n w) (c d) = (gqu n q l (ggcd n q l (gps n q gX (gsn n q l n w) 1)), gsn n q l n w, 1) := by
      show (if pd l ≤ 1 then _ else if pd (ggcd n q l (gps n q gX (gsn n q l n w) 1)) ≤ 1 then _ else gmi n q d 63 _ _ _) = _
      rw [if_neg (by omega), if_neg (by omega), if_neg (by omega)]
      show (if pd _ ≤ 1 then _ else _) = _
      rw [if_pos (by omega), hc d (by omega), show pd (ggcd n q l (gps n q gX (gsn n q l n w) 1)) - 1 = d by omega, Nat.div_self (by omega)]
    show (if pd l ≤ 1 then c else _) = _
    rw [if_neg (by omega), e1]
    dsimp only
    have e2 : ∀ (r d : Nat) (l w c : Nat → Nat), pd l ≤ 1 → gmo n q r d l w c = c := fun r d l w c h => by
      rcases r with _ | r
      · rfl
      · exact if_pos h
    rw [e2 _ _ _ _ _ (by omega)]
    rfl
  | succ k ih =>
    intro d l w c L W r hd hi hp hS hc hr
    obtain ⟨s1, s2, s3, s4, s5, s6⟩ := hS
    obtain ⟨s7, s8⟩ := s6 (by omega)
    obtain ⟨V, v1, v2, v3, v4⟩ := gsn_rp hG P s1 s3 s4 n w W _ s2 s5 s7 s8
    rw [sqi_sqi, show n * (d - 1) + n = n * d by rw [← Nat.mul_succ]; congr 1; omega] at v4
    have hXo : pok n 65 (gps n q gX (gsn n q l n w) 1) := gps_ok hG (pok.X hG.one (by omega)) v2 hG.one
    obtain ⟨D, hD, d1, d2, _, dd, d4, d5⟩ := ggcd_rp hG P (N := 65) (by omega) s4 (gXW_rp hG P v1) s1 hXo (Or.inl s3)
    have hDo := ggcd_ok hG (N := 65) (by omega) s1 hXo
    have hDp := rp_pd hG P hD hDo (by omega) d4
    have hle : pd (ggcd n q l (gps n q gX (gsn n q l n w) 1)) ≤ 1 := by
      obtain ⟨e, he⟩ := d1
      rcases hi.2.2 e D he with h | h
      · exfalso
        have e0 : e ≠ 0 := by
          intro e0
          refine hi.1.ne0 P ?_
          rw [he, e0]
          grind
        obtain ⟨e', h5⟩ := P.unit h e0
        have hLD : pdv L D := ⟨e', by grind⟩
        refine irr.low P gfE gfEn gfEl hn0 (gfFm hG) hi hd (by omega) (d := d) ?_
        have e2 : sqi X (n * d) + X = (X + V) + (V + sqi X (n * d)) := by
          have := P.two V
          grind
        rw [e2]
        exact (hLD.tr d2).add v4
      · have := d4.lt h
        omega
    obtain ⟨r, rfl⟩ : ∃ r', r = r' + 1 := ⟨r - 1, by omega⟩
    have e1 : gmi n q d 64 l (gsn n q l n w) (c d) = (l, gsn n q l n w, c d) := by
      show (if pd l ≤ 1 then _ else if pd (ggcd n q l (gps n q gX (gsn n q l n w) 1)) ≤ 1 then _ else gmi n q d 63 _ _ _) = _
      rw [if_neg (by omega), if_pos hle]
    show (if pd l ≤ 1 then c else _) = _
    rw [if_neg (by omega), e1]
    dsimp only
    have e3 : (fun i => if i = d then c d else c i) = c := by
      funext i
      by_cases h : i = d
      · rw [if_pos h, h]
      · rw [if_neg h]
    rw [e3, ih (d + 1) l (gsn n q l n w) c L V r (by omega) (by rw [show d + 1 + k = d + (k + 1) by omega]; exact hi) (by omega) ⟨s1, v2, s3, s4, v1, fun _ => ⟨v3, by rw [Nat.add_sub_cancel]; exact v4⟩⟩ (fun i h => hc i (by omega)) (by omega)]
    funext i
    rw [show d + 1 + k = d + (k + 1) by omega]
theorem gmo_1 {n q : Nat} (r d : Nat) (l w c : Nat → Nat) (h : pd l ≤ 1) : gmo n q r d l w c = c := by
  rcases r with _ | r
  · rfl
  · exact if_pos h
theorem gcn_st {n q : Nat} (r d : Nat) (l w c : Nat → Nat) (h : r = 0 ∨ pd l ≤ 2 * d) : gcn n q r d l w c = gce l c := by
  rcases r with _ | r
  · rfl
  · rcases h with h | h
    · omega
    · exact if_pos h
theorem gcn_eq {n q : Nat} (hG : GFp n q) {R : Type} [Lean.Grind.CommRing R] {co : R → Nat → GFt n q} {C : GFt n q → R} {X : R} (P : @Pol (GFt n q) R (gfF hG) _ co C X) : ∀ (r d : Nat) (l w c : Nat → Nat) (L W : R) (r' : Nat), d + r = 33 → 1 ≤ d → ptS co X l w L W (n * (d - 1)) → (∀ H e, @irr _ _ (gfF hG) _ co H e → pdv H L → d ≤ e) → (∀ i, d ≤ i → c i = 0) → 65 ≤ r' + d → gcn n q r d l w c = gmo n q r' d l w c := by
  letI := gfF hG
  have hn0 : 0 < n := by have := hG.1; omega
  have tail : ∀ (r d : Nat) (l w c : Nat → Nat) (L W : R) (r' : Nat), (r = 0 ∨ pd l ≤ 2 * d) → pd l ≤ 2 * d → 1 ≤ d → ptS co X l w L W (n * (d - 1)) → (∀ H e, @irr _ _ (gfF hG) _ co H e → pdv H L → d ≤ e) → (∀ i, d ≤ i → c i = 0) → 65 ≤ r' + d → gcn n q r d l w c = gmo n q r' d l w c := by
    intro r d l w c L W r' h1 h2 hd hS hn hc hr
    rw [gcn_st r d l w c h1]
    by_cases h3 : pd l ≤ 1
    · rw [gmo_1 _ _ _ _ _ h3]
      funext i
      exact if_neg (by omega)
    · have hdg := rp_dg hG P hS.2.2.2.1 hS.1 (by omega) hS.2.2.1
      have hi := irr.of P hdg (by omega) (d := d) (by omega) hn
      have hle := hn L _ hi (pdv.rf L)
      have hlp := hS.1.le (by omega)
      rw [gmo_tail hG P (pd l - 1 - d) d l w c L W r' hd (by rw [show d + (pd l - 1 - d) = pd l - 1 by omega]; exact hi) (by omega) hS hc (by omega)]
      funext i
      unfold gce
      rw [show d + (pd l - 1 - d) = pd l - 1 by omega]
      by_cases h4 : i = pd l - 1
      · rw [if_pos h4, if_pos ⟨by omega, h4⟩]
      · rw [if_neg h4, if_neg (by omega)]
  intro r
  induction r with
  | zero =>
    intro d l w c L W r' hr hd hS hn hc hr'
    have hlp := hS.1.le (by omega)
    exact tail 0 d l w c L W r' (Or.inl rfl) (by omega) hd hS hn hc hr'
  | succ r ih =>
    intro d l w c L W r' hr hd hS hn hc hr'
    by_cases h2 : pd l ≤ 2 * d
    · exact tail (r + 1) d l w c L W r' (Or.inr h2) h2 hd hS hn hc hr'
    · obtain ⟨s1, s2, s3, s4, s5, s6⟩ := hS
      obtain ⟨s7, s8⟩ := s6 (by omega)
      have hlp := s1.le (by omega)
      obtain ⟨V, v1, v2, v3, v4⟩ := gsn_rp hG P s1 s3 s4 n w W _ s2 s5 s7 s8
      rw [sqi_sqi, show n * (d - 1) + n = n * d by rw [← Nat.mul_succ]; congr 1; omega] at v4
      obtain ⟨r', rfl⟩ : ∃ r'', r' = r'' + 1 := ⟨r' - 1, by omega⟩
      obtain ⟨g1, L', W', g2, g3, g4, g5, g6, g7, g8, g9, g10⟩ := gmi_eq hG P (d := d) 64 l (gsn n q l n w) (ggcd n q l (gps n q gX (gsn n q l n w) 1)) L V 0 s1 v2 s3 s4 v1 (by omega) (fun _ => v3) (fun _ => rfl) (fun h => absurd h (by omega))
      have e1 : gcn n q (r + 1) d l w c = _ := if_neg h2
      have e2 : gmo n q (r' + 1) d l w c = _ := if_neg (by omega)
      rw [e1, e2, g1, hc d (by omega)]
      dsimp only
      by_cases h3 : 2 ≤ pd (gmi n q d 64 l (gsn n q l n w) 0).1
      · obtain ⟨g11, g12⟩ := g10 h3
        have hw : grs n q (gsn n q l n w) (gmi n q d 64 l (gsn n q l n w) 0).1 = (gmi n q d 64 l (gsn n q l n w) 0).2.1 := by
          obtain ⟨Q, T, t1, t2, t3, t4⟩ := grs_rp hG P (N := 65) (by omega) v1 g2 v2 g4 g6
          have hdg := rp_dg hG P g2 g4 (by omega) g6
          have hW' : dl co W' (pd (gmi n q d 64 l (gsn n q l n w) 0).1 - 1) := (rp_dl hG P g3).2 (fun i hi => g5.z (by omega) i (by omega))
          obtain ⟨e, he⟩ := g9
          have hu := P.divu hdg t4 hW' (q := Q) (q' := e) (by
            rw [← t3]
            have := P.two W'
            grind)
          rw [hu.2] at t2
          exact t2.fe g3
        rw [hw]
        have hLV : pdv L' (W' + sqi X (n * d)) := by
          have e : W' + sqi X (n * d) = (W' + V) + (V + sqi X (n * d)) := by
            have := P.two V
            grind
          rw [e]
          exact g9.add (g8.tr v4)
        refine ih (d + 1) _ _ _ L' W' r' (by omega) (by omega) ⟨g4, g5, g6, g2, g3, fun _ => ⟨g11, by rw [Nat.add_sub_cancel]; exact hLV⟩⟩ (fun H e hi hH => ?_) (fun i h => ?_) (by omega)
        · have hde := hn H e hi (hH.tr g8)
          rcases Nat.lt_or_ge d e with h | h
          · exact h
          · exfalso
            have ed : e = d := by omega
            rw [ed] at hi
            have hf := hi.fermat P gfE gfEn gfEl
            have hHX : pdv H (X + W') := by
              have e : X + W' = (sqi X (n * d) + X) + (W' + sqi X (n * d)) := by
                have := P.two (sqi X (n * d))
                grind
              rw [e]
              exact hf.add (hH.tr hLV)
            have hXo : pok n 65 (gps n q gX (gmi n q d 64 l (gsn n q l n w) 0).2.1 1) := gps_ok hG (pok.X hG.one (by omega)) g5 hG.one
            obtain ⟨D, hD, d1, d2, ⟨u, v, d3⟩, dd, d4, d5⟩ := ggcd_rp hG P (N := 65) (by omega) g2 (gXW_rp hG P g3) g4 hXo (Or.inl g6)
            have hDp := rp_pd hG P hD (ggcd_ok hG (N := 65) (by omega) g4 hXo) (by omega) d4
            have hHD : pdv H D := by
              rw [d3]
              exact (hH.mul u).add (hHX.mul v)
            have := hHD.dg P hi.1 d4
            omega
        · rw [if_neg (by omega)]
          exact hc i (by omega)
      · rw [gmo_1 _ _ _ _ _ (by omega), gcn_st _ _ _ _ _ (Or.inr (by omega))]
        funext i
        exact if_neg (by omega)
/-- the counts of a polynomial's parts -/
theorem gcn_gmo {n q : Nat} (hG : GFp n q) {R : Type} [Lean.Grind.CommRing R] {co : R → Nat → GFt n q} {C : GFt n q → R} {X : R} (P : @Pol (GFt n q) R (gfF hG) _ co C X) {f : Nat → Nat} (hf : pok n 65 f) (h0 : pd f ≠ 0) : gcn n q 32 1 f (grs n q gX f) (fun _ => 0) = gmo n q 64 1 f (grs n q gX f) (fun _ => 0) := by
  letI := gfF hG
  obtain ⟨F, hF⟩ := rp.ex hG P hf
  obtain ⟨Q, T, h1, h2, h3, h4⟩ := grs_rp hG P (N := 65) (by omega) (rp.X hG P) hF (pok.X hG.one (by omega)) hf h0
  have hlp := hf.le (by omega)
  have hXo : pok n 65 gX := pok.X hG.one (by omega)
  refine gcn_eq hG P 32 1 f _ _ F T 64 (by omega) (by omega) ⟨hf, (grs_ok hG hXo).mono (by omega), h0, hF, h2, fun _ => ⟨grs_pd hG hXo (by omega) h0, Q, ?_⟩⟩ (fun H e hi _ => hi.2.1) (fun _ _ => rfl) (by omega)
  show T + sqi X 0 = Q * F
  show T + X = Q * F
  have := P.two T
  grind
