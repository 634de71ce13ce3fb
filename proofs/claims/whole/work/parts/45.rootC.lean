/-! roots: bit by bit -/
theorem PR_append {R : Type} [Lean.Grind.CommRing R] {α : Type} (C : α → R) (X : R) : ∀ (a b : List α), PR C X (a ++ b) = PR C X a * PR C X b
  | [], b => by show PR C X b = 1 * PR C X b; grind
  | r :: a, b => by
    show (X + C r) * PR C X (a ++ b) = (X + C r) * PR C X a * PR C X b
    rw [PR_append C X a b]
    grind
theorem gpc_rp {n q : Nat} (hG : GFp n q) {R : Type} [Lean.Grind.CommRing R] {co : R → Nat → GFt n q} {C : GFt n q → R} {X : R} (P : @Pol (GFt n q) R (gfF hG) _ co C X) {G : R} {g : Nat → Nat} (hg : rp co G g) {x : Nat} (hx : x < 2 ^ n) : rp co (G + C (gfz x)) (gpc g x) :=
  (hg.add hG P (rp.c hG P _)).of (fun i => by
    rw [gfz_v hx]
    unfold gpc
    by_cases h : i = 0
    · rw [if_pos h, if_pos h, h]
    · rw [if_neg h, if_neg h, Nat.xor_zero])
theorem gps_rp {n q : Nat} (hG : GFp n q) {R : Type} [Lean.Grind.CommRing R] {co : R → Nat → GFt n q} {C : GFt n q → R} {X : R} (P : @Pol (GFt n q) R (gfF hG) _ co C X) {G H : R} {g h : Nat → Nat} (hg : rp co G g) (hh : rp co H h) {c : Nat} (hc : c < 2 ^ n) : rp co (G + C (gfz c) * H) (gps n q g h c) :=
  (hg.add hG P (hh.C hG P)).of (fun i => by
    rw [gfz_v hc]
    rfl)
theorem gmr_rp {n q : Nat} (hG : GFp n q) {R : Type} [Lean.Grind.CommRing R] {co : R → Nat → GFt n q} {C : GFt n q → R} {X : R} (P : @Pol (GFt n q) R (gfF hG) _ co C X) {F : R} {f S : Nat → Nat} (hF : rp co F f) (hf : pok n 65 f) (h0 : pd f ≠ 0) (hS : ∀ i, S i < 2 ^ n) : ∀ j, ∃ G, rp co G (gmr n q f S j) ∧ pdv F (@LPp R _ _ C X (fun i => gfz (S i)) j + G)
  | 0 => by
    letI := gfF hG
    obtain ⟨Q, T, h1, h2, h3, h4⟩ := grs_rp hG P (N := 65) (by omega) (rp.X hG P) hF (pok.X hG.one (by omega)) hf h0
    refine ⟨T, h2, Q, ?_⟩
    show X + T = Q * F
    have := P.two T
    grind
  | j + 1 => by
    letI := gfF hG
    obtain ⟨G, h1, e, h2⟩ := gmr_rp hG P hF hf h0 hS j
    have hok := gmr_ok hG hf (by omega) hS j
    obtain ⟨Q, T, h3, h4, h5, h6⟩ := grs_rp hG P (N := 200) (by omega) (gsq_rp hG P 65 _ G hok.1 h1) hF ((gsq_ok hG hok (M := 130) (by omega)).mono (by omega)) (hf.mono (by omega)) h0
    refine ⟨T + C (gfz (S j)) * G, gps_rp hG P h4 h1 (hS j), e * (LPp C X (fun i => gfz (S i)) j + G) + Q + C (gfz (S j)) * e, ?_⟩
    show LPp C X (fun i => gfz (S i)) j * LPp C X (fun i => gfz (S i)) j + C (gfz (S j)) * LPp C X (fun i => gfz (S i)) j + (T + C (gfz (S j)) * G) = _
    have t1 := P.two T
    have t2 := P.two (LPp C X (fun i => gfz (S i)) j * G)
    have t3 := P.two (G * G)
    generalize LPp C X (fun i => gfz (S i)) j = Y at *
    grind
theorem vl.cmb {α R : Type} [Lean.Grind.Field α] [Lean.Grind.CommRing R] {co : R → Nat → α} {C : α → R} {X : R} (P : Pol co C X) {D F H u v : R} {r : α} (e : D = u * F + v * H) (hF : vl C X F r 0) (hH : vl C X H r 0) : vl C X D r 0 := by
  obtain ⟨x, hx⟩ := (vl.z P).1 hF
  obtain ⟨y, hy⟩ := (vl.z P).1 hH
  exact (vl.z P).2 ⟨u * x + v * y, by grind⟩
theorem PR_map_rt {n q : Nat} (hG : GFp n q) {R : Type} [Lean.Grind.CommRing R] {co : R → Nat → GFt n q} {C : GFt n q → R} {X : R} (P : @Pol (GFt n q) R (gfF hG) _ co C X) {T : List Nat} (hT : ∀ r ∈ T, r < 2 ^ n) {r : Nat} (hr : r ∈ T) : @vl R _ _ C X (@PR R _ _ C X (T.map gfz)) (gfz r) ((gfF hG).ofNat 0).1 := by
  letI := gfF hG
  exact (PR_rt P).2 (List.mem_map.2 ⟨r, hr, rfl⟩)
/-- of the roots that are left, those below -/
theorem low_rp {n q : Nat} (hG : GFp n q) {R : Type} [Lean.Grind.CommRing R] {co : R → Nat → GFt n q} {C : GFt n q → R} {X : R} (P : @Pol (GFt n q) R (gfF hG) _ co C X) {F L' : R} {f L S : Nat → Nat} (hF : rp co F f) (hf : pok n 65 f) (h0 : pd f ≠ 0) (hS : ∀ i, S i < 2 ^ n) (hS2 : ∀ j, j < n → S j = gva n q S j (2 ^ j)) {T : List Nat} (hL : rp co L' L) (hLT : L' = @PR R _ _ C X (T.map gfz)) (hLo : pok n 65 L) (hLF : pdv L' F) (hTn : T.Nodup) {j px : Nat} (hj : j < n) (hpx : px % 2 ^ (j + 1) = 0) (hpn : px + 2 ^ (j + 1) ≤ 2 ^ n) (hT : ∀ r ∈ T, px ≤ r ∧ r < px + 2 ^ (j + 1)) : rp co (@PR R _ _ C X ((T.filter (fun r => decide (r < px + 2 ^ j))).map gfz)) (ggcd n q L (gpc (gmr n q f S j) (gva n q S j px))) ∧ pdv (@PR R _ _ C X ((T.filter (fun r => decide (r < px + 2 ^ j))).map gfz)) L' := by
  letI := gfF hG
  have hp1 := Nat.two_pow_pos (j + 1)
  have hpxn : px < 2 ^ n := by omega
  have hTl : ∀ r ∈ T, r < 2 ^ n := fun r hr => by have := hT r hr; omega
  obtain ⟨G, h1, h2⟩ := gmr_rp hG P hF hf h0 hS j
  have hok := gmr_ok hG hf (by omega) hS j
  have hv := gva_lt hG S hpxn j
  have hM := gpc_rp hG P h1 hv
  have hdL : @dg _ _ (gfF hG) co L' T.length := by
    have := (PR_dg P (T.map (gfz (n := n) (q := q)))).1
    rw [List.length_map] at this
    rw [hLT]
    exact this
  have hL0 : pd L ≠ 0 := by
    have := rp_pd hG P hL hLo (by omega) hdL
    omega
  obtain ⟨D, hD, d1, d2, ⟨u, v, d3⟩, d, d4, d5⟩ := ggcd_rp hG P (N := 65) (by omega) hL hM hLo (gpc_ok (by omega) hok hv) (Or.inl hL0)
  have key := PR_dv P (fun g r => @decide (vl C X g r 0) (Classical.propDecidable _)) (fun g r => @decide_eq_true_iff _ (Classical.propDecidable _)) (T.map gfz) D d (gfz_nd T hTn hTl) (hLT ▸ d1) d4 d5
  have e : (T.map (gfz (n := n) (q := q))).filter (fun r => @decide (vl C X D r 0) (Classical.propDecidable _)) = (T.filter (fun r => decide (r < px + 2 ^ j))).map gfz := by
    rw [List.filter_map]
    congr 1
    refine List.filter_congr (fun r hr => ?_)
    obtain ⟨hr1, hr2⟩ := hT r hr
    have hrn := hTl r hr
    rw [Bool.eq_iff_iff, Function.comp_apply, @decide_eq_true_iff _ (Classical.propDecidable _), decide_eq_true_iff]
    have rL : vl C X L' (gfz r) 0 := by rw [hLT]; exact PR_map_rt hG P hTl hr
    have rLG : vl C X (LPp C X (fun i => gfz (S i)) j + G) (gfz r) 0 := vl.dv P (hLF.tr h2) rL
    have rLP := LPp_vl hG P hS hrn j
    have rG : vl C X G (gfz r) (gfz (gva n q S j r)) := by
      have h5 := rLG.add P rLP
      have e1 : LPp C X (fun i => gfz (S i)) j + G + LPp C X (fun i => gfz (S i)) j = G := by
        have := P.two (LPp C X (fun i => gfz (S i)) j)
        grind
      have e2 : (0 : GFt n q) + gfz (gva n q S j r) = gfz (gva n q S j r) := by grind
      rw [e1, e2] at h5
      exact h5
    have rM : vl C X (G + C (gfz (gva n q S j px))) (gfz r) (gfz (gva n q S j (r ^^^ px))) := by
      have h5 := rG.add P (vl.C P (gfz r) (gfz (gva n q S j px)))
      rw [← gfz_x hG (gva_lt hG S hrn j) hv, ← gva_add hG hS hrn hpxn] at h5
      exact h5
    have ex : r ^^^ px = r - px := by
      have h6 := xor_add (k := j + 1) (a := r - px) (b := px / 2 ^ (j + 1)) (by omega)
      have h7 : px / 2 ^ (j + 1) * 2 ^ (j + 1) = px := Nat.div_mul_cancel (Nat.dvd_of_mod_eq_zero hpx)
      rw [h7] at h6
      have h8 : r = (r - px) ^^^ px := by omega
      have h9 : r ^^^ px = (r - px) ^^^ px ^^^ px := by rw [← h8]
      rw [h9, Nat.xor_assoc, Nat.xor_self, Nat.xor_zero]
    have h10 := gva_iff hG P hS hS2 (j := j) (u := r ^^^ px) (by omega) (xor_lt hrn hpxn)
    constructor
    · intro h
      have h11 := vl.dv P d2 h
      have h12 : gva n q S j (r ^^^ px) = 0 := by
        have h13 := rM.un P h11
        rw [← gfz_0 hG] at h13
        exact gfz_inj (gva_lt hG S (xor_lt hrn hpxn) j) (Nat.two_pow_pos n) h13
      have := h10.1 h12
      omega
    · intro h
      have h12 := h10.2 (by omega)
      rw [h12, gfz_0 hG] at rM
      exact vl.cmb P d3 rL rM
  rw [← e, ← key]
  exact ⟨hD, d1⟩
theorem blk (p : Nat → Bool) (px m : Nat) : (List.range' px (m + m)).filter p = (List.range' px m).filter p ++ (List.range' (px + m) m).filter p := by
  rw [← List.filter_append, ← List.range'_append_1]
theorem blk_in {p : Nat → Bool} {px m r : Nat} (h : r ∈ (List.range' px m).filter p) : px ≤ r ∧ r < px + m := by
  have := List.mem_range'_1.1 (List.mem_filter.1 h).1
  omega
theorem blk_nd (p : Nat → Bool) (px m : Nat) : ((List.range' px m).filter p).Nodup := (List.nodup_range' (s := px) (n := m)).filter _
theorem blk_low (p : Nat → Bool) (px m : Nat) : ((List.range' px (m + m)).filter p).filter (fun r => decide (r < px + m)) = (List.range' px m).filter p := by
  have h1 : ((List.range' px m).filter p).filter (fun r => decide (r < px + m)) = (List.range' px m).filter p := List.filter_eq_self.2 (fun r hr => by
    have := blk_in hr
    exact decide_eq_true (by omega))
  have h2 : ((List.range' (px + m) m).filter p).filter (fun r => decide (r < px + m)) = [] := List.filter_eq_nil_iff.2 (fun r hr => by
    have := blk_in hr
    rw [decide_eq_true_iff]
    omega)
  rw [blk, List.filter_append, h1, h2, List.append_nil]
theorem gfd_rp {n q : Nat} (hG : GFp n q) {R : Type} [Lean.Grind.CommRing R] {co : R → Nat → GFt n q} {C : GFt n q → R} {X : R} (P : @Pol (GFt n q) R (gfF hG) _ co C X) {F : R} {f S : Nat → Nat} (hF : rp co F f) (hf : pok n 65 f) (h0 : pd f ≠ 0) (hS : ∀ i, S i < 2 ^ n) (hS2 : ∀ j, j < n → S j = gva n q S j (2 ^ j)) (p : Nat → Bool) : ∀ (j px ah : Nat) (L : Nat → Nat), j ≤ n → px % 2 ^ j = 0 → px + 2 ^ j ≤ 2 ^ n → rp co (@PR R _ _ C X (((List.range' px (2 ^ j)).filter p).map gfz)) L → pok n 65 L → pdv (@PR R _ _ C X (((List.range' px (2 ^ j)).filter p).map gfz)) F → ah < ((List.range' px (2 ^ j)).filter p).length → ∃ r, ((List.range' px (2 ^ j)).filter p)[ah]? = some r ∧ rp co (X + C (gfz r)) (gfd n q (gmr n q f S) S j L px ah) := by
  letI := gfF hG
  have one : ∀ (T : List Nat) (ah : Nat) (L : Nat → Nat), rp co (PR C X (T.map gfz)) L → T.length ≤ 1 → ah < T.length → ∃ r, T[ah]? = some r ∧ rp co (X + C (gfz r)) L := by
    intro T ah L h1 h2 h3
    match T, h2, h3 with
    | [r], _, h3 =>
      have : ah = 0 := by simpa using h3
      subst this
      refine ⟨r, rfl, ?_⟩
      have e : PR C X ([r].map gfz) = X + C (gfz r) := by
        show (X + C (gfz r)) * 1 = _
        grind
      rw [e] at h1
      exact h1
  intro j
  induction j with
  | zero =>
    intro px ah L hj hm hn hL hLo hd hah
    refine one _ ah L hL ?_ hah
    have := List.length_filter_le p (List.range' px (2 ^ 0))
    rw [List.length_range'] at this
    exact this
  | succ j ih =>
    intro px ah L hj hm hn hL hLo hd hah
    have hp := Nat.two_pow_pos j
    have e2 : 2 ^ (j + 1) = 2 ^ j + 2 ^ j := by rw [Nat.pow_succ]; omega
    have hdg := (PR_dg P (((List.range' px (2 ^ (j + 1))).filter p).map (gfz (n := n) (q := q)))).1
    rw [List.length_map] at hdg
    have hpd := rp_pd hG P hL hLo (by omega) hdg
    unfold gfd
    by_cases hc : pd L ≤ 2
    · rw [if_pos hc]
      exact one _ ah L hL (by omega) hah
    · rw [if_neg hc]
      obtain ⟨l1, l2⟩ := low_rp hG P hF hf h0 hS hS2 hL rfl hLo hd (blk_nd p px _) (j := j) (by omega) hm hn (fun r hr => blk_in hr)
      rw [e2, blk_low] at l1 l2
      have hok := ggcd_ok hG (N := 65) (by omega) hLo (gpc_ok (n := n) (N := 65) (x := gva n q S j px) (by omega) (gmr_ok hG hf (by omega) hS j) (gva_lt hG S (by omega) j))
      have hdg2 := (PR_dg P (((List.range' px (2 ^ j)).filter p).map (gfz (n := n) (q := q)))).1
      rw [List.length_map] at hdg2
      have hpd2 := rp_pd hG P l1 hok (by omega) hdg2
      have hm2 : px % 2 ^ j = 0 := by
        have h1 : 2 ^ j ∣ 2 ^ (j + 1) := ⟨2, by omega⟩
        exact Nat.mod_eq_zero_of_dvd (Nat.dvd_trans h1 (Nat.dvd_of_mod_eq_zero hm))
      rw [e2] at hd hah
      by_cases hlt : ah < pd (ggcd n q L (gpc (gmr n q f S j) (gva n q S j px))) - 1
      · rw [if_pos hlt]
        obtain ⟨r, r1, r2⟩ := ih px ah _ (by omega) hm2 (by omega) l1 hok (l2.tr hd) (by omega)
        refine ⟨r, ?_, r2⟩
        rw [e2, blk, List.getElem?_append_left (by omega)]
        exact r1
      · rw [if_neg hlt]
        have h0L : pd (ggcd n q L (gpc (gmr n q f S j) (gva n q S j px))) ≠ 0 := by omega
        obtain ⟨Q, T, q1, q2, q3, q4⟩ := grs_rp hG P (N := 65) (by omega) hL l1 hLo hok h0L
        have e3 : PR C X (((List.range' px (2 ^ j + 2 ^ j)).filter p).map (gfz (n := n) (q := q))) = PR C X (((List.range' (px + 2 ^ j) (2 ^ j)).filter p).map gfz) * PR C X (((List.range' px (2 ^ j)).filter p).map gfz) := by
          rw [blk, List.map_append, PR_append]
          grind
        have hQ : Q = PR C X (((List.range' (px + 2 ^ j) (2 ^ j)).filter p).map gfz) := by
          rw [e2, e3] at q3
          rw [hpd2] at q4
          refine (P.divu hdg2 q4 (dl.of0 P _) (q' := PR C X (((List.range' (px + 2 ^ j) (2 ^ j)).filter p).map gfz)) (r' := 0) ?_).1
          rw [← q3]
          grind
        rw [hQ] at q1
        have hor : px ||| 2 ^ j = px + 2 ^ j := by
          have h1 := Nat.two_pow_add_eq_or_of_lt (i := j + 1) (b := 2 ^ j) (by omega) (px / 2 ^ (j + 1))
          have h7 : 2 ^ (j + 1) * (px / 2 ^ (j + 1)) = px := Nat.mul_div_cancel' (Nat.dvd_of_mod_eq_zero hm)
          rw [h7] at h1
          exact h1.symm
        rw [hor]
        have hlen : ((List.range' px (2 ^ j + 2 ^ j)).filter p).length = ((List.range' px (2 ^ j)).filter p).length + ((List.range' (px + 2 ^ j) (2 ^ j)).filter p).length := by
          rw [blk, List.length_append]
        obtain ⟨r, r1, r2⟩ := ih (px + 2 ^ j) (ah - (pd (ggcd n q L (gpc (gmr n q f S j) (gva n q S j px))) - 1)) _ (by omega) (by rw [Nat.add_mod_right]; exact hm2) (by omega) q1 ((gqu_ok hG hLo (by omega)).mono (by omega)) (by
          refine pdv.tr ⟨PR C X (((List.range' px (2 ^ j)).filter p).map gfz), ?_⟩ hd
          rw [e3]
          grind) (by omega)
        refine ⟨r, ?_, r2⟩
        rw [e2, blk, List.getElem?_append_right (by omega), ← r1, hpd2]
        rfl
/-- root k is the k-th of all members where the value is 0 -/
theorem grt_eq {n q : Nat} (hG : GFp n q) {R : Type} [Lean.Grind.CommRing R] {co : R → Nat → GFt n q} {C : GFt n q → R} {X : R} (P : @Pol (GFt n q) R (gfF hG) _ co C X) {f S : Nat → Nat} (hf : pok n 65 f) (h0 : pd f ≠ 0) (hS : ∀ i, S i < 2 ^ n) (hS2 : ∀ j, j < n → S j = gva n q S j (2 ^ j)) (k : Nat) : grt n q f S k = ((List.range (2 ^ n)).filter (fun v => decide (gvl n q f v = 0)))[k]? := by
  letI := gfF hG
  obtain ⟨F, hF⟩ := rp.ex hG P hf
  obtain ⟨G, h1, h2⟩ := gmr_rp hG P hF hf h0 hS n
  have hok := gmr_ok hG hf (by omega) hS n
  obtain ⟨D, hD, d1, d2, ⟨u, v, d3⟩, d, d4, d5⟩ := ggcd_rp hG P (N := 65) (by omega) hF h1 hf hok (Or.inl h0)
  have hDok := ggcd_ok hG (N := 65) (by omega) hf hok
  have hal : ∀ r ∈ List.range (2 ^ n), r < 2 ^ n := fun r hr => List.mem_range.1 hr
  have hLPr : ∀ r, r < 2 ^ n → vl C X (LPp C X (fun i => gfz (S i)) n) (gfz r) 0 := fun r hr => by
    have := LPp_vl hG P hS hr n
    rw [gva_low hG hS hS2 n r (by omega) hr, gfz_0 hG] at this
    exact this
  have hall : LPp C X (fun i => gfz (S i)) n = PR C X ((List.range (2 ^ n)).map gfz) := by
    have p1 := PR_dg P ((List.range (2 ^ n)).map (gfz (n := n) (q := q)))
    rw [List.length_map, List.length_range] at p1
    have p2 := LPp_dg P (fun i => gfz (n := n) (q := q) (S i)) n
    have p3 := PR_few P (l := (List.range (2 ^ n)).map (gfz (n := n) (q := q))) (f := LPp C X (fun i => gfz (S i)) n + PR C X ((List.range (2 ^ n)).map gfz)) (gfz_nd _ List.nodup_range hal) (fun r hr => by
      obtain ⟨x, hx, e⟩ := List.mem_map.1 hr
      have a1 := hLPr x (hal x hx)
      have a2 := PR_map_rt hG P hal hx
      rw [e] at a1 a2
      have a3 := a1.add P a2
      have e2 : (0 : GFt n q) + 0 = 0 := by grind
      rw [← e2]
      exact a3) (by
      rw [List.length_map, List.length_range]
      intro i hi
      rw [P.add]
      by_cases hi2 : i = 2 ^ n
      · rw [hi2, p1.2, p2.2]
        exact P.twoF 1
      · rw [p1.1.1 i (by omega), p2.1.1 i (by omega)]
        exact P.twoF 0)
    have := P.two (PR C X ((List.range (2 ^ n)).map (gfz (n := n) (q := q))))
    grind
  have hDall : pdv D (PR C X ((List.range (2 ^ n)).map gfz)) := by
    rw [← hall]
    obtain ⟨a, ha⟩ := d1.tr h2
    obtain ⟨b, hb⟩ := d2
    exact ⟨a + b, by have := P.two G; grind⟩
  have key := PR_dv P (fun g r => @decide (vl C X g r 0) (Classical.propDecidable _)) (fun g r => @decide_eq_true_iff _ (Classical.propDecidable _)) ((List.range (2 ^ n)).map gfz) D d (gfz_nd _ List.nodup_range hal) hDall d4 d5
  have e : ((List.range (2 ^ n)).map (gfz (n := n) (q := q))).filter (fun r => @decide (vl C X D r 0) (Classical.propDecidable _)) = ((List.range' 0 (2 ^ n)).filter (fun v => decide (gvl n q f v = 0))).map gfz := by
    rw [List.filter_map, ← List.range_eq_range']
    congr 1
    refine List.filter_congr (fun r hr => ?_)
    have hrn := hal r hr
    rw [Bool.eq_iff_iff, Function.comp_apply, @decide_eq_true_iff _ (Classical.propDecidable _), decide_eq_true_iff, gvl_0 hG P (by omega) hF hf hrn]
    constructor
    · intro h
      exact vl.dv P d1 h
    · intro h
      have a1 := vl.dv P h2 h
      have a2 := hLPr r hrn
      have a3 : vl C X G (gfz r) 0 := by
        have a4 := a1.add P a2
        have e1 : LPp C X (fun i => gfz (S i)) n + G + LPp C X (fun i => gfz (S i)) n = G := by
          have := P.two (LPp C X (fun i => gfz (S i)) n)
          grind
        have e2 : (0 : GFt n q) + 0 = 0 := by grind
        rw [e1, e2] at a4
        exact a4
      exact vl.cmb P d3 h a3
  have key2 : D = PR C X (((List.range' 0 (2 ^ n)).filter (fun v => decide (gvl n q f v = 0))).map gfz) := by
    rw [← e]
    exact key
  rw [key2] at hD d1
  have hdg := (PR_dg P (((List.range' 0 (2 ^ n)).filter (fun v => decide (gvl n q f v = 0))).map (gfz (n := n) (q := q)))).1
  rw [List.length_map] at hdg
  have hpd := rp_pd hG P hD hDok (by omega) hdg
  have hle := d1.dg P hdg (rp_dg hG P hF hf (by omega) h0)
  unfold grt
  rw [List.range_eq_range']
  by_cases c1 : pd f - 1 ≤ k
  · rw [if_pos c1, List.getElem?_eq_none (by omega)]
  · rw [if_neg c1]
    by_cases c2 : pd (ggcd n q f (gmr n q f S n)) - 1 ≤ k
    · rw [if_pos c2, List.getElem?_eq_none (by omega)]
    · rw [if_neg c2]
      obtain ⟨r, r1, r2⟩ := gfd_rp hG P hF hf h0 hS hS2 (fun v => decide (gvl n q f v = 0)) n 0 k _ (by omega) (Nat.zero_mod _) (by omega) hD hDok d1 (by omega)
      rw [r1]
      have hr := blk_in (List.mem_of_getElem? r1)
      have b0 := r2 0
      have b1 := r2 1
      rw [P.add, P.X, P.C, if_neg (by omega), if_pos rfl] at b0
      rw [P.add, P.X, P.C, if_pos rfl, if_neg (by omega)] at b1
      have e0 : ((0 : GFt n q) + gfz r).1 = r := by
        have : (0 : GFt n q) + gfz r = gfz r := by grind
        rw [this, gfz_v (by omega)]
      have e1 : ((1 : GFt n q) + 0).1 = 1 := by
        have : (1 : GFt n q) + 0 = 1 := by grind
        rw [this, gf_1v hG]
      rw [← b0, ← b1, e0, e1, gfi_1 hG, hG.mul1 (by omega)]
