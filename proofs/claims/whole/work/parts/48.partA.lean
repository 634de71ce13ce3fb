/-! the counts of parts, as the reference makes them -/
def gmi (n q d : Nat) : Nat → (Nat → Nat) → (Nat → Nat) → Nat → (Nat → Nat) × (Nat → Nat) × Nat
  | 0, L, W, t => (L, W, t)
  | r + 1, L, W, t => if pd L ≤ 1 then (L, W, t) else if pd (ggcd n q L (gps n q gX W 1)) ≤ 1 then (L, W, t) else
      gmi n q d r (gqu n q L (ggcd n q L (gps n q gX W 1))) (if 2 ≤ pd (gqu n q L (ggcd n q L (gps n q gX W 1))) then grs n q W (gqu n q L (ggcd n q L (gps n q gX W 1))) else W) (t + (pd (ggcd n q L (gps n q gX W 1)) - 1) / d)
def gmo (n q : Nat) : Nat → Nat → (Nat → Nat) → (Nat → Nat) → (Nat → Nat) → Nat → Nat
  | 0, _, _, _, C => C
  | r + 1, d, L, W, C => if pd L ≤ 1 then C else gmo n q r (d + 1) (gmi n q d 64 L (gsn n q L n W) (C d)).1 (gmi n q d 64 L (gsn n q L n W) (C d)).2.1 (fun i => if i = d then (gmi n q d 64 L (gsn n q L n W) (C d)).2.2 else C i)
theorem isg_un {α R : Type} [Lean.Grind.Field α] [Lean.Grind.CommRing R] {co : R → Nat → α} {C : α → R} {X : R} (P : Pol co C X) {D D' F H F' H' : R} (h : isg co D F H) (h' : isg co D' F' H') (h1 : pdv D D') (h2 : pdv D' D) : D = D' := by
  obtain ⟨_, _, _, d, d1, d2⟩ := h
  obtain ⟨_, _, _, d', d1', d2'⟩ := h'
  have a1 := h1.dg P d1 d1'
  have a2 := h2.dg P d1' d1
  have ed : d' = d := by omega
  rw [ed] at d1' d2'
  obtain ⟨e, he⟩ := h1
  have e0 : e ≠ 0 := by
    intro e0
    refine d1'.ne0 P ?_
    rw [he, e0]
    grind
  obtain ⟨k, hk⟩ := dg.ex' P e0
  have hm := dg.mm P hk d1
  rw [← he] at hm
  have hk0 := hm.un d1'
  rw [show k = 0 by omega] at hk
  have ec := P.const hk.1
  have h5 := (dg.mul P hk.1 d1.1).2
  rw [← he, Nat.zero_add, d2', d2] at h5
  have : co e 0 = 1 := by grind
  rw [this, P.one] at ec
  rw [he, ec]
  grind
theorem rp.fe {n q : Nat} {R : Type} {co : R → Nat → GFt n q} {F : R} {f g : Nat → Nat} (hf : rp co F f) (hg : rp co F g) : f = g := funext (fun i => (hf i).symm.trans (hg i))
theorem gXW_rp {n q : Nat} (hG : GFp n q) {R : Type} [Lean.Grind.CommRing R] {co : R → Nat → GFt n q} {C : GFt n q → R} {X : R} (P : @Pol (GFt n q) R (gfF hG) _ co C X) {W : R} {w : Nat → Nat} (hW : rp co W w) : rp co (X + W) (gps n q gX w 1) := by
  letI := gfF hG
  have h := gps_rp hG P (rp.X hG P) hW hG.one
  rw [gfz_1 hG, P.one] at h
  have e : X + 1 * W = X + W := by grind
  rwa [e] at h
/-- a state of the count: what is left, and x to the size to the e by it -/
def ptS {n q : Nat} {R : Type} [Lean.Grind.CommRing R] (co : R → Nat → GFt n q) (X : R) (l w : Nat → Nat) (L W : R) (e : Nat) : Prop := pok n 65 l ∧ pok n 65 w ∧ pd l ≠ 0 ∧ rp co L l ∧ rp co W w ∧ (2 ≤ pd l → pd w < pd l ∧ pdv L (W + sqi X e))
theorem gsn_rp {n q : Nat} (hG : GFp n q) {R : Type} [Lean.Grind.CommRing R] {co : R → Nat → GFt n q} {C : GFt n q → R} {X : R} (P : @Pol (GFt n q) R (gfF hG) _ co C X) {l : Nat → Nat} {L : R} (hl : pok n 65 l) (h0 : pd l ≠ 0) (hL : rp co L l) : ∀ (k : Nat) (w : Nat → Nat) (W Y : R), pok n 65 w → rp co W w → pd w < pd l → pdv L (W + Y) → ∃ V, rp co V (gsn n q l k w) ∧ pok n 65 (gsn n q l k w) ∧ pd (gsn n q l k w) < pd l ∧ pdv L (V + sqi Y k)
  | 0, w, W, Y, hw, hW, hp, hd => ⟨W, hW, hw, hp, hd⟩
  | k + 1, w, W, Y, hw, hW, hp, hd => by
    letI := gfF hG
    have hlp := hl.le (by omega)
    obtain ⟨Q, T, h1, h2, h3, h4⟩ := grs_rp hG P (N := 200) (by omega) (gsq_rp hG P 65 w W hw.1 hW) hL ((gsq_ok hG hw (M := 130) (by omega)).mono (by omega)) (hl.mono (by omega)) h0
    have hok := (grs_ok hG (h := l) (gsq_ok hG hw (M := 130) (by omega))).mono (N' := 65) (by omega)
    have hpd := grs_pd hG (h := l) (gsq_ok hG hw (M := 130) (by omega)) (by omega) h0
    have hd' : pdv L (T + sqi Y 1) := by
      obtain ⟨e, he⟩ := hd
      refine ⟨e * (W + Y) + Q, ?_⟩
      show T + Y * Y = _
      have t1 := P.two T
      have t2 := P.two (W * Y)
      have t3 := P.two (W * W)
      grind
    obtain ⟨V, v1, v2, v3, v4⟩ := gsn_rp hG P hl h0 hL k _ T (sqi Y 1) hok h2 hpd hd'
    refine ⟨V, v1, v2, v3, ?_⟩
    rw [sqi_sqi, Nat.add_comm] at v4
    exact v4
theorem quo_rp {n q : Nat} (hG : GFp n q) {R : Type} [Lean.Grind.CommRing R] {co : R → Nat → GFt n q} {C : GFt n q → R} {X : R} (P : @Pol (GFt n q) R (gfF hG) _ co C X) {l g : Nat → Nat} {L D : R} (hl : pok n 65 l) (hg : pok n 65 g) (hL : rp co L l) (hD : rp co D g) (h0 : pd l ≠ 0) (g0 : pd g ≠ 0) (hd : pdv D L) : ∃ Q, rp co Q (gqu n q l g) ∧ L = Q * D ∧ pok n 65 (gqu n q l g) ∧ pd (gqu n q l g) + (pd g - 1) = pd l ∧ pd (gqu n q l g) ≠ 0 := by
  letI := gfF hG
  obtain ⟨Q, T, h1, h2, h3, h4⟩ := grs_rp hG P (N := 65) (by omega) hL hD hl hg g0
  have hok := (gqu_ok hG (h := g) hl (by omega)).mono (N' := 65) (by omega)
  have hdD := rp_dg hG P hD hg (by omega) g0
  have hdL := rp_dg hG P hL hl (by omega) h0
  obtain ⟨e, he⟩ := hd
  have hu := P.divu hdD h4 (dl.of0 P _) (q' := e) (r' := 0) (q := Q) (by rw [← h3, he]; grind)
  have hLQ : L = Q * D := by rw [he, hu.1]
  have Q0 : Q ≠ 0 := by
    intro e0
    refine hdL.ne0 P ?_
    rw [hLQ, e0]
    grind
  obtain ⟨k, hk⟩ := dg.ex' P Q0
  have hm := dg.mm P hk hdD
  rw [← hLQ] at hm
  have hm := hm.un hdL
  have hpq := rp_pd hG P h1 hok (by omega) hk
  exact ⟨Q, h1, hLQ, hok, by omega, by omega⟩
/-- the inner loops, one against the other -/
theorem gmi_eq {n q : Nat} (hG : GFp n q) {R : Type} [Lean.Grind.CommRing R] {co : R → Nat → GFt n q} {C : GFt n q → R} {X : R} (P : @Pol (GFt n q) R (gfF hG) _ co C X) {d : Nat} : ∀ (r : Nat) (l w s : Nat → Nat) (L W : R) (t : Nat), pok n 65 l → pok n 65 w → pd l ≠ 0 → rp co L l → rp co W w → pd l ≤ r + 1 → (2 ≤ pd l → pd w < pd l) → (2 ≤ pd l → s = ggcd n q l (gps n q gX w 1)) → (pd l ≤ 1 → pd s ≤ 1) →
    gpk n q d r l s t = ((gmi n q d r l w t).1, (gmi n q d r l w t).2.2) ∧ ∃ L' W', rp co L' (gmi n q d r l w t).1 ∧ rp co W' (gmi n q d r l w t).2.1 ∧ pok n 65 (gmi n q d r l w t).1 ∧ pok n 65 (gmi n q d r l w t).2.1 ∧ pd (gmi n q d r l w t).1 ≠ 0 ∧ pd (gmi n q d r l w t).1 ≤ pd l ∧ pdv L' L ∧ pdv L' (W' + W) ∧ (2 ≤ pd (gmi n q d r l w t).1 → pd (gmi n q d r l w t).2.1 < pd (gmi n q d r l w t).1 ∧ pd (ggcd n q (gmi n q d r l w t).1 (gps n q gX (gmi n q d r l w t).2.1 1)) ≤ 1)
  | 0, l, w, s, L, W, t, hl, hw, h0, hL, hW, hr, hp, hs, hs2 => by
    letI := gfF hG
    refine ⟨rfl, L, W, hL, hW, hl, hw, h0, Nat.le_refl _, pdv.rf L, ?_, fun h => ?_⟩
    · rw [P.two]
      exact pdv.z L
    · have : 2 ≤ pd l := h
      omega
  | r + 1, l, w, s, L, W, t, hl, hw, h0, hL, hW, hr, hp, hs, hs2 => by
    letI := gfF hG
    have stop : pdv L (W + W) := by
      rw [P.two]
      exact pdv.z L
    by_cases h1 : pd l ≤ 1
    · have e1 : gmi n q d (r + 1) l w t = (l, w, t) := if_pos h1
      have e2 : gpk n q d (r + 1) l s t = (l, t) := if_pos (hs2 h1)
      rw [e1, e2]
      exact ⟨rfl, L, W, hL, hW, hl, hw, h0, Nat.le_refl _, pdv.rf L, stop, fun h => absurd h (by show ¬ 2 ≤ pd l; omega)⟩
    · have es := hs (by omega)
      have hXW := gXW_rp hG P hW
      have hXo : pok n 65 (gps n q gX w 1) := gps_ok hG (pok.X hG.one (by omega)) hw hG.one
      obtain ⟨D, hD, d1, d2, ⟨u, v, d3⟩, dd, d4, d5⟩ := ggcd_rp hG P (N := 65) (by omega) hL hXW hl hXo (Or.inl h0)
      have hDo := ggcd_ok hG (N := 65) (by omega) hl hXo
      have hDp := rp_pd hG P hD hDo (by omega) d4
      by_cases h2 : pd (ggcd n q l (gps n q gX w 1)) ≤ 1
      · have e1 : gmi n q d (r + 1) l w t = (l, w, t) := by
          show (if pd l ≤ 1 then _ else _) = _
          rw [if_neg h1, if_pos h2]
        have e2 : gpk n q d (r + 1) l s t = (l, t) := if_pos (by rw [es]; exact h2)
        rw [e1, e2]
        exact ⟨rfl, L, W, hL, hW, hl, hw, h0, Nat.le_refl _, pdv.rf L, stop, fun h => ⟨hp h, h2⟩⟩
      · rw [es]
        generalize hgd : ggcd n q l (gps n q gX w 1) = g at *
        obtain ⟨Q, q1, q2, q3, q4, q5⟩ := quo_rp hG P hl hDo hL hD h0 (by omega) d1
        have hQL : pdv Q L := ⟨D, by rw [q2]; grind⟩
        have e1 : gmi n q d (r + 1) l w t = gmi n q d r (gqu n q l g) (if 2 ≤ pd (gqu n q l g) then grs n q w (gqu n q l g) else w) (t + (pd g - 1) / d) := by
          show (if pd l ≤ 1 then _ else if pd (ggcd n q l (gps n q gX w 1)) ≤ 1 then _ else _) = _
          rw [hgd, if_neg h1, if_neg h2]
        have e2 : gpk n q d (r + 1) l g t = gpk n q d r (gqu n q l g) (ggcd n q g (gqu n q l g)) (t + (pd g - 1) / d) := if_neg h2
        rw [e1, e2]
        -- the next power
        obtain ⟨W1, w1, w2, w3, w4⟩ : ∃ W1, rp co W1 (if 2 ≤ pd (gqu n q l g) then grs n q w (gqu n q l g) else w) ∧ pok n 65 (if 2 ≤ pd (gqu n q l g) then grs n q w (gqu n q l g) else w) ∧ (2 ≤ pd (gqu n q l g) → pd (if 2 ≤ pd (gqu n q l g) then grs n q w (gqu n q l g) else w) < pd (gqu n q l g)) ∧ pdv Q (W1 + W) := by
          by_cases h3 : 2 ≤ pd (gqu n q l g)
          · rw [if_pos h3]
            obtain ⟨Q2, T, t1, t2, t3, t4⟩ := grs_rp hG P (N := 65) (by omega) hW q1 hw q3 q5
            have hq := q3.le (by omega)
            refine ⟨T, t2, (grs_ok hG hw).mono (by omega), fun _ => grs_pd hG hw (by omega) q5, Q2, ?_⟩
            rw [t3]
            have := P.two T
            grind
          · rw [if_neg h3]
            refine ⟨W, hW, hw, fun h => absurd h h3, ?_⟩
            rw [P.two]
            exact pdv.z Q
        generalize (if 2 ≤ pd (gqu n q l g) then grs n q w (gqu n q l g) else w) = w' at *
        have hnx : 2 ≤ pd (gqu n q l g) → ggcd n q g (gqu n q l g) = ggcd n q (gqu n q l g) (gps n q gX w' 1) := fun h3 => by
          obtain ⟨A, a1, a2⟩ := ggcd_rp hG P (N := 65) (by omega) hD q1 hDo q3 (Or.inr q5)
          have hXW' := gXW_rp hG P w1
          obtain ⟨B, b1, b2⟩ := ggcd_rp hG P (N := 65) (by omega) q1 hXW' q3 (gps_ok hG (pok.X hG.one (by omega)) w2 hG.one) (Or.inl q5)
          have hAB : pdv A B := by
            obtain ⟨x1, x2, _⟩ := a2
            obtain ⟨_, _, ⟨u', v', y3⟩, _⟩ := b2
            rw [y3]
            refine (x2.mul u').add (pdv.mul ?_ v')
            have e : X + W1 = (X + W) + (W1 + W) := by
              have := P.two W
              grind
            rw [e]
            exact (x1.tr d2).add (x2.tr w4)
          have hBA : pdv B A := by
            obtain ⟨x1, x2, _⟩ := b2
            obtain ⟨_, _, ⟨u', v', y3⟩, _⟩ := a2
            rw [y3]
            refine (pdv.mul ?_ u').add (x1.mul v')
            rw [d3]
            refine ((x1.tr hQL).mul u).add (pdv.mul ?_ v)
            have e : X + W = (X + W1) + (W1 + W) := by
              have := P.two W1
              grind
            rw [e]
            exact x2.add (x1.tr w4)
          have := isg_un P a2 b2 hAB hBA
          rw [this] at a1
          exact a1.fe b1
        have hnx2 : pd (gqu n q l g) ≤ 1 → pd (ggcd n q g (gqu n q l g)) ≤ 1 := fun h3 => by
          obtain ⟨A, a1, x1, x2, _, da, da1, da2⟩ := ggcd_rp hG P (N := 65) (by omega) hD q1 hDo q3 (Or.inr q5)
          have hA := rp_pd hG P a1 (ggcd_ok hG (N := 65) (by omega) hDo q3) (by omega) da1
          have := x2.dg P da1 (rp_dg hG P q1 q3 (by omega) q5)
          omega
        obtain ⟨r1, L', W', r2, r3, r4, r5, r6, r7, r8, r9, r10⟩ := gmi_eq hG P r (gqu n q l g) w' (ggcd n q g (gqu n q l g)) Q W1 (t + (pd g - 1) / d) q3 w2 q5 q1 w1 (by omega) w3 hnx hnx2
        refine ⟨r1, L', W', r2, r3, r4, r5, r6, by omega, r8.tr hQL, ?_, r10⟩
        have e : W' + W = (W' + W1) + (W1 + W) := by
          have := P.two W1
          grind
        rw [e]
        exact r9.add (r8.tr w4)
