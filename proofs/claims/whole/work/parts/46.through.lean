/-! the polynomial through points -/
/-- a difference of s apart -/
def ddv (n q : Nat) (X Y : Nat → Nat) : Nat → Nat → Nat
  | 0, i => Y i
  | s + 1, i => gm n q (ddv n q X Y s i ^^^ ddv n q X Y s (i - 1)) (ginv n q (X i ^^^ X (i - (s + 1))))
theorem ddv_lt {n q : Nat} (hG : GFp n q) {X Y : Nat → Nat} (hY : ∀ i, Y i < 2 ^ n) : ∀ s i, ddv n q X Y s i < 2 ^ n
  | 0, i => hY i
  | s + 1, i => hG.lt (xor_lt (ddv_lt hG hY s i) (ddv_lt hG hY s (i - 1)))
theorem gda_eq {n q : Nat} {X : Nat → Nat} {s : Nat} (hs : 1 ≤ s) : ∀ (r : Nat) (Y : Nat → Nat) (i : Nat), gda n q X s r Y i = if s ≤ i ∧ i < s + r then gm n q (Y i ^^^ Y (i - 1)) (ginv n q (X i ^^^ X (i - s))) else Y i
  | 0, Y, i => by
    rw [if_neg (by omega)]
    rfl
  | r + 1, Y, i => by
    show gda n q X s r _ i = _
    rw [gda_eq hs r]
    by_cases h1 : s ≤ i ∧ i < s + r
    · rw [if_pos h1, if_pos (show s ≤ i ∧ i < s + (r + 1) by omega), if_neg (show ¬ i = s + r by omega), if_neg (show ¬ i - 1 = s + r by omega)]
    · rw [if_neg h1]
      by_cases h2 : i = s + r
      · rw [if_pos h2, if_pos (show s ≤ i ∧ i < s + (r + 1) by omega), h2, show s + r - s = r by omega]
      · rw [if_neg h2, if_neg (show ¬ (s ≤ i ∧ i < s + (r + 1)) by omega)]
theorem gdo_eq {n q : Nat} {X Y : Nat → Nat} {count : Nat} : ∀ (r s : Nat) (Z : Nat → Nat), 1 ≤ s → s + r ≤ count → (∀ i, i < count → Z i = ddv n q X Y (min (s - 1) i) i) → ∀ i, i < count → gdo n q X count r s Z i = ddv n q X Y (min (s + r - 1) i) i
  | 0, s, Z, _, _, hZ, i, hi => by
    show Z i = _
    rw [hZ i hi]
    rfl
  | r + 1, s, Z, hs, hr, hZ, i, hi => by
    show gdo n q X count r (s + 1) (gda n q X s (count - s) Z) i = _
    rw [gdo_eq (Y := Y) r (s + 1) _ (by omega) (by omega) (fun i hi => ?_) i hi, show s + 1 + r - 1 = s + (r + 1) - 1 by omega]
    rw [gda_eq hs]
    by_cases h1 : s ≤ i
    · rw [if_pos (show s ≤ i ∧ i < s + (count - s) by omega), hZ i hi, hZ (i - 1) (by omega), show min (s - 1) i = s - 1 by omega, show min (s - 1) (i - 1) = s - 1 by omega, show min (s + 1 - 1) i = (s - 1) + 1 by omega]
      show _ = gm n q _ (ginv n q (X i ^^^ X (i - (s - 1 + 1))))
      rw [show s - 1 + 1 = s by omega]
    · rw [if_neg (show ¬ (s ≤ i ∧ i < s + (count - s)) by omega), hZ i hi, show min (s - 1) i = min (s + 1 - 1) i by omega]
/-- what runs through the points i - s to i -/
theorem nev {n q : Nat} (hG : GFp n q) {R : Type} [Lean.Grind.CommRing R] {co : R → Nat → GFt n q} {C : GFt n q → R} {X : R} (P : @Pol (GFt n q) R (gfF hG) _ co C X) {x y : Nat → Nat} (hx : ∀ i, x i < 2 ^ n) (hy : ∀ i, y i < 2 ^ n) {count : Nat} (hd : ∀ i j, i < count → j < count → x i = x j → i = j) : ∀ (s i : Nat), s ≤ i → i < count → ∃ N : R, @dl _ _ (gfF hG) co N (s + 1) ∧ co N s = gfz (ddv n q x y s i) ∧ ∀ k, i - s ≤ k → k ≤ i → @vl R _ _ C X N (gfz (x k)) (gfz (y k))
  | 0, i, _, _ => by
    letI := gfF hG
    refine ⟨C (gfz (y i)), P.Cdl _, ?_, fun k h1 h2 => ?_⟩
    · rw [P.C, if_pos rfl]
      rfl
    · rw [show k = i by omega]
      exact vl.C P _ _
  | s + 1, i, hs, hi => by
    letI := gfF hG
    obtain ⟨N, n1, n2, n3⟩ := nev hG P hx hy hd s i (by omega) hi
    obtain ⟨M, m1, m2, m3⟩ := nev hG P hx hy hd s (i - 1) (by omega) (by omega)
    have hne : x i ^^^ x (i - (s + 1)) ≠ 0 := fun e => by
      have := hd i (i - (s + 1)) hi (by omega) (xor_inj e)
      omega
    have hxl := xor_lt (hx i) (hx (i - (s + 1)))
    have hil : ginv n q (x i ^^^ x (i - (s + 1))) < 2 ^ n := gpow_lt hG _ _
    have hinv : (gfz (ginv n q (x i ^^^ x (i - (s + 1)))) : GFt n q) * (gfz (x i) + gfz (x (i - (s + 1)))) = 1 := by
      rw [← gfz_x hG (hx i) (hx _), ← gfz_m hG hil hxl, hG.comm hil hxl, gfi_m hG hxl hne, gfz_1 hG]
    have hl : ∀ (u : GFt n q) (K : R), dl co K (s + 1) → dl co ((X + C u) * K) (s + 1 + 1) ∧ co ((X + C u) * K) (s + 1) = co K s := fun u K hK => by
      have h1 := dg.mul P (P.Xr u).1 hK
      rw [Nat.add_comm 1 s] at h1
      refine ⟨h1.1, ?_⟩
      rw [h1.2, P.add, P.X, P.C, if_pos rfl, if_neg (by omega)]
      grind
    obtain ⟨a1, a2⟩ := hl (gfz (x (i - (s + 1)))) N n1
    obtain ⟨b1, b2⟩ := hl (gfz (x i)) M m1
    refine ⟨C (gfz (ginv n q (x i ^^^ x (i - (s + 1))))) * ((X + C (gfz (x (i - (s + 1))))) * N + (X + C (gfz (x i))) * M), ?_, ?_, ?_⟩
    · intro k hk
      rw [P.Cm, P.add, a1 k hk, b1 k hk]
      grind
    · rw [P.Cm, P.add, a2, b2, n2, m2]
      show _ = gfz (gm n q (ddv n q x y s i ^^^ ddv n q x y s (i - 1)) (ginv n q (x i ^^^ x (i - (s + 1)))))
      rw [gfz_m hG (xor_lt (ddv_lt hG hy _ _) (ddv_lt hG hy _ _)) hil, gfz_x hG (ddv_lt hG hy _ _) (ddv_lt hG hy _ _)]
      grind
    · intro k h1 h2
      have hN : k = i - (s + 1) ∨ vl C X N (gfz (x k)) (gfz (y k)) := by
        rcases Nat.lt_or_ge k (i - s) with h | h
        · exact Or.inl (by omega)
        · exact Or.inr (n3 k h h2)
      have hM : k = i ∨ vl C X M (gfz (x k)) (gfz (y k)) := by
        rcases Nat.lt_or_ge k i with h | h
        · exact Or.inr (m3 k (by omega) (by omega))
        · exact Or.inl (by omega)
      obtain ⟨cN, hcN⟩ := vl.ex P N (gfz (x k))
      obtain ⟨cM, hcM⟩ := vl.ex P M (gfz (x k))
      have hv := (vl.C P (gfz (x k)) (gfz (ginv n q (x i ^^^ x (i - (s + 1)))))).mul P ((((vl.Xr P (gfz (x k)) (gfz (x (i - (s + 1))))).mul P hcN)).add P ((vl.Xr P (gfz (x k)) (gfz (x i))).mul P hcM))
      have e : (gfz (ginv n q (x i ^^^ x (i - (s + 1)))) : GFt n q) * ((gfz (x k) + gfz (x (i - (s + 1)))) * cN + (gfz (x k) + gfz (x i)) * cM) = gfz (y k) := by
        have tw := gf_two hG (gfz (x k) : GFt n q)
        rcases hN with e1 | e1
        · have e2 : cM = gfz (y k) := by
            rcases hM with e3 | e3
            · omega
            · exact hcM.un P e3
          rw [e2]
          rw [← e1] at hinv ⊢
          generalize (gfz (x k) : GFt n q) = a at *
          generalize (gfz (x i) : GFt n q) = b at *
          generalize (gfz (ginv n q (x i ^^^ x k)) : GFt n q) = c at *
          grind
        · have e2 : cN = gfz (y k) := hcN.un P e1
          rw [e2]
          rcases hM with e3 | e3
          · rw [← e3] at hinv ⊢
            generalize (gfz (ginv n q (x k ^^^ x (k - (s + 1)))) : GFt n q) = c at *
            generalize (gfz (x (k - (s + 1))) : GFt n q) = b at *
            generalize (gfz (x k) : GFt n q) = a at *
            grind
          · have e4 : cM = gfz (y k) := hcM.un P e3
            rw [e4]
            generalize (gfz (ginv n q (x i ^^^ x (i - (s + 1)))) : GFt n q) = c at *
            generalize (gfz (x (i - (s + 1))) : GFt n q) = b at *
            generalize (gfz (x k) : GFt n q) = a at *
            generalize (gfz (x i) : GFt n q) = d at *
            generalize (gfz (y k) : GFt n q) = f at *
            have : c * ((a + b) * f + (a + d) * f) = f * (c * (d + b)) + c * f * (a + a) := by grind
            rw [this, hinv, tw]
            grind
      rw [e] at hv
      exact hv
/-- Newton's sum -/
def nws {R : Type} [Lean.Grind.CommRing R] {α : Type} (C : α → R) (X : R) (x d : Nat → α) : Nat → R
  | 0 => 0
  | k + 1 => nws C X x d k + C (d k) * PR C X ((List.range k).map x)
/-- and from the end on -/
def nwh {R : Type} [Lean.Grind.CommRing R] {α : Type} (C : α → R) (X : R) (x d : Nat → α) : Nat → R → R
  | 0, H => H
  | k + 1, H => nwh C X x d k ((X + C (x k)) * H + C (d k))
theorem nwh_eq {R : Type} [Lean.Grind.CommRing R] {α : Type} (C : α → R) (X : R) (x d : Nat → α) : ∀ (k : Nat) (H : R), nwh C X x d k H = nws C X x d k + PR C X ((List.range k).map x) * H
  | 0, H => by
    show H = 0 + 1 * H
    grind
  | k + 1, H => by
    show nwh C X x d k ((X + C (x k)) * H + C (d k)) = nws C X x d k + C (d k) * PR C X ((List.range k).map x) + PR C X ((List.range (k + 1)).map x) * H
    rw [nwh_eq C X x d k, List.range_succ, List.map_append, PR_append]
    have : PR C X (List.map x [k]) = X + C (x k) := by
      show (X + C (x k)) * 1 = _
      grind
    rw [this]
    grind
theorem rng_nd {n q : Nat} {x : Nat → Nat} (hx : ∀ i, x i < 2 ^ n) {count : Nat} (hd : ∀ i j, i < count → j < count → x i = x j → i = j) {k : Nat} (hk : k ≤ count) : ((List.range k).map (fun i => (gfz (x i) : GFt n q))).Nodup := by
  have : ((List.range k).map (fun i => (gfz (x i) : GFt n q))) = ((List.range k).map x).map gfz := by rw [List.map_map]; rfl
  rw [this]
  refine gfz_nd _ (nodup_map _ List.nodup_range (fun a ha b hb e => ?_)) (fun a ha => ?_)
  · rw [List.mem_range] at ha hb
    exact hd a b (by omega) (by omega) e
  · obtain ⟨b, _, e⟩ := List.mem_map.1 ha
    rw [← e]
    exact hx b
theorem nws_eq {n q : Nat} (hG : GFp n q) {R : Type} [Lean.Grind.CommRing R] {co : R → Nat → GFt n q} {C : GFt n q → R} {X : R} (P : @Pol (GFt n q) R (gfF hG) _ co C X) {x y : Nat → Nat} (hx : ∀ i, x i < 2 ^ n) (hy : ∀ i, y i < 2 ^ n) {count : Nat} (hd : ∀ i j, i < count → j < count → x i = x j → i = j) : ∀ k, k ≤ count → @dl _ _ (gfF hG) co (@nws R _ _ C X (fun i => gfz (x i)) (fun i => gfz (ddv n q x y i i)) k) k ∧ ∀ i, i < k → @vl R _ _ C X (@nws R _ _ C X (fun i => gfz (x i)) (fun i => gfz (ddv n q x y i i)) k) (gfz (x i)) (gfz (y i))
  | 0, _ => letI := gfF hG; ⟨dl.of0 P 0, fun i hi => absurd hi (by omega)⟩
  | k + 1, hk => by
    letI := gfF hG
    obtain ⟨w1, w2⟩ := nws_eq hG P hx hy hd k (by omega)
    obtain ⟨N, n1, n2, n3⟩ := nev hG P hx hy hd k k (by omega) (by omega)
    have p1 := PR_dg P ((List.range k).map (fun i => (gfz (x i) : GFt n q)))
    rw [List.length_map, List.length_range] at p1
    have key : N + (nws C X (fun i => gfz (x i)) (fun i => gfz (ddv n q x y i i)) k + C (gfz (ddv n q x y k k)) * PR C X ((List.range k).map (fun i => gfz (x i)))) = 0 := by
      refine PR_few P (rng_nd hx hd (Nat.le_of_succ_le hk)) (fun r hr => ?_) ?_
      · obtain ⟨i, hi, e⟩ := List.mem_map.1 hr
        rw [List.mem_range] at hi
        rw [← e]
        have v1 := n3 i (by omega) (by omega)
        have v2 := w2 i hi
        have v3 : vl C X (PR C X ((List.range k).map (fun i => (gfz (x i) : GFt n q)))) (gfz (x i)) 0 := (PR_rt P).2 (List.mem_map.2 ⟨i, List.mem_range.2 hi, rfl⟩)
        have v4 := v1.add P (v2.add P ((vl.C P (gfz (x i)) (gfz (ddv n q x y k k))).mul P v3))
        have tw := gf_two hG (gfz (y i) : GFt n q)
        have e2 : (gfz (y i) : GFt n q) + (gfz (y i) + gfz (ddv n q x y k k) * 0) = 0 := by grind
        rw [e2] at v4
        exact v4
      · rw [List.length_map, List.length_range]
        intro i hi
        rw [P.add, P.add, P.Cm]
        have tw := gf_two hG (gfz (ddv n q x y k k) : GFt n q)
        by_cases h : i = k
        · rw [h, n2, w1 k (by omega), p1.2]
          grind
        · rw [n1 i (by omega), w1 i hi, p1.1.1 i (by omega)]
          grind
    have e : nws C X (fun i => gfz (x i)) (fun i => gfz (ddv n q x y i i)) (k + 1) = N := by
      show nws C X (fun i => gfz (x i)) (fun i => gfz (ddv n q x y i i)) k + C (gfz (ddv n q x y k k)) * PR C X ((List.range k).map (fun i => gfz (x i))) = N
      have := P.two N
      grind
    rw [e]
    exact ⟨n1, fun i hi => n3 i (by omega) (by omega)⟩
theorem gma_rp {n q : Nat} (hG : GFp n q) {R : Type} [Lean.Grind.CommRing R] {co : R → Nat → GFt n q} {C : GFt n q → R} {X : R} (P : @Pol (GFt n q) R (gfF hG) _ co C X) {F : R} {f : Nat → Nat} (hF : rp co F f) {v c : Nat} (hv : v < 2 ^ n) (hc : c < 2 ^ n) : rp co ((X + C (gfz v)) * F + C (gfz c)) (gma n q f v c) := by
  letI := gfF hG
  have e : (X + C (gfz v)) * F + C (gfz c) = X ^ 1 * F + C (gfz v) * F + C (gfz c) := by grind
  rw [e]
  refine (((hF.Xp hG P 1).add hG P (hF.C hG P)).add hG P (rp.c hG P _)).of (fun i => ?_)
  unfold gma
  rw [gfz_v hv, gfz_v hc, hG.comm hv (hF.lt i)]
  by_cases h : i = 0
  · rw [if_pos (show i < 1 by omega), if_pos h, if_neg (show ¬ 0 < i by omega), Nat.zero_xor]
  · rw [if_neg (show ¬ i < 1 by omega), if_neg h, if_pos (show 0 < i by omega), Nat.xor_zero, Nat.xor_comm]
theorem gnw_rp {n q : Nat} (hG : GFp n q) {R : Type} [Lean.Grind.CommRing R] {co : R → Nat → GFt n q} {C : GFt n q → R} {X : R} (P : @Pol (GFt n q) R (gfF hG) _ co C X) {x d : Nat → Nat} (hx : ∀ i, x i < 2 ^ n) : ∀ (k : Nat) (f : Nat → Nat) (F : R), (∀ i, i < k → d i < 2 ^ n) → rp co F f → rp co (@nwh R _ _ C X (fun i => gfz (x i)) (fun i => gfz (d i)) k F) (gnw n q x d k f)
  | 0, f, F, _, hF => hF
  | k + 1, f, F, hd, hF => gnw_rp hG P hx k _ _ (fun i hi => hd i (by omega)) (gma_rp hG P hF (hx k) (hd k (by omega)))
theorem nwh_cg {R : Type} [Lean.Grind.CommRing R] {α : Type} (C : α → R) (X : R) (x d d' : Nat → α) : ∀ (k : Nat) (H : R), (∀ i, i < k → d i = d' i) → nwh C X x d k H = nwh C X x d' k H
  | 0, H, _ => rfl
  | k + 1, H, h => by
    show nwh C X x d k ((X + C (x k)) * H + C (d k)) = nwh C X x d' k ((X + C (x k)) * H + C (d' k))
    rw [h k (by omega), nwh_cg C X x d d' k _ (fun i hi => h i (by omega))]
/-- Newton's polynomial runs through the points -/
theorem gnw_pts {n q : Nat} (hG : GFp n q) {R : Type} [Lean.Grind.CommRing R] {co : R → Nat → GFt n q} {C : GFt n q → R} {X : R} (P : @Pol (GFt n q) R (gfF hG) _ co C X) {x y : Nat → Nat} (hx : ∀ i, x i < 2 ^ n) (hy : ∀ i, y i < 2 ^ n) {count : Nat} (hc : count ≤ 200) (hd : ∀ i j, i < count → j < count → x i = x j → i = j) : pok n count (gnw n q x (gdo n q x count (count - 1) 1 y) count (fun _ => 0)) ∧ ∀ i, i < count → gvl n q (gnw n q x (gdo n q x count (count - 1) 1 y) count (fun _ => 0)) (x i) = y i := by
  letI := gfF hG
  have hlt := gdo_lt hG (X := x) (count := count) (count - 1) (s := 1) hy
  have hok : pok n count (gnw n q x (gdo n q x count (count - 1) 1 y) count (fun _ => 0)) := by
    have := gnw_ok hG (X := x) hlt count (pok.zero n 0)
    rwa [Nat.zero_add] at this
  refine ⟨hok, fun i hi => ?_⟩
  have hrp := gnw_rp hG P hx count _ _ (fun i _ => hlt i) (rp.z hG P)
  have hde : ∀ i, i < count → gdo n q x count (count - 1) 1 y i = ddv n q x y i i := fun i hi => by
    rw [gdo_eq (Y := y) (count - 1) 1 y (by omega) (by omega) (fun i _ => by rw [show min (1 - 1) i = 0 by omega]; rfl) i hi, show min (1 + (count - 1) - 1) i = i by omega]
  have e : nwh C X (fun i => gfz (x i)) (fun i => (gfz (gdo n q x count (count - 1) 1 y i) : GFt n q)) count 0 = nws C X (fun i => gfz (x i)) (fun i => gfz (ddv n q x y i i)) count := by
    rw [nwh_cg C X _ _ (fun i => gfz (ddv n q x y i i)) count 0 (fun i hi => by rw [hde i hi]), nwh_eq]
    grind
  rw [e] at hrp
  have h1 := (nws_eq hG P hx hy hd count (by omega)).2 i hi
  have h2 := gvl_rp hG P hc hrp hok (hx i)
  exact gfz_inj (gvl_lt hG hok _) (hy i) (h2.un P h1)
/-- one polynomial alone runs through the points -/
theorem pts_un {n q : Nat} (hG : GFp n q) {R : Type} [Lean.Grind.CommRing R] {co : R → Nat → GFt n q} {C : GFt n q → R} {X : R} (P : @Pol (GFt n q) R (gfF hG) _ co C X) {x f h : Nat → Nat} (hx : ∀ i, x i < 2 ^ n) {count : Nat} (hc : count ≤ 200) (hd : ∀ i j, i < count → j < count → x i = x j → i = j) (hf : pok n count f) (hh : pok n count h) (he : ∀ i, i < count → gvl n q f (x i) = gvl n q h (x i)) : f = h := by
  letI := gfF hG
  obtain ⟨F, hF⟩ := rp.ex hG P hf
  obtain ⟨H, hH⟩ := rp.ex hG P hh
  have h0 : F + H = 0 := by
    refine PR_few P (rng_nd hx hd (Nat.le_refl count)) (fun r hr => ?_) ?_
    · obtain ⟨i, hi, e⟩ := List.mem_map.1 hr
      rw [List.mem_range] at hi
      rw [← e]
      have a := (gvl_rp hG P hc hF hf (hx i)).add P (gvl_rp hG P hc hH hh (hx i))
      rw [he i hi, P.twoF] at a
      exact a
    · rw [List.length_map, List.length_range]
      exact ((rp_dl hG P hF).2 hf.1).add P ((rp_dl hG P hH).2 hh.1)
  have e : F = H := by
    have := P.two H
    grind
  funext i
  rw [← hF i, ← hH i, e]
