/-! class and reference: the same numbers -/
/-- the rank, by minors -/
theorem rank_fin {n q : Nat} (hG : GFp n q) {U D : Nat → Nat → Nat} {h c : Nat} {pv : Nat → Option Nat} (hh : h ≤ 8) (hU : ∀ a b, U a b < 2 ^ n) (hA : ∀ i j, i < h → j < c → U i j = D i j) (b : Nat) (hb : rkI (mnv hG D c) c (2 ^ h) 0 b) : b = (gre n q h c c 0 U 0 1 pv).2.1 := by
  obtain ⟨⟨S, T, hS, hT, hne, he⟩, hmax⟩ := gre_rank hG hU (h := h) (c := c) hh pv
  have h1 := hb.2 S T (Or.inl ⟨hS, hT⟩) (by rw [← mnv_cg hG hA hS]; exact hne)
  rw [he] at h1
  rcases hb.1 with h0 | ⟨r', k', hr, hf, hg⟩
  · omega
  · have hr' : r' < 2 ^ h := by omega
    have h2 := hmax r' k' hr' (by rw [mnv_cg hG hA hr']; exact hf)
    omega
theorem gdt_cg {n q : Nat} {u v u' v' : Nat → Nat} : ∀ k, (∀ i, i < k → u i = u' i ∧ v i = v' i) → gdt n q u v k = gdt n q u' v' k
  | 0, _ => rfl
  | k + 1, h => by
    show gdt n q u v k ^^^ gm n q (u k) (v k) = gdt n q u' v' k ^^^ gm n q (u' k) (v' k)
    rw [gdt_cg k (fun i hi => h i (by omega)), (h k (by omega)).1, (h k (by omega)).2]
theorem dm_ij {c i j : Nat} (hj : j < c) : (i * c + j) / c = i ∧ (i * c + j) % c = j := by
  have h := dm_of (c := c) (k := i) (t := i * c + j) (by omega) (by omega)
  exact ⟨h.1, by rw [h.2]; omega⟩
theorem ij_lt {r c i j : Nat} (hi : i < r) (hj : j < c) : i * c + j < r * c := by
  have := row_end (c := c) hi
  omega
/-- a filled matrix's cells -/
theorem gfl_v {B : Nat → Nat} {m c r i j : Nat} {v : Nat → Nat → Nat} (hr : r ≤ 8) (hc : c ≤ 8) (hi : i < r) (hj : j < c) : gfl B m v c r 0 (64 * m + 8 * i + j) = v i j := by
  unfold gfl
  have e1 : (64 * m + 8 * i + j - 64 * m) / 8 = i := by omega
  have e2 : (64 * m + 8 * i + j - 64 * m) % 8 = j := by omega
  rw [e1, e2, if_pos ⟨by omega, by omega, Or.inl ⟨hi, hj⟩⟩]
theorem gzm_in {C : Nat → Nat} {m i j : Nat} (hi : i < 8) (hj : j < 8) : gzm C m 64 (64 * m + 8 * i + j) = 0 := by
  unfold gzm
  exact if_pos ⟨by omega, by omega⟩
theorem gfl_lt {n m c i j : Nat} {B : Nat → Nat} {v : Nat → Nat → Nat} (hB : ∀ i, B i < 2 ^ n) (hv : ∀ a b, v a b < 2 ^ n) (t : Nat) : gfl B m v c i j t < 2 ^ n := by
  unfold gfl
  split
  · exact hv _ _
  · exact hB _
theorem gpF_v {n q r c i j : Nat} {row : Nat → Nat} (hi : i < r) (hj : j < c) : gpF n q c row r 0 (i * c + j) = gpow n q (row i) j := by
  unfold gpF
  rw [(dm_ij hj).1, (dm_ij hj).2, if_pos (by have := ij_lt hi hj; omega)]
theorem gpF_lt {n q r c : Nat} (hG : GFp n q) {row : Nat → Nat} (t : Nat) : gpF n q c row r 0 t < 2 ^ n := by
  unfold gpF
  split
  · exact gpow_lt hG _ _
  · exact Nat.two_pow_pos n
theorem giF_v {n q r c i j : Nat} {row : Nat → Nat} (hi : i < r) (hj : j < c) : giF n q r c row r 0 (i * c + j) = ginv n q (row i ^^^ row (r + j)) := by
  unfold giF
  rw [(dm_ij hj).1, (dm_ij hj).2, if_pos (by have := ij_lt hi hj; omega)]
theorem giF_lt {n q r c : Nat} (hG : GFp n q) {row : Nat → Nat} (t : Nat) : giF n q r c row r 0 t < 2 ^ n := by
  unfold giF
  split
  · exact gpow_lt hG _ _
  · exact Nat.two_pow_pos n
theorem gtF_v {n q lr lc rc i j : Nat} {L R : Nat → Nat} (hi : i < lr) (hj : j < rc) : gtF n q lc rc L R lr 0 (i * rc + j) = gdt n q (fun m => L (i * lc + m)) (fun m => R (m * rc + j)) lc := by
  unfold gtF
  rw [(dm_ij hj).1, (dm_ij hj).2, if_pos (ij_lt hi hj)]
theorem gcp_v {r i j : Nat} {W : Nat → Nat → Nat} {f : Nat → Nat} (hi : i < r) (hj : j < r) : gcp r W f r (i * r + j) = W i (r + j) := by
  unfold gcp
  rw [(dm_ij hj).1, (dm_ij hj).2, if_pos (ij_lt hi hj)]
theorem gcp_lt {n r k : Nat} {W : Nat → Nat → Nat} (hW : ∀ a b, W a b < 2 ^ n) (t : Nat) : gcp r W (fun _ => 0) k t < 2 ^ n := by
  unfold gcp
  split
  · exact hW _ _
  · exact Nat.two_pow_pos n
theorem gai_id {W : Nat → Nat → Nat} {h a k : Nat} (ha : a < h) (hk : k < h) : gai W h h h 0 a (h + k) = if a = k then 1 else 0 := by
  unfold gai
  rw [if_pos (Or.inl ⟨ha, by omega, by omega⟩)]
  exact if_iff (by omega)
theorem gai_lo {W : Nat → Nat → Nat} {h a b : Nat} (hb : b < h) : gai W h h h 0 a b = W a b := by
  unfold gai
  exact if_neg (by omega)
theorem gel_v {c r i j : Nat} {m : Nat → Nat} {W : Nat → Nat → Nat} (hi : i < r) (hj : j < c) : gel c m W r i j = m (i * c + j) := if_pos ⟨hi, hj⟩
theorem gac_v {W : Nat → Nat → Nat} {wd r a : Nat} {f : Nat → Nat} (ha : a < r) : gac W wd f r a wd = f a := if_pos ⟨ha, rfl⟩
theorem gac_lo {W : Nat → Nat → Nat} {wd r a b : Nat} {f : Nat → Nat} (hb : b < wd) : gac W wd f r a b = W a b := if_neg (by omega)
/-- a product's degree -/
theorem gmu_65 {n q : Nat} {f h : Nat → Nat} (hf : pok n 65 f) (hh : pok n 65 h) : gmu n q f h 65 65 = gmu n q f h (pd h) (pd f) := by
  have h1 := pd_le hf.1 (by omega)
  have h2 := pd_le hh.1 (by omega)
  rw [gmu_m (a := pd h) (b := 65) (fun j hj => pd_z hh.1 (by omega) j hj) h2 65]
  have h3 := gmu_k (n := n) (q := q) (h := h) (m := pd h) (fun j hj => pd_z hf.1 (by omega) j hj) (65 - pd f)
  rw [← h3]
  exact congrArg (gmu n q f h (pd h)) (by omega)
theorem gmu_pd {n q : Nat} (hG : GFp n q) {f h : Nat → Nat} (hf : pok n 65 f) (hh : pok n 65 h) : pd (gmu n q f h (pd h) (pd f)) = if pd f = 0 ∨ pd h = 0 then 0 else pd f + pd h - 1 := by
  have h1 := pd_le hf.1 (by omega)
  have h2 := pd_le hh.1 (by omega)
  have hz : ∀ i, pd f + pd h - 1 ≤ i → gmu n q f h (pd h) (pd f) i = 0 := fun i hi => gmu_z (pd f) i (by omega)
  by_cases h0 : pd f = 0 ∨ pd h = 0
  · rw [if_pos h0]
    refine pd_eq (fun i _ => ?_) (fun h => absurd rfl h) (by omega)
    rcases h0 with h0 | h0
    · rw [h0]; rfl
    · rw [h0]
      have : ∀ k, gmu n q f h 0 k = fun _ => 0 := by
        intro k
        induction k with
        | zero => rfl
        | succ k ih =>
          show gam n q (gmu n q f h 0 k) h k 0 (f k) 0 = _
          rw [gam_0, ih]
      rw [this]
  · rw [if_neg h0]
    obtain ⟨a, ha⟩ : ∃ a, pd f = a + 1 := ⟨pd f - 1, by omega⟩
    obtain ⟨b, hb⟩ : ∃ b, pd h = b + 1 := ⟨pd h - 1, by omega⟩
    refine pd_eq hz (fun _ => ?_) (by omega)
    have e : pd f + pd h - 1 - 1 = a + b := by omega
    rw [e, ha, hb]
    show gam n q (gmu n q f h (b + 1) a) h a 0 (f a) (b + 1) (a + b) ≠ 0
    unfold gam
    rw [if_pos ⟨by omega, by omega⟩, gmu_z a (a + b) (by omega), Nat.zero_xor, show 0 + (a + b - a) = b by omega]
    have t1 := pd_top (f := f) (by omega)
    have t2 := pd_top (f := h) (by omega)
    rw [ha] at t1
    rw [hb] at t2
    exact hG.ne0 (hf.2 _) (hh.2 _) t1 t2
/-- the row as a polynomial -/
theorem gcut_tp {n rn : Nat} {row : Nat → Nat} (hrow : ∀ i, row i < 2 ^ n) (hrn : rn ≤ 130) : gcut row (gtp row rn) = gcut row rn ∧ pd (gcut row rn) = gtp row rn := by
  have h1 := gtp_le row rn
  have e : gcut row (gtp row rn) = gcut row rn := by
    funext i
    unfold gcut
    by_cases hi : i < gtp row rn
    · rw [if_pos hi, if_pos (by omega)]
    · rw [if_neg hi]
      by_cases hi2 : i < rn
      · rw [if_pos hi2, gtp_z row rn i (by omega) hi2]
      · rw [if_neg hi2]
  refine ⟨e, ?_⟩
  rw [← e]
  refine pd_eq (fun i hi => if_neg (by omega)) (fun h => ?_) (by omega)
  unfold gcut
  rw [if_pos (by omega)]
  exact gtp_top row rn h
