/-! the class's Polynomial -/
section BWK
variable {g : bw_G} {R : Room} {k : bw_M} {Q : bw_O → bw_H → Prop} {cu su pc : Nat} {lv : List (Nat × Value)} {st : List Value} {A : bw_H}
theorem bw_copyU {i a b na nb : Nat} {f h : Nat → Int32} {sp dp n : Int32} (pc' : Nat) (hd : decode k.2.1 pc = .ok (.invokestatic i, 3)) (hp : pc + 3 = pc') (hw1 : Cond.methodLink k.1.cls i arraycopyName ∈ bw_uw) (hw2 : Cond.native arraycopyName ∈ bw_uw) (hw3 : Cond.static arraycopyName ∈ bw_uw) (hw4 : Cond.initialized "java/lang/System" ∈ bw_uw)
    (ha : A.2 a = some (bw_ai g na f)) (hb : A.2 b = some (bw_ai g nb h)) (h1 : ¬ sp < 0) (h2 : ¬ dp < 0) (h3 : ¬ n < 0) (h4 : sp.toNatClampNeg + n.toNatClampNeg ≤ na) (h5 : dp.toNatClampNeg + n.toNatClampNeg ≤ nb) (hf : 1 ≤ R.frames) (hcat : (st.map fun v => v.category).sum + (nativeFrameWords "java/lang/System" "arraycopy" 5 + 11) ≤ R.locals)
    (kk : ∀ A' : bw_H, A' = bw_up A b (bw_ai g nb (va_cpy f h sp.toNatClampNeg dp.toNatClampNeg n.toNatClampNeg)) → bw_W g R k Q cu su pc' lv st A') : bw_W g R k Q cu su pc lv (.int n :: .int dp :: .ref b :: .int sp :: .ref a :: st) A := bw_copy pc' hd hp hw1 hw2 hw3 hw4 ha hb h1 h2 h3 h4 h5 hf hcat (kk _ rfl)
end BWK
/-- the degree of m coefficients -/
def tI (m : Nat) : Int32 := nI m + (-1)
theorem tI_s (m : Nat) : tI (m + 1) = nI m := pk_m1 m
theorem tI_0 : tI 0 = -1 := by decide
theorem tI_sub (m : Nat) : nI m - 1 = tI m := by
  unfold tI
  rw [Int32.sub_eq_add_neg]
theorem tI_add (m : Nat) : tI m + 1 = nI m := by
  rw [← tI_sub, Int32.sub_add_cancel]
theorem tI_lt0 {m : Nat} (h : m < 2 ^ 31) : tI m < 0 ↔ m = 0 := by
  cases m with
  | zero => rw [tI_0]; decide
  | succ m => rw [tI_s]; exact ⟨fun h1 => absurd h1 (nI_pos (by omega)), fun h1 => by omega⟩
theorem tI_ltk {m k : Nat} (h : m < 2 ^ 31) (hk : k < 2 ^ 31) : tI m < nI k ↔ m ≤ k := by
  cases m with
  | zero =>
    rw [tI_0]
    refine ⟨fun _ => Nat.zero_le k, fun _ => ?_⟩
    rw [Int32.lt_iff_toInt_lt, nI_toInt hk]
    have : (-1 : Int32).toInt = -1 := by decide
    omega
  | succ m => rw [tI_s, nI_ltI (by omega) hk]; omega
theorem tI_le {a b : Nat} (ha : a < 2 ^ 31) (hb : b < 2 ^ 31) : tI a ≤ tI b ↔ a ≤ b := by
  cases b with
  | zero =>
    cases a with
    | zero => exact ⟨fun _ => Nat.le_refl _, fun _ => Int32.le_refl _⟩
    | succ a =>
      rw [tI_s, tI_0]
      refine ⟨fun h => ?_, fun h => by omega⟩
      rw [Int32.le_iff_toInt_le, nI_toInt (by omega)] at h
      have : (-1 : Int32).toInt = -1 := by decide
      omega
  | succ b =>
    rw [tI_s, ← Int32.not_lt]
    cases a with
    | zero =>
      rw [tI_0]
      refine ⟨fun _ => Nat.zero_le _, fun _ h => ?_⟩
      rw [Int32.lt_iff_toInt_lt, nI_toInt (by omega)] at h
      have : (-1 : Int32).toInt = -1 := by decide
      omega
    | succ a => rw [tI_s, nI_ltI (by omega) (by omega)]; omega
theorem tI_inj {a b : Nat} (ha : a < 2 ^ 31) (hb : b < 2 ^ 31) (h : tI a = tI b) : a = b :=
  Nat.le_antisymm ((tI_le ha hb).mp (by rw [h]; exact Int32.le_refl _)) ((tI_le hb ha).mp (by rw [h]; exact Int32.le_refl _))
/-- how many coefficients of the first m are left when zeros above go -/
def gtp (f : Nat → Nat) : Nat → Nat
  | 0 => 0
  | m + 1 => if f m = 0 then gtp f m else m + 1
theorem gtp_le (f : Nat → Nat) : ∀ m, gtp f m ≤ m
  | 0 => Nat.le_refl 0
  | m + 1 => by
    unfold gtp
    split
    · exact Nat.le_succ_of_le (gtp_le f m)
    · exact Nat.le_refl _
theorem gtp_z (f : Nat → Nat) : ∀ m i, gtp f m ≤ i → i < m → f i = 0
  | 0, i, _, h => by omega
  | m + 1, i, h1, h2 => by
    unfold gtp at h1
    split at h1
    · rename_i h0
      rcases Nat.lt_or_ge i m with h3 | h3
      · exact gtp_z f m i h1 h3
      · rw [show i = m by omega]; exact h0
    · omega
theorem gtp_top (f : Nat → Nat) : ∀ m, gtp f m ≠ 0 → f (gtp f m - 1) ≠ 0
  | 0, h => absurd rfl h
  | m + 1, h => by
    unfold gtp at h ⊢
    split
    · rename_i h0
      rw [if_pos h0] at h
      exact gtp_top f m h
    · rename_i h0
      exact h0
/-- the cells of a Polynomial: its array behind it -/
abbrev pob (a m : Nat) (v : Value) : va_E := .inr (9, [.ref (a + 1), .int (tI m), v])
abbrev pcl (g : bw_G) (a N : Nat) (f : Nat → Nat) (m : Nat) (v : Value) : List (Nat × va_E) := [(a, pob a m v), (a + 1, bw_an g N f)]
abbrev bw_po (g : bw_G) (A : bw_H) (a N : Nat) (f : Nat → Nat) (m : Nat) (v : Value) : bw_H := bw_up (bw_up A (a + 1) (bw_an g N f)) a (pob a m v)
theorem bw_po_po {g : bw_G} {A : bw_H} {a N : Nat} {f f' : Nat → Nat} {m m' : Nat} {v v' : Value} : bw_po g (bw_po g A a N f m v) a N f' m' v' = bw_po g A a N f' m' v' := by
  unfold bw_po
  rw [bw_up_cm (a := a) (b := a + 1) (by omega), bw_up_up, bw_up_up]
theorem bw_po_id {g : bw_G} {A : bw_H} {a N : Nat} {f : Nat → Nat} {m : Nat} {v : Value} (h : bw_has A (pcl g a N f m v)) : bw_po g A a N f m v = A := by
  unfold bw_po
  rw [bw_up_id (h.at 1 rfl), bw_up_id (h.at 0 rfl)]
set_option maxHeartbeats 4000000 in
set_option maxRecDepth 100000 in
theorem c7_settle_loop (g : bw_G) {A : bw_H} {a N m0 m : Nat} {f : Nat → Nat} {v : Value} (hC : bw_has A (pcl g a N f m0 v)) (hN : N < 2 ^ 30) (hmN : m ≤ N) (hf : ∀ i, f i < 2 ^ 31) :
    ∀ j, j ≤ m → gtp f j = gtp f m → bw_W g (bw_rm 0 0 0) mX7_settle (bw_pv (fun A' => A' = bw_up A a (pob a (gtp f m) v))) 0 0 2 [(0, .ref a), (2, .int (tI j))] [] A := by
  intro j
  induction j with
  | zero =>
    intro hj he
    have he : 0 = gtp f m := he
    rw [← he]
    refine bw_iload_n 3 dX7_settle_2 rfl rfl ?_
    refine bw_if_lt 21 6 dX7_settle_3 rfl rfl (fun c3 => ?_) (fun c3 => ?_)
    · refine bw_aload_n 22 dX7_settle_21 rfl rfl ?_
      refine bw_iload_n 23 dX7_settle_22 rfl rfl ?_
      refine bw_if_ge 30 26 dX7_settle_23 rfl rfl (fun c23 => ?_) (fun c23 => ?_)
      · exact absurd ((tI_lt0 (m := 0) (by omega)).mpr rfl) (Int32.not_lt.mpr c23)
      · skip
        refine bw_iconst (-1) 27 dX7_settle_26 (by decide) rfl ?_
        refine bw_goto 31 dX7_settle_27 rfl ?_
        refine bw_putU 34 dX7_settle_31 rfl pX7_9 (hC.at 0 rfl) rfl rfl (Nat.le_of_ble_eq_true rfl) (fun A hU => ?_)
        have hC := hC.upd 0 rfl hU
        refine bw_vret dX7_settle_34 rfl (Nat.le_of_ble_eq_true rfl) (Nat.le_of_ble_eq_true rfl) ?_
        exact ⟨rfl, hU⟩
    · exact absurd ((tI_lt0 (by omega)).mpr rfl) c3
  | succ j ih =>
    intro hj he
    rw [tI_s]
    refine bw_iload_n 3 dX7_settle_2 rfl rfl ?_
    refine bw_if_lt 21 6 dX7_settle_3 rfl rfl (fun c3 => ?_) (fun c3 => ?_)
    · exact absurd c3 (nI_pos (by omega))
    · skip
      refine bw_aload_n 7 dX7_settle_6 rfl rfl ?_
      refine bw_get 10 dX7_settle_7 rfl lX7_19 (hC.at 0 rfl) rfl ?_
      refine bw_iload_n 11 dX7_settle_10 rfl rfl ?_
      refine bw_iald 12 dX7_settle_11 rfl (hC.at 1 rfl) (by exact vp_in_nI (by omega) (by omega)) ?_
      refine bw_eqi (an_at f (by omega)) ?_
      refine bw_if_ne 21 15 dX7_settle_12 rfl rfl (fun c12 => ?_) (fun c12 => ?_)
      · have h0 : f j ≠ 0 := fun h => c12 ((xn_eq0 (hf j)).mpr h)
        have he : j + 1 = gtp f m := by
          have : gtp f (j + 1) = j + 1 := if_neg h0
          rw [← this]; exact he
        rw [← he]
        refine bw_aload_n 22 dX7_settle_21 rfl rfl ?_
        refine bw_iload_n 23 dX7_settle_22 rfl rfl ?_
        refine bw_if_ge 30 26 dX7_settle_23 rfl rfl (fun c23 => ?_) (fun c23 => ?_)
        · skip
          refine bw_iload_n 31 dX7_settle_30 rfl rfl ?_
          refine bw_putU 34 dX7_settle_31 rfl pX7_9 (hC.at 0 rfl) rfl rfl (Nat.le_of_ble_eq_true rfl) (fun A hU => ?_)
          have hC := hC.upd 0 rfl hU
          refine bw_vret dX7_settle_34 rfl (Nat.le_of_ble_eq_true rfl) (Nat.le_of_ble_eq_true rfl) ?_
          exact ⟨rfl, by rw [hU, pob, tI_s]; rfl⟩
        · exact absurd (nI_pos' (by omega)) c23
      · have h0 : f j = 0 := (xn_eq0 (hf j)).mp c12
        have he : gtp f j = gtp f m := by
          have : gtp f (j + 1) = gtp f j := if_pos h0
          rw [← this]; exact he
        refine bw_iincN (-1) 18 dX7_settle_15 rfl rfl (by decide) (by decide) ?_
        refine bw_goto 2 dX7_settle_18 rfl ?_
        refine bw_loc [(0, .ref a), (2, .int (tI j))] ⟨rfl, rfl, trivial⟩ ?_
        exact ih (by omega) he
set_option maxHeartbeats 4000000 in
set_option maxRecDepth 100000 in
theorem c7_settle (g : bw_G) {A : bw_H} {a N m0 m : Nat} {f : Nat → Nat} {v : Value} (hC : bw_has A (pcl g a N f m0 v)) (hN : N < 2 ^ 30) (hmN : m ≤ N) (hf : ∀ i, f i < 2 ^ 31) :
    bw_C g (bw_rm 0 0 0) mX7_settle [.ref a, .int (tI m)] A (bw_pv (fun A' => A' = bw_up A a (pob a (gtp f m) v))) := by
  refine bw_C.of (by decide) (Nat.le_of_ble_eq_true rfl) rfl ?_
  refine bw_iload_n 1 dX7_settle_0 rfl rfl ?_
  refine bw_istore_n 2 dX7_settle_1 rfl (by decide) ?_
  refine bw_loc [(0, .ref a), (2, .int (tI m))] ⟨rfl, rfl, trivial⟩ ?_
  exact c7_settle_loop g hC hN hmN hf m (Nat.le_refl m) rfl
/-- the first k are 0 -/
def gz (f : Nat → Nat) (k : Nat) (i : Nat) : Nat := if i < k then 0 else f i
theorem gz_s (f : Nat → Nat) (k : Nat) : (fun i => if i = k then 0 else gz f k i) = gz f (k + 1) := by
  funext i
  unfold gz
  by_cases h1 : i = k
  · rw [if_pos h1, if_pos (by omega)]
  · rw [if_neg h1]
    by_cases h2 : i < k
    · rw [if_pos h2, if_pos (by omega)]
    · rw [if_neg h2, if_neg (by omega)]
theorem gz_0 (f : Nat → Nat) : gz f 0 = f := by
  funext i
  unfold gz
  rw [if_neg (by omega)]
theorem gz_all {f : Nat → Nat} {m : Nat} (h : ∀ i, m ≤ i → f i = 0) : gz f m = fun _ => 0 := by
  funext i
  unfold gz
  split
  · rfl
  · exact h i (by omega)
set_option maxHeartbeats 4000000 in
set_option maxRecDepth 100000 in
theorem c7_clear_loop (g : bw_G) {A0 : bw_H} {a N m : Nat} {f : Nat → Nat} {v : Value} (hC0 : bw_has A0 (pcl g a N f m v)) (hN : N < 2 ^ 30) (hmN : m ≤ N) (hz : ∀ i, m ≤ i → f i = 0) :
    ∀ r k, k + r = m → bw_W g (bw_rm 0 0 0) mX7_clear (bw_pv (fun A' => A' = bw_po g A0 a N (fun _ => 0) 0 v)) 0 0 2 [(0, .ref a), (1, .int (nI k))] [] (bw_up A0 (a + 1) (bw_an g N (gz f k))) := by
  intro r
  induction r with
  | zero =>
    intro k hk
    have hk : k = m := by omega
    subst hk
    have hC := hC0.up 1 (e := bw_an g N (gz f k)) rfl
    refine bw_iload_n 3 dX7_clear_2 rfl rfl ?_
    refine bw_aload_n 4 dX7_clear_3 rfl rfl ?_
    refine bw_get 7 dX7_clear_4 rfl lX7_9 (hC.at 0 rfl) rfl ?_
    refine bw_icmp_gt 23 10 dX7_clear_7 rfl rfl (fun c7 => ?_) (fun c7 => ?_)
    · refine bw_aload_n 24 dX7_clear_23 rfl rfl ?_
      refine bw_iconst (-1) 25 dX7_clear_24 (by decide) rfl ?_
      refine bw_putU 28 dX7_clear_25 rfl pX7_9 (hC.at 0 rfl) rfl rfl (Nat.le_of_ble_eq_true rfl) (fun A hU => ?_)
      have hC := hC.upd 0 rfl hU
      refine bw_vret dX7_clear_28 rfl (Nat.le_of_ble_eq_true rfl) (Nat.le_of_ble_eq_true rfl) ?_
      exact ⟨rfl, by rw [hU, gz_all hz]; rfl⟩
    · exact absurd ((tI_ltk (by omega) (by omega)).mpr (Nat.le_refl k)) c7
  | succ r ih =>
    intro k hk
    have hC := hC0.up 1 (e := bw_an g N (gz f k)) rfl
    refine bw_iload_n 3 dX7_clear_2 rfl rfl ?_
    refine bw_aload_n 4 dX7_clear_3 rfl rfl ?_
    refine bw_get 7 dX7_clear_4 rfl lX7_9 (hC.at 0 rfl) rfl ?_
    refine bw_icmp_gt 23 10 dX7_clear_7 rfl rfl (fun c7 => ?_) (fun c7 => ?_)
    · exact absurd ((tI_ltk (by omega) (by omega)).mp c7) (by omega)
    · skip
      refine bw_aload_n 11 dX7_clear_10 rfl rfl ?_
      refine bw_get 14 dX7_clear_11 rfl lX7_19 (hC.at 0 rfl) rfl ?_
      refine bw_iload_n 15 dX7_clear_14 rfl rfl ?_
      refine bw_iconst (0) 16 dX7_clear_15 (by decide) rfl ?_
      refine bw_eqi (nI_0.symm) ?_
      refine bw_iastU 17 dX7_clear_16 rfl (hC.at 1 rfl) (by exact vp_in_nI (by omega) (by omega)) (fun A hU => ?_)
      have hC := hC.upd 1 rfl hU
      refine bw_iincN (1) 20 dX7_clear_17 rfl rfl (by decide) (by decide) ?_
      refine bw_goto 2 dX7_clear_20 rfl ?_
      refine bw_loc [(0, .ref a), (1, .int (nI (k + 1)))] ⟨rfl, congrArg (fun x => some (Value.int x)) (nI_1 k), trivial⟩ ?_
      rw [an_updE (v := 0) (by omega) (gz_s f k)] at hU
      rw [hU, bw_up_up]
      exact ih (k + 1) (by omega)
set_option maxHeartbeats 4000000 in
set_option maxRecDepth 100000 in
theorem c7_clear (g : bw_G) {A : bw_H} {a N m : Nat} {f : Nat → Nat} {v : Value} (hC : bw_has A (pcl g a N f m v)) (hN : N < 2 ^ 30) (hmN : m ≤ N) (hz : ∀ i, m ≤ i → f i = 0) :
    bw_C g (bw_rm 0 0 0) mX7_clear [.ref a] A (bw_pv (fun A' => A' = bw_po g A a N (fun _ => 0) 0 v)) := by
  refine bw_C.of (by decide) (Nat.le_of_ble_eq_true rfl) rfl ?_
  refine bw_iconst (0) 1 dX7_clear_0 (by decide) rfl ?_
  refine bw_istore_n 2 dX7_clear_1 rfl (by decide) ?_
  refine bw_loc [(0, .ref a), (1, .int (nI 0))] ⟨rfl, rfl, trivial⟩ ?_
  have hA : A = bw_up A (a + 1) (bw_an g N (gz f 0)) := by rw [gz_0]; exact (bw_up_id (hC.at 1 rfl)).symm
  have hgo := c7_clear_loop g hC hN hmN hz m 0 (by omega)
  rw [← hA] at hgo
  exact hgo
