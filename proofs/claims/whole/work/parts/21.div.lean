/-! polynomials by their coefficients alone; Division -/
/-- how many coefficients -/
def pd (f : Nat → Nat) : Nat := gtp f 200
theorem gtp_ge {f : Nat → Nat} : ∀ {m i : Nat}, i < m → f i ≠ 0 → i + 1 ≤ gtp f m
  | 0, _, h, _ => by omega
  | m + 1, i, h, h0 => by
    unfold gtp
    split
    · rename_i h1
      rcases Nat.lt_or_ge i m with h2 | h2
      · exact gtp_ge h2 h0
      · rw [show i = m by omega] at h0
        exact absurd h1 h0
    · omega
theorem gtp_eq {f : Nat → Nat} {m M : Nat} (hz : ∀ i, m ≤ i → f i = 0) (ht : m ≠ 0 → f (m - 1) ≠ 0) (hm : m ≤ M) : gtp f M = m := by
  apply Nat.le_antisymm
  · apply Nat.le_of_not_lt
    intro h
    have h1 := gtp_top f M (by omega)
    exact h1 (hz _ (by omega))
  · cases m with
    | zero => exact Nat.zero_le _
    | succ m => exact gtp_ge (by omega) (ht (by omega))
theorem gtp_pd {f : Nat → Nat} {m : Nat} (hz : ∀ i, m ≤ i → f i = 0) (hm : m ≤ 200) : gtp f m = pd f := by
  refine (gtp_eq (m := gtp f m) ?_ (gtp_top f m) (Nat.le_trans (gtp_le f m) hm)).symm
  intro i hi
  rcases Nat.lt_or_ge i m with h | h
  · exact gtp_z f m i hi h
  · exact hz i h
theorem pd_le {f : Nat → Nat} {m : Nat} (hz : ∀ i, m ≤ i → f i = 0) (hm : m ≤ 200) : pd f ≤ m := by
  rw [← gtp_pd hz hm]
  exact gtp_le f m
theorem pd_top {f : Nat → Nat} (h : pd f ≠ 0) : f (pd f - 1) ≠ 0 := gtp_top f 200 h
theorem pd_z {f : Nat → Nat} {N : Nat} (hz : ∀ i, N ≤ i → f i = 0) (hN : N ≤ 200) (i : Nat) (hi : pd f ≤ i) : f i = 0 := by
  rcases Nat.lt_or_ge i 200 with h | h
  · exact gtp_z f 200 i hi h
  · exact hz i (by omega)
theorem pd_eq {f : Nat → Nat} {m : Nat} (hz : ∀ i, m ≤ i → f i = 0) (ht : m ≠ 0 → f (m - 1) ≠ 0) (hm : m ≤ 200) : pd f = m := gtp_eq hz ht hm
theorem pd_0 : pd (fun _ => 0) = 0 := pd_eq (fun _ _ => rfl) (fun h => absurd rfl h) (by omega)
theorem pd_X : pd gX = 2 := pd_eq (fun i hi => if_neg (by omega)) (fun _ => by decide) (by omega)
/-- coefficients below 2 to the n, none from N on -/
def pok (n N : Nat) (f : Nat → Nat) : Prop := (∀ i, N ≤ i → f i = 0) ∧ ∀ i, f i < 2 ^ n
theorem pok.pnm {n N : Nat} {f : Nat → Nat} (h : pok n N f) (hN : N ≤ 200) : pnm n N f (pd f) := ⟨pd_le h.1 hN, pd_z h.1 hN, h.2, pd_top⟩
theorem pok.z {n N : Nat} {f : Nat → Nat} (h : pok n N f) (hN : N ≤ 200) (i : Nat) (hi : pd f ≤ i) : f i = 0 := pd_z h.1 hN i hi
theorem pok.le {n N : Nat} {f : Nat → Nat} (h : pok n N f) (hN : N ≤ 200) : pd f ≤ N := pd_le h.1 hN
theorem pok.mono {n N N' : Nat} {f : Nat → Nat} (h : pok n N f) (hN : N ≤ N') : pok n N' f := ⟨fun i hi => h.1 i (by omega), h.2⟩
theorem pok.less {n N N' : Nat} {f : Nat → Nat} (h : pok n N f) (hN : N ≤ 200) (h1 : pd f ≤ N') : pok n N' f := ⟨fun i hi => h.z hN i (by omega), h.2⟩
theorem pok.zero (n N : Nat) : pok n N (fun _ => 0) := ⟨fun _ _ => rfl, fun _ => Nat.two_pow_pos n⟩
theorem pok.X {n N : Nat} (hn : 1 < 2 ^ n) (hN : 2 ≤ N) : pok n N gX := ⟨fun i hi => if_neg (by omega), fun i => by unfold gX; split <;> omega⟩
abbrev ppl (g : bw_G) (a N : Nat) (f : Nat → Nat) (v : Value) : List (Nat × va_E) := pcl g a N f (pd f) v
abbrev bw_pp (g : bw_G) (A : bw_H) (a N : Nat) (f : Nat → Nat) (v : Value) : bw_H := bw_po g A a N f (pd f) v
/-- m coefficients at most, not all of N -/
def pwk (N : Nat) (f : Nat → Nat) (m : Nat) : Prop := m ≤ N ∧ ∀ i, m ≤ i → f i = 0
theorem pok.pwk {n N : Nat} {f : Nat → Nat} (h : pok n N f) (hN : N ≤ 200) : pwk N f (pd f) := ⟨h.le hN, h.z hN⟩
theorem c7_clearP (g : bw_G) {A : bw_H} {a N m : Nat} {f : Nat → Nat} {v : Value} (hC : bw_has A (pcl g a N f m v)) (hN : N ≤ 200) (hw : pwk N f m) :
    bw_C g (bw_rm 0 0 0) mX7_clear [.ref a] A (bw_pv (fun A' => A' = bw_pp g A a N (fun _ => 0) v)) := by
  have := c7_clear g hC (by omega) hw.1 hw.2
  unfold bw_pp
  rw [pd_0]
  exact this
theorem c7_copyP (g : bw_G) {A : bw_H} {a b n N NB m : Nat} {f h : Nat → Nat} {v w : Value} (hn : 2 ^ n ≤ 65536) (hC : bw_has A (pcl g a N f m v ++ ppl g b NB h w)) (hN : N ≤ 200) (hNB : NB ≤ 200) (hw : pwk N f m) (hb : pok n NB h) (hbN : pd h ≤ N) :
    bw_C g (bw_rm 2 0 0) mX7_copyFrom [.ref a, .ref b] A (bw_pv (fun A' => A' = bw_pp g A a N h v)) :=
  c7_copyFrom g hn hC (by omega) hw.1 hw.2 (hb.pnm hNB) hbN
theorem c7_XP (g : bw_G) {A : bw_H} {a N m : Nat} {f : Nat → Nat} {v : Value} (hC : bw_has A (pcl g a N f m v)) (hN : N ≤ 200) (h2 : 2 ≤ N) (hw : pwk N f m) :
    bw_C g (bw_rm 1 0 0) mX7_becomeX [.ref a] A (bw_pv (fun A' => A' = bw_pp g A a N gX v)) := by
  have := c7_becomeX g hC (by omega) h2 hw.1 hw.2
  unfold bw_pp
  rw [pd_X]
  exact this
theorem gps_ok {n q N : Nat} (hG : GFp n q) {f h : Nat → Nat} {c : Nat} (hf : pok n N f) (hh : pok n N h) (hc : c < 2 ^ n) : pok n N (gps n q f h c) :=
  ⟨fun i hi => by unfold gps; rw [hf.1 i hi, hh.1 i hi, gm_b0]; rfl, gps_lt hG hf.2 hc⟩
theorem c7_addP (g : bw_G) {A : bw_H} {F a b n p gg N NB c : Nat} {f h : Nat → Nat} {v w : Value} (hG : GFg n p gg) (hC : bw_has A (ppl g a N f v ++ (fcl g n p gg F ++ ppl g b NB h w))) (hN : N ≤ 200) (hNB : NB ≤ 200) (ha : pok n N f) (hb : pok n NB h) (hbN : pd h ≤ N) (hc : c < 2 ^ n) :
    bw_C g (bw_rm 1 0 0) mX7_addScaled [.ref a, .ref F, .ref b, .int (nI c)] A (bw_pv (fun A' => A' = bw_pp g A a N (gps n (2 ^ n ||| p) f h c) v)) := by
  have := c7_addScaled g hG hC (by omega) (by omega) (ha.pnm hN) (hb.pnm hNB) hbN hc
  rw [gtp_pd (gps_z (ha.z hN) (hb.z hNB)) (by have := ha.le hN; omega)] at this
  exact this
theorem gpc_ok {n N : Nat} {f : Nat → Nat} {x : Nat} (hN : 1 ≤ N) (hf : pok n N f) (hx : x < 2 ^ n) : pok n N (gpc f x) :=
  ⟨fun i hi => by unfold gpc; rw [if_neg (by omega), hf.1 i hi], fun i => by
    unfold gpc
    split
    · exact xor_lt (hf.2 0) hx
    · exact hf.2 i⟩
theorem c7_memP (g : bw_G) {A : bw_H} {a n N x : Nat} {f : Nat → Nat} {v : Value} (hn : 2 ^ n ≤ 65536) (hC : bw_has A (ppl g a N f v)) (hN : N ≤ 200) (h1 : 1 ≤ N) (ha : pok n N f) (hx : x < 2 ^ n) :
    bw_C g (bw_rm 1 0 0) mX7_addMember [.ref a, .int (nI x)] A (bw_pv (fun A' => A' = bw_pp g A a N (gpc f x) v)) := by
  have := c7_addMember g hn hC (by omega) h1 (ha.pnm hN) hx
  rw [gtp_pd (m := max (pd f) 1) (fun i hi => by unfold gpc; rw [if_neg (by omega), ha.z hN i (by omega)]) (by have := ha.le hN; omega)] at this
  exact this
/-- one step of a division, at k: the quotient's coefficient stays there -/
def gds (n q : Nat) (h : Nat → Nat) (low inv : Nat) (f : Nat → Nat) (k : Nat) (i : Nat) : Nat := if i = k then gm n q (f k) inv else gam n q f h (k - low) 0 (gm n q (f k) inv) low i
/-- all steps, from low + r on down -/
def gdl (n q : Nat) (h : Nat → Nat) (low inv : Nat) : Nat → (Nat → Nat) → Nat → Nat
  | 0, f => f
  | r + 1, f => gdl n q h low inv r (gds n q h low inv f (low + r))
theorem gds_lt {n q : Nat} (hG : GFp n q) {f h : Nat → Nat} {low inv k : Nat} (hf : ∀ i, f i < 2 ^ n) (i : Nat) : gds n q h low inv f k i < 2 ^ n := by
  unfold gds
  split
  · exact hG.lt (hf k)
  · exact gam_lt hG hf (hG.lt (hf k)) i
theorem gdl_lt {n q : Nat} (hG : GFp n q) {h : Nat → Nat} {low inv : Nat} : ∀ (r : Nat) {f : Nat → Nat}, (∀ i, f i < 2 ^ n) → ∀ i, gdl n q h low inv r f i < 2 ^ n
  | 0, _, hf => hf
  | r + 1, _, hf => gdl_lt hG r (gds_lt hG hf)
theorem gds_up {n q : Nat} {f h : Nat → Nat} {low inv k i : Nat} (hk : low ≤ k) (hi : k < i) : gds n q h low inv f k i = f i := by
  unfold gds gam
  rw [if_neg (by omega), if_neg (by omega)]
theorem gdl_up {n q : Nat} {h : Nat → Nat} {low inv : Nat} : ∀ (r : Nat) {f : Nat → Nat} {i : Nat}, low + r ≤ i → gdl n q h low inv r f i = f i
  | 0, _, _, _ => rfl
  | r + 1, f, i, hi => by
    show gdl n q h low inv r _ i = f i
    rw [gdl_up r (by omega), gds_up (by omega) (by omega)]
abbrev dob (F : Nat) : va_E := .inr (2, [.ref F])
noncomputable abbrev dvl (g : bw_G) (n p gg D F : Nat) : List (Nat × va_E) := (D, dob F) :: fcl g n p gg F
set_option maxHeartbeats 4000000 in
set_option maxRecDepth 100000 in
theorem c0_div_loop (g : bw_G) {A0 : bw_H} {D F a b n p gg N NB low inv m mb : Nat} {f0 h : Nat → Nat} {v w : Value} (hG : GFg n p gg) (hC0 : bw_has A0 (dvl g n p gg D F ++ (pcl g a N f0 m v ++ pcl g b NB h mb w))) (hN : N ≤ 200) (hNB : NB ≤ 200) (hh : ∀ i, h i < 2 ^ n) (hlow : low < NB) (hinv : inv < 2 ^ n) :
    ∀ (r : Nat) (f : Nat → Nat), (∀ i, f i < 2 ^ n) → low + r ≤ N → bw_W g (bw_rm 1 0 0) mX0_divideInPlace (bw_pv (fun A' => A' = bw_up A0 (a + 1) (bw_an g N (gdl n (2 ^ n ||| p) h low inv r f)))) 0 0 26 [(0, .ref D), (1, .ref a), (2, .ref b), (3, .int (nI low)), (4, .int (nI inv)), (5, .int (tI (low + r)))] [] (bw_up A0 (a + 1) (bw_an g N f)) := by
  intro r
  induction r with
  | zero =>
    intro f hf hr
    have hC := hC0.up 4 (e := bw_an g N f) rfl
    refine bw_iload 28 dX0_divideInPlace_26 rfl rfl ?_
    refine bw_iload_n 29 dX0_divideInPlace_28 rfl rfl ?_
    refine bw_icmp_lt 88 32 dX0_divideInPlace_29 rfl rfl (fun c29 => ?_) (fun c29 => ?_)
    · refine bw_vret dX0_divideInPlace_88 rfl (Nat.le_of_ble_eq_true rfl) (Nat.le_of_ble_eq_true rfl) ?_
      exact ⟨rfl, rfl⟩
    · exact absurd ((tI_ltk (m := low) (by omega) (by omega)).mpr (Nat.le_refl low)) c29
  | succ r ih =>
    intro f hf hr
    have hC := hC0.up 4 (e := bw_an g N f) rfl
    have hlr : low ≤ low + r := Nat.le_add_right low r
    rw [show tI (low + (r + 1)) = nI (low + r) from tI_s (low + r)]
    refine bw_iload 28 dX0_divideInPlace_26 rfl rfl ?_
    refine bw_iload_n 29 dX0_divideInPlace_28 rfl rfl ?_
    refine bw_icmp_lt 88 32 dX0_divideInPlace_29 rfl rfl (fun c29 => ?_) (fun c29 => ?_)
    · exact absurd ((nI_ltI (by omega) (by omega)).mp c29) (by omega)
    · skip
      refine bw_aload_n 33 dX0_divideInPlace_32 rfl rfl ?_
      refine bw_get 36 dX0_divideInPlace_33 rfl lX0_9 (hC.at 0 rfl) rfl ?_
      refine bw_aload_n 37 dX0_divideInPlace_36 rfl rfl ?_
      refine bw_get 40 dX0_divideInPlace_37 rfl lX0_25 (hC.at 3 rfl) rfl ?_
      refine bw_iload 42 dX0_divideInPlace_40 rfl rfl ?_
      refine bw_ialdN 43 dX0_divideInPlace_42 rfl (hC.at 4 rfl) (by omega) (by omega) ?_
      refine bw_iload 45 dX0_divideInPlace_43 rfl rfl ?_
      refine bw_cVi 48 dX0_divideInPlace_45 rfl vX0_45 (c3_mul g hG (hC.sub [1, 2] (by decide) rfl) (hf (low + r)) hinv) (hC.at 1 rfl) rfl rfl (Nat.le_of_ble_eq_true rfl) ⟨(Nat.le_of_ble_eq_true rfl), (Nat.le_of_ble_eq_true rfl)⟩ (Nat.le_of_ble_eq_true rfl) (Nat.le_of_ble_eq_true rfl) ?_
      refine bw_istore 50 dX0_divideInPlace_48 rfl (by decide) ?_
      refine bw_aload_n 51 dX0_divideInPlace_50 rfl rfl ?_
      refine bw_get 54 dX0_divideInPlace_51 rfl lX0_9 (hC.at 0 rfl) rfl ?_
      refine bw_aload_n 55 dX0_divideInPlace_54 rfl rfl ?_
      refine bw_get 58 dX0_divideInPlace_55 rfl lX0_25 (hC.at 3 rfl) rfl ?_
      refine bw_iload 60 dX0_divideInPlace_58 rfl rfl ?_
      refine bw_iload_n 61 dX0_divideInPlace_60 rfl rfl ?_
      refine bw_isub 62 dX0_divideInPlace_61 rfl ?_
      refine bw_eqi (pk_sub (Nat.le_add_right low r)) ?_
      refine bw_aload_n 63 dX0_divideInPlace_62 rfl rfl ?_
      refine bw_get 66 dX0_divideInPlace_63 rfl lX0_25 (hC.at 5 rfl) rfl ?_
      refine bw_iconst (0) 67 dX0_divideInPlace_66 (by decide) rfl ?_
      refine bw_eqi (y := nI 0) rfl ?_
      refine bw_iload_n 68 dX0_divideInPlace_67 rfl rfl ?_
      refine bw_iload 70 dX0_divideInPlace_68 rfl rfl ?_
      refine bw_cVv 73 dX0_divideInPlace_70 rfl vX0_49 (c3_addMultiple g (fr := 0) hG (hC.sub [1, 2, 4, 6] (by decide) rfl) hf hh (by omega) (by omega) (by omega) (by omega) (hG.2.2.1.lt (hf (low + r)))) (hC.at 1 rfl) rfl rfl (Nat.le_of_ble_eq_true rfl) ⟨(Nat.le_of_ble_eq_true rfl), (Nat.le_of_ble_eq_true rfl)⟩ (Nat.le_of_ble_eq_true rfl) (Nat.le_of_ble_eq_true rfl) (fun A hP => ?_)
      have hX := hP
      have hC := hC.upd 4 rfl hP
      refine bw_aload_n 74 dX0_divideInPlace_73 rfl rfl ?_
      refine bw_get 77 dX0_divideInPlace_74 rfl lX0_25 (hC.at 3 rfl) rfl ?_
      refine bw_iload 79 dX0_divideInPlace_77 rfl rfl ?_
      refine bw_iload 81 dX0_divideInPlace_79 rfl rfl ?_
      refine bw_iastN 82 dX0_divideInPlace_81 rfl (hC.at 4 rfl) (by omega) (by omega) (G := gds n (2 ^ n ||| p) h low inv f (low + r)) (rfl) (fun A hU => ?_)
      have hC := hC.upd 4 rfl hU
      refine bw_iincN (-1) 85 dX0_divideInPlace_82 rfl rfl (by decide) (by decide) ?_
      refine bw_goto 26 dX0_divideInPlace_85 rfl ?_
      refine bw_loc [(0, .ref D), (1, .ref a), (2, .ref b), (3, .int (nI low)), (4, .int (nI inv)), (5, .int (tI (low + r)))] ⟨rfl, rfl, rfl, rfl, rfl, rfl, trivial⟩ ?_
      rw [hU, hX, bw_up_up, bw_up_up]
      exact ih (gds n (2 ^ n ||| p) h low inv f (low + r)) (gds_lt hG.2.2.1 hf) (by omega)
set_option maxHeartbeats 4000000 in
set_option maxRecDepth 100000 in
theorem c0_divideInPlace (g : bw_G) {A : bw_H} {D F a b n p gg N NB low m : Nat} {f h : Nat → Nat} {v w : Value} (hG : GFg n p gg) (hC : bw_has A (dvl g n p gg D F ++ (pcl g a N f m v ++ pcl g b NB h (low + 1) w))) (hN : N ≤ 200) (hNB : NB ≤ 200) (hf : ∀ i, f i < 2 ^ n) (hh : ∀ i, h i < 2 ^ n) (hlow : low < NB) (hm : m ≤ N) (hlm : low < m) :
    bw_C g (bw_rm 1 0 0) mX0_divideInPlace [.ref D, .ref a, .ref b] A (bw_pv (fun A' => A' = bw_up A (a + 1) (bw_an g N (gdl n (2 ^ n ||| p) h low (ginv n (2 ^ n ||| p) (h low)) (m - low) f)))) := by
  refine bw_C.of (by decide) (Nat.le_of_ble_eq_true rfl) rfl ?_
  refine bw_aload_n 1 dX0_divideInPlace_0 rfl rfl ?_
  refine bw_get 4 dX0_divideInPlace_1 rfl lX0_15 (hC.at 5 rfl) rfl ?_
  refine bw_eqi (tI_s low) ?_
  refine bw_istore_n 5 dX0_divideInPlace_4 rfl (by decide) ?_
  refine bw_aload_n 6 dX0_divideInPlace_5 rfl rfl ?_
  refine bw_get 9 dX0_divideInPlace_6 rfl lX0_9 (hC.at 0 rfl) rfl ?_
  refine bw_aload_n 10 dX0_divideInPlace_9 rfl rfl ?_
  refine bw_get 13 dX0_divideInPlace_10 rfl lX0_25 (hC.at 5 rfl) rfl ?_
  refine bw_iload_n 14 dX0_divideInPlace_13 rfl rfl ?_
  refine bw_ialdN 15 dX0_divideInPlace_14 rfl (hC.at 6 rfl) (by omega) (by omega) ?_
  refine bw_cVi 18 dX0_divideInPlace_15 rfl vX0_39 (c3_inverse g hG (hC.sub [1, 2] (by decide) rfl) (hh low)) (hC.at 1 rfl) rfl rfl (Nat.le_of_ble_eq_true rfl) ⟨(Nat.le_of_ble_eq_true rfl), (Nat.le_of_ble_eq_true rfl)⟩ (Nat.le_of_ble_eq_true rfl) (Nat.le_of_ble_eq_true rfl) ?_
  refine bw_istore 20 dX0_divideInPlace_18 rfl (by decide) ?_
  refine bw_aload_n 21 dX0_divideInPlace_20 rfl rfl ?_
  refine bw_get 24 dX0_divideInPlace_21 rfl lX0_15 (hC.at 3 rfl) rfl ?_
  refine bw_istore 26 dX0_divideInPlace_24 rfl (by decide) ?_
  have hgo := c0_div_loop g hG hC hN hNB hh hlow (ginv_lt hG (h low)) (m - low) f hf (by omega)
  rw [bw_up_id (hC.at 4 rfl)] at hgo
  rw [show low + (m - low) = m by omega] at hgo
  exact bw_loc [(0, .ref D), (1, .ref a), (2, .ref b), (3, .int (nI low)), (4, .int (nI (ginv n (2 ^ n ||| p) (h low)))), (5, .int (tI m))] ⟨rfl, rfl, rfl, rfl, rfl, rfl, trivial⟩ hgo
theorem bw_po_up {g : bw_G} {A : bw_H} {a N m : Nat} {f : Nat → Nat} {v : Value} {e : va_E} : bw_po g (bw_up A (a + 1) e) a N f m v = bw_po g A a N f m v := by
  unfold bw_po
  rw [bw_up_up]
theorem tI_p {m : Nat} (h : m ≠ 0) : tI m = nI (m - 1) := by
  cases m with
  | zero => exact absurd rfl h
  | succ m => exact tI_s m
theorem gtp_cut (f : Nat → Nat) {c : Nat} (hc : c ≤ 200) : gtp (gcut f c) c = pd (gcut f c) := gtp_pd (fun i hi => if_neg (by omega)) hc
/-- none from low up to k -/
def gzr (f : Nat → Nat) (low k : Nat) (i : Nat) : Nat := if low ≤ i ∧ i < k then 0 else f i
theorem gzr_s {f : Nat → Nat} {low k : Nat} (h : low ≤ k) : (fun i => if i = k then 0 else gzr f low k i) = gzr f low (k + 1) := by
  funext i
  unfold gzr
  by_cases h1 : i = k
  · rw [if_pos h1, if_pos (by omega)]
  · rw [if_neg h1]
    by_cases h2 : low ≤ i ∧ i < k
    · rw [if_pos h2, if_pos (by omega)]
    · rw [if_neg h2, if_neg (by omega)]
theorem gzr_0 (f : Nat → Nat) (low : Nat) : gzr f low low = f := by
  funext i
  unfold gzr
  rw [if_neg (by omega)]
theorem gzr_all {f : Nat → Nat} {low m : Nat} (hz : ∀ i, m ≤ i → f i = 0) : gzr f low m = gcut f low := by
  funext i
  unfold gzr gcut
  by_cases h1 : i < low
  · rw [if_neg (by omega), if_pos h1]
  · rw [if_neg h1]
    by_cases h2 : i < m
    · rw [if_pos (by omega)]
    · rw [if_neg (by omega), hz i (by omega)]
/-- the rest and the quotient -/
def grs (n q : Nat) (f h : Nat → Nat) : Nat → Nat := gcut (gdl n q h (pd h - 1) (ginv n q (h (pd h - 1))) (pd f - (pd h - 1)) f) (pd h - 1)
def gqu (n q : Nat) (f h : Nat → Nat) : Nat → Nat := fun i => gdl n q h (pd h - 1) (ginv n q (h (pd h - 1))) (pd f - (pd h - 1)) f (i + (pd h - 1))
theorem grs_lt {n q N : Nat} {f h : Nat → Nat} (hf : pok n N f) (hN : N ≤ 200) (h1 : pd f < pd h) : grs n q f h = f := by
  unfold grs
  rw [show pd f - (pd h - 1) = 0 by omega]
  funext i
  show gcut f (pd h - 1) i = f i
  unfold gcut
  split
  · rfl
  · exact (hf.z hN i (by omega)).symm
theorem gqu_lt {n q N : Nat} {f h : Nat → Nat} (hf : pok n N f) (hN : N ≤ 200) (h1 : pd f < pd h) : gqu n q f h = fun _ => 0 := by
  unfold gqu
  rw [show pd f - (pd h - 1) = 0 by omega]
  funext i
  exact hf.z hN _ (by omega)
theorem grs_ok {n q N : Nat} (hG : GFp n q) {f h : Nat → Nat} (hf : pok n N f) : pok n (pd h - 1) (grs n q f h) :=
  ⟨fun i hi => if_neg (by omega), fun i => by
    unfold grs gcut
    split
    · exact gdl_lt hG _ hf.2 i
    · exact Nat.two_pow_pos n⟩
theorem gqu_ok {n q N : Nat} (hG : GFp n q) {f h : Nat → Nat} (hf : pok n N f) (hN : N ≤ 200) : pok n (N - (pd h - 1)) (gqu n q f h) :=
  ⟨fun i hi => by
    unfold gqu
    have := hf.le hN
    rw [gdl_up _ (by omega)]
    exact hf.1 _ (by omega), fun i => gdl_lt hG _ hf.2 _⟩
theorem grs_pd {n q N : Nat} (hG : GFp n q) {f h : Nat → Nat} (hf : pok n N f) (hh : pd h ≤ 200) (h0 : pd h ≠ 0) : pd (grs n q f h) < pd h := by
  have := pd_le (grs_ok hG (h := h) hf).1 (by omega)
  omega
set_option maxHeartbeats 4000000 in
set_option maxRecDepth 100000 in
theorem c0_toRest_loop (g : bw_G) {A0 : bw_H} {D F a b n p gg N NB low m : Nat} {f0 f h : Nat → Nat} {v w : Value} (hC0 : bw_has A0 (dvl g n p gg D F ++ (pcl g a N f0 m v ++ pcl g b NB h (low + 1) w))) (hN : N ≤ 200) (hm : m ≤ N) (hlm : low ≤ m) (hf : ∀ i, f i < 2 ^ 31) (hz : ∀ i, m ≤ i → f i = 0) :
    ∀ k, k ≤ m → low ≤ k → bw_W g (bw_rm 2 0 0) mX0_toRest (bw_pv (fun A' => A' = bw_po g A0 a N (gcut f low) (gtp (gcut f low) low) v)) 0 0 30 [(0, .ref D), (1, .ref a), (2, .ref b), (3, .int (nI k))] [] (bw_up A0 (a + 1) (bw_an g N (gzr f low k))) := by
  refine nat_up (P := fun k => low ≤ k → bw_W g (bw_rm 2 0 0) mX0_toRest (bw_pv (fun A' => A' = bw_po g A0 a N (gcut f low) (gtp (gcut f low) low) v)) 0 0 30 [(0, .ref D), (1, .ref a), (2, .ref b), (3, .int (nI k))] [] (bw_up A0 (a + 1) (bw_an g N (gzr f low k)))) m ?_ ?_
  · intro hk
    rw [gzr_all hz]
    have hC := hC0.up 4 (e := bw_an g N (gcut f low)) rfl
    refine bw_iload_n 31 dX0_toRest_30 rfl rfl ?_
    refine bw_aload_n 32 dX0_toRest_31 rfl rfl ?_
    refine bw_get 35 dX0_toRest_32 rfl lX0_15 (hC.at 3 rfl) rfl ?_
    refine bw_icmp_gt 51 38 dX0_toRest_35 rfl rfl (fun c35 => ?_) (fun c35 => ?_)
    · refine bw_aload_n 52 dX0_toRest_51 rfl rfl ?_
      refine bw_aload_n 53 dX0_toRest_52 rfl rfl ?_
      refine bw_get 56 dX0_toRest_53 rfl lX0_15 (hC.at 5 rfl) rfl ?_
      refine bw_eqi (tI_s low) ?_
      refine bw_iconst (1) 57 dX0_toRest_56 (by decide) rfl ?_
      refine bw_isub 58 dX0_toRest_57 rfl ?_
      refine bw_eqi (tI_sub low) ?_
      refine bw_cVv 61 dX0_toRest_58 rfl vX0_29 (c7_settle g (hC.sub [3, 4] (by decide) rfl) (by omega) (by omega) (fun i => by unfold gcut; split; exact hf i; decide)) (hC.at 3 rfl) rfl rfl (Nat.le_of_ble_eq_true rfl) ⟨(Nat.le_of_ble_eq_true rfl), (Nat.le_of_ble_eq_true rfl)⟩ (Nat.le_of_ble_eq_true rfl) (Nat.le_of_ble_eq_true rfl) (fun A hP => ?_)
      refine bw_vret dX0_toRest_61 rfl (Nat.le_of_ble_eq_true rfl) (Nat.le_of_ble_eq_true rfl) ?_
      exact ⟨rfl, hP⟩
    · exact absurd ((tI_ltk (by omega) (by omega)).mpr (Nat.le_refl m)) c35
  · intro k hk ih hlk
    have hC := hC0.up 4 (e := bw_an g N (gzr f low k)) rfl
    refine bw_iload_n 31 dX0_toRest_30 rfl rfl ?_
    refine bw_aload_n 32 dX0_toRest_31 rfl rfl ?_
    refine bw_get 35 dX0_toRest_32 rfl lX0_15 (hC.at 3 rfl) rfl ?_
    refine bw_icmp_gt 51 38 dX0_toRest_35 rfl rfl (fun c35 => ?_) (fun c35 => ?_)
    · exact absurd ((tI_ltk (by omega) (by omega)).mp c35) (by omega)
    · skip
      refine bw_aload_n 39 dX0_toRest_38 rfl rfl ?_
      refine bw_get 42 dX0_toRest_39 rfl lX0_25 (hC.at 3 rfl) rfl ?_
      refine bw_iload_n 43 dX0_toRest_42 rfl rfl ?_
      refine bw_iconst (0) 44 dX0_toRest_43 (by decide) rfl ?_
      refine bw_eqi (y := nI 0) rfl ?_
      refine bw_iastN 45 dX0_toRest_44 rfl (hC.at 4 rfl) (by omega) (by omega) (G := gzr f low (k + 1)) (gzr_s hlk) (fun A hU => ?_)
      have hC := hC.upd 4 rfl hU
      refine bw_iincN (1) 48 dX0_toRest_45 rfl rfl (by decide) (by decide) ?_
      refine bw_goto 30 dX0_toRest_48 rfl ?_
      refine bw_loc [(0, .ref D), (1, .ref a), (2, .ref b), (3, .int (nI (k + 1)))] ⟨rfl, rfl, rfl, congrArg (fun x => some (Value.int x)) (nI_1 k), trivial⟩ ?_
      rw [hU, bw_up_up]
      exact ih (by omega)
set_option maxHeartbeats 4000000 in
set_option maxRecDepth 100000 in
theorem c0_toRest (g : bw_G) {A : bw_H} {D F a b n p gg N NB : Nat} {f h : Nat → Nat} {v w : Value} (hG : GFg n p gg) (hC : bw_has A (dvl g n p gg D F ++ (ppl g a N f v ++ ppl g b NB h w))) (hN : N ≤ 200) (hNB : NB ≤ 200) (hf : pok n N f) (hh : pok n NB h) (h0 : pd h ≠ 0) :
    bw_C g (bw_rm 2 0 0) mX0_toRest [.ref D, .ref a, .ref b] A (bw_pv (fun A' => A' = bw_pp g A a N (grs n (2 ^ n ||| p) f h) v)) := by
  have hpf := hf.le hN
  have hph := hh.le hNB
  obtain ⟨low, hlow⟩ : ∃ low, pd h = low + 1 := ⟨pd h - 1, by omega⟩
  have hC : bw_has A (dvl g n p gg D F ++ (pcl g a N f (pd f) v ++ pcl g b NB h (low + 1) w)) := by rw [← hlow]; exact hC
  refine bw_C.of (by decide) (Nat.le_of_ble_eq_true rfl) rfl ?_
  refine bw_aload_n 1 dX0_toRest_0 rfl rfl ?_
  refine bw_get 4 dX0_toRest_1 rfl lX0_15 (hC.at 5 rfl) rfl ?_
  refine bw_if_lt 18 7 dX0_toRest_4 rfl rfl (fun c4 => ?_) (fun c4 => ?_)
  · exact absurd ((tI_lt0 (by omega)).mp c4) (by omega)
  · skip
    refine bw_aload_n 8 dX0_toRest_7 rfl rfl ?_
    refine bw_get 11 dX0_toRest_8 rfl lX0_15 (hC.at 3 rfl) rfl ?_
    refine bw_aload_n 12 dX0_toRest_11 rfl rfl ?_
    refine bw_get 15 dX0_toRest_12 rfl lX0_15 (hC.at 5 rfl) rfl ?_
    refine bw_icmp_ge 19 18 dX0_toRest_15 rfl rfl (fun c15 => ?_) (fun c15 => ?_)
    · have h1 : low + 1 ≤ pd f := (tI_le (by omega) (by omega)).mp c15
      refine bw_aload_n 20 dX0_toRest_19 rfl rfl ?_
      refine bw_aload_n 21 dX0_toRest_20 rfl rfl ?_
      refine bw_aload_n 22 dX0_toRest_21 rfl rfl ?_
      refine bw_cVv 25 dX0_toRest_22 rfl vX0_21 (c0_divideInPlace g hG hC hN hNB hf.2 hh.2 (by omega) hpf h1) (hC.at 0 rfl) rfl rfl (Nat.le_of_ble_eq_true rfl) ⟨(Nat.le_of_ble_eq_true rfl), (Nat.le_of_ble_eq_true rfl)⟩ (Nat.le_of_ble_eq_true rfl) (Nat.le_of_ble_eq_true rfl) (fun A hP => ?_)
      have hA0 := hC
      have hC := hC.upd 4 rfl hP
      refine bw_aload_n 26 dX0_toRest_25 rfl rfl ?_
      refine bw_get 29 dX0_toRest_26 rfl lX0_15 (hC.at 5 rfl) rfl ?_
      refine bw_eqi (tI_s low) ?_
      refine bw_istore_n 30 dX0_toRest_29 rfl (by decide) ?_
      have hgo := c0_toRest_loop g (f := gdl n (2 ^ n ||| p) h low (ginv n (2 ^ n ||| p) (h low)) (pd f - low) f) hA0 hN hpf (by omega) (fun i => Nat.lt_of_lt_of_le (gdl_lt hG.2.2.1 _ hf.2 i) (Nat.le_trans hG.p16 (by decide))) (fun i hi => by rw [gdl_up _ (by omega)]; exact hf.z hN i hi) low (by omega) (Nat.le_refl low)
      rw [gzr_0, ← hP, gtp_cut _ (by omega)] at hgo
      rw [show grs n (2 ^ n ||| p) f h = gcut (gdl n (2 ^ n ||| p) h low (ginv n (2 ^ n ||| p) (h low)) (pd f - low) f) low by unfold grs; rw [hlow]; rfl]
      exact bw_loc [(0, .ref D), (1, .ref a), (2, .ref b), (3, .int (nI low))] ⟨rfl, rfl, rfl, rfl, trivial⟩ hgo
    · have h1 : pd f < pd h := by
        refine Nat.not_le.mp (fun h1 => c15 ((tI_le (by omega) (by omega)).mpr ?_))
        omega
      refine bw_vret dX0_toRest_18 rfl (Nat.le_of_ble_eq_true rfl) (Nat.le_of_ble_eq_true rfl) ?_
      exact ⟨rfl, by rw [grs_lt hf hN h1]; exact (bw_po_id (hC.sub [3, 4] (by decide) rfl)).symm⟩
set_option maxHeartbeats 4000000 in
set_option maxRecDepth 100000 in
theorem c0_toQuotient (g : bw_G) {A : bw_H} {D F a b n p gg N NB : Nat} {f h : Nat → Nat} {v w : Value} (hG : GFg n p gg) (hC : bw_has A (dvl g n p gg D F ++ (ppl g a N f v ++ ppl g b NB h w))) (hN : N ≤ 200) (hNB : NB ≤ 200) (hf : pok n N f) (hh : pok n NB h) (h0 : pd h ≠ 0) :
    bw_C g (bw_rm 2 0 0) mX0_toQuotient [.ref D, .ref a, .ref b] A (bw_pv (fun A' => A' = bw_pp g A a N (gqu n (2 ^ n ||| p) f h) v)) := by
  have hpf := hf.le hN
  have hph := hh.le hNB
  obtain ⟨low, hlow⟩ : ∃ low, pd h = low + 1 := ⟨pd h - 1, by omega⟩
  have hC : bw_has A (dvl g n p gg D F ++ (pcl g a N f (pd f) v ++ pcl g b NB h (low + 1) w)) := by rw [← hlow]; exact hC
  refine bw_C.of (by decide) (Nat.le_of_ble_eq_true rfl) rfl ?_
  refine bw_aload_n 1 dX0_toQuotient_0 rfl rfl ?_
  refine bw_get 4 dX0_toQuotient_1 rfl lX0_15 (hC.at 5 rfl) rfl ?_
  refine bw_if_lt 18 7 dX0_toQuotient_4 rfl rfl (fun c4 => ?_) (fun c4 => ?_)
  · exact absurd ((tI_lt0 (by omega)).mp c4) (by omega)
  · skip
    refine bw_aload_n 8 dX0_toQuotient_7 rfl rfl ?_
    refine bw_get 11 dX0_toQuotient_8 rfl lX0_15 (hC.at 3 rfl) rfl ?_
    refine bw_aload_n 12 dX0_toQuotient_11 rfl rfl ?_
    refine bw_get 15 dX0_toQuotient_12 rfl lX0_15 (hC.at 5 rfl) rfl ?_
    refine bw_icmp_ge 23 18 dX0_toQuotient_15 rfl rfl (fun c15 => ?_) (fun c15 => ?_)
    · have h1 : low + 1 ≤ pd f := (tI_le (by omega) (by omega)).mp c15
      refine bw_aload_n 24 dX0_toQuotient_23 rfl rfl ?_
      refine bw_aload_n 25 dX0_toQuotient_24 rfl rfl ?_
      refine bw_aload_n 26 dX0_toQuotient_25 rfl rfl ?_
      refine bw_cVv 29 dX0_toQuotient_26 rfl vX0_21 (c0_divideInPlace g hG hC hN hNB hf.2 hh.2 (by omega) hpf h1) (hC.at 0 rfl) rfl rfl (Nat.le_of_ble_eq_true rfl) ⟨(Nat.le_of_ble_eq_true rfl), (Nat.le_of_ble_eq_true rfl)⟩ (Nat.le_of_ble_eq_true rfl) (Nat.le_of_ble_eq_true rfl) (fun A hP => ?_)
      have hX := hP
      have hC := hC.upd 4 rfl hP
      refine bw_aload_n 30 dX0_toQuotient_29 rfl rfl ?_
      refine bw_aload_n 31 dX0_toQuotient_30 rfl rfl ?_
      refine bw_get 34 dX0_toQuotient_31 rfl lX0_15 (hC.at 5 rfl) rfl ?_
      refine bw_eqi (tI_s low) ?_
      refine bw_cVv 37 dX0_toQuotient_34 rfl vX0_36 (c7_shiftDown g (hC.sub [3, 4] (by decide) rfl) (by omega) hpf (fun i hi => by rw [gdl_up _ (by omega)]; exact hf.z hN i hi) (fun i => Nat.lt_of_lt_of_le (gdl_lt hG.2.2.1 _ hf.2 i) (Nat.le_trans hG.p16 (by decide))) (by omega)) (hC.at 3 rfl) rfl rfl (Nat.le_of_ble_eq_true rfl) ⟨(Nat.le_of_ble_eq_true rfl), (Nat.le_of_ble_eq_true rfl)⟩ (Nat.le_of_ble_eq_true rfl) (Nat.le_of_ble_eq_true rfl) (fun A hP => ?_)
      rw [gtp_pd (m := pd f - low) (fun i hi => by rw [gdl_up _ (by omega)]; exact hf.z hN _ (by omega)) (by omega)] at hP
      refine bw_vret dX0_toQuotient_37 rfl (Nat.le_of_ble_eq_true rfl) (Nat.le_of_ble_eq_true rfl) ?_
      exact ⟨rfl, by rw [hP, hX, bw_po_up]; show _ = bw_po _ _ _ _ _ _ _; unfold gqu; rw [hlow]; rfl⟩
    · have h1 : pd f < pd h := by
        refine Nat.not_le.mp (fun h1 => c15 ((tI_le (by omega) (by omega)).mpr ?_))
        omega
      refine bw_aload_n 19 dX0_toQuotient_18 rfl rfl ?_
      refine bw_cVv 22 dX0_toQuotient_19 rfl vX0_33 (c7_clearP g (hC.sub [3, 4] (by decide) rfl) hN (hf.pwk hN)) (hC.at 3 rfl) rfl rfl (Nat.le_of_ble_eq_true rfl) ⟨(Nat.le_of_ble_eq_true rfl), (Nat.le_of_ble_eq_true rfl)⟩ (Nat.le_of_ble_eq_true rfl) (Nat.le_of_ble_eq_true rfl) (fun A hP => ?_)
      refine bw_vret dX0_toQuotient_22 rfl (Nat.le_of_ble_eq_true rfl) (Nat.le_of_ble_eq_true rfl) ?_
      exact ⟨rfl, by rw [gqu_lt hf hN h1]; exact hP⟩
/-- by the highest coefficient -/
def gmon (n q : Nat) (f : Nat → Nat) : Nat → Nat := gsc n q f (ginv n q (f (pd f - 1))) (pd f)
/-- Euclid's rests, r of them at most -/
def geu (n q : Nat) : Nat → (Nat → Nat) → (Nat → Nat) → Nat → Nat
  | 0, f, _ => f
  | r + 1, f, h => if pd h = 0 then f else geu n q r h (grs n q f h)
def ggcd (n q : Nat) (f h : Nat → Nat) : Nat → Nat := gmon n q (geu n q 258 f h)
theorem gmon_ok {n q N : Nat} (hG : GFp n q) {f : Nat → Nat} (hf : pok n N f) : pok n N (gmon n q f) :=
  ⟨fun i hi => by
    unfold gmon gsc
    split
    · rw [hf.1 i hi, gm_0]
    · exact hf.1 i hi, gsc_lt hG hf.2 _ _⟩
theorem gmon_pd {n p gg N : Nat} (hG : GFg n p gg) {f : Nat → Nat} (hf : pok n N f) (hN : N ≤ 200) : pd (gmon n (2 ^ n ||| p) f) = pd f := by
  have h1 := hf.le hN
  refine pd_eq ?_ ?_ (by omega)
  · intro i hi
    unfold gmon gsc
    rw [if_neg (by omega), hf.z hN i hi]
  · intro h0
    unfold gmon gsc
    rw [if_pos (by omega)]
    exact hG.2.2.1.ne0 (hf.2 _) (ginv_lt hG _) (pd_top h0) (ginv_ne0 hG (hf.2 _) (pd_top h0))
theorem geu_ok {n q N : Nat} (hG : GFp n q) (hN : N ≤ 200) : ∀ (r : Nat) {f h : Nat → Nat}, pok n N f → pok n N h → pok n N (geu n q r f h)
  | 0, _, _, hf, _ => hf
  | r + 1, f, h, hf, hh => by
    unfold geu
    split
    · exact hf
    · exact geu_ok hG hN r hh ((grs_ok hG hf).mono (by have := hh.le hN; omega))
theorem ggcd_ok {n q N : Nat} (hG : GFp n q) (hN : N ≤ 200) {f h : Nat → Nat} (hf : pok n N f) (hh : pok n N h) : pok n N (ggcd n q f h) := gmon_ok hG (geu_ok hG hN _ hf hh)
/-- a becomes f, b has something -/
def bw_pg (g : bw_G) (a b N : Nat) (f : Nat → Nat) (va vb : Value) (A0 : bw_H) (A' : bw_H) : Prop := bw_sm [a, a + 1, b, b + 1] A0 A' ∧ ∃ fb mb, pwk N fb mb ∧ bw_has A' (ppl g a N f va ++ pcl g b N fb mb vb)
set_option maxHeartbeats 4000000 in
set_option maxRecDepth 100000 in
theorem c0_gcd_fin (g : bw_G) {A0 A : bw_H} {D F a b n p gg N mb : Nat} {f fb : Nat → Nat} {va vb : Value} (hG : GFg n p gg) (hC : bw_has A (dvl g n p gg D F ++ (ppl g a N f va ++ pcl g b N fb mb vb))) (hN : N ≤ 200) (hf : pok n N f) (hw : pwk N fb mb) (hS : bw_sm [a, a + 1, b, b + 1] A0 A) :
    bw_W g (bw_rm 3 0 0) mX0_toGreatestDivisor (bw_pv (bw_pg g a b N (gmon n (2 ^ n ||| p) f) va vb A0)) 0 0 57 [(0, .ref D), (1, .ref a)] [] A := by
  have hpf := hf.le hN
  have hgp := gmon_pd hG hf hN
  have hfin : ∀ {A' : bw_H}, bw_has A' (pcl g a N (gmon n (2 ^ n ||| p) f) (pd f) va ++ pcl g b N fb mb vb) → bw_has A' (ppl g a N (gmon n (2 ^ n ||| p) f) va ++ pcl g b N fb mb vb) := by
    intro A' h
    unfold ppl
    rw [hgp]
    exact h
  have hfin0 : pd f = 0 → ∀ {A' : bw_H}, bw_has A' (ppl g a N f va ++ pcl g b N fb mb vb) → bw_has A' (ppl g a N (gmon n (2 ^ n ||| p) f) va ++ pcl g b N fb mb vb) := by
    intro h0 A' h
    have : gmon n (2 ^ n ||| p) f = f := by
      unfold gmon
      rw [h0, gsc_0]
    rw [this]
    exact h
  refine bw_aload_n 58 dX0_toGreatestDivisor_57 rfl rfl ?_
  refine bw_get 61 dX0_toGreatestDivisor_58 rfl lX0_15 (hC.at 3 rfl) rfl ?_
  refine bw_if_lt 97 64 dX0_toGreatestDivisor_61 rfl rfl (fun c61 => ?_) (fun c61 => ?_)
  · have h0 : pd f = 0 := (tI_lt0 (by omega)).mp c61
    refine bw_vret dX0_toGreatestDivisor_97 rfl (Nat.le_of_ble_eq_true rfl) (Nat.le_of_ble_eq_true rfl) ?_
    refine ⟨rfl, hS, fb, mb, hw, ?_⟩
    first
      | exact hfin (hC.sub [3, 4, 5, 6] (by decide) rfl)
      | exact hfin0 h0 (hC.sub [3, 4, 5, 6] (by decide) rfl)
  · have h0 : pd f ≠ 0 := fun h0 => c61 ((tI_lt0 (by omega)).mpr h0)
    refine bw_aload_n 65 dX0_toGreatestDivisor_64 rfl rfl ?_
    refine bw_get 68 dX0_toGreatestDivisor_65 rfl lX0_9 (hC.at 0 rfl) rfl ?_
    refine bw_aload_n 69 dX0_toGreatestDivisor_68 rfl rfl ?_
    refine bw_get 72 dX0_toGreatestDivisor_69 rfl lX0_25 (hC.at 3 rfl) rfl ?_
    refine bw_aload_n 73 dX0_toGreatestDivisor_72 rfl rfl ?_
    refine bw_get 76 dX0_toGreatestDivisor_73 rfl lX0_15 (hC.at 3 rfl) rfl ?_
    refine bw_iconst (1) 77 dX0_toGreatestDivisor_76 (by decide) rfl ?_
    refine bw_iadd 78 dX0_toGreatestDivisor_77 rfl ?_
    refine bw_eqi (tI_add (pd f)) ?_
    refine bw_aload_n 79 dX0_toGreatestDivisor_78 rfl rfl ?_
    refine bw_get 82 dX0_toGreatestDivisor_79 rfl lX0_9 (hC.at 0 rfl) rfl ?_
    refine bw_aload_n 83 dX0_toGreatestDivisor_82 rfl rfl ?_
    refine bw_get 86 dX0_toGreatestDivisor_83 rfl lX0_25 (hC.at 3 rfl) rfl ?_
    refine bw_aload_n 87 dX0_toGreatestDivisor_86 rfl rfl ?_
    refine bw_get 90 dX0_toGreatestDivisor_87 rfl lX0_15 (hC.at 3 rfl) rfl ?_
    refine bw_eqi (tI_p h0) ?_
    refine bw_ialdN 91 dX0_toGreatestDivisor_90 rfl (hC.at 4 rfl) (by omega) (by omega) ?_
    refine bw_cVi 94 dX0_toGreatestDivisor_91 rfl vX0_39 (c3_inverse g hG (hC.sub [1, 2] (by decide) rfl) (hf.2 _)) (hC.at 1 rfl) rfl rfl (Nat.le_of_ble_eq_true rfl) ⟨(Nat.le_of_ble_eq_true rfl), (Nat.le_of_ble_eq_true rfl)⟩ (Nat.le_of_ble_eq_true rfl) (Nat.le_of_ble_eq_true rfl) ?_
    refine bw_cVv 97 dX0_toGreatestDivisor_94 rfl vX0_60 (c3_scale g hG (hC.sub [1, 2, 4] (by decide) rfl) hf.2 hpf (by omega) (ginv_lt hG _)) (hC.at 1 rfl) rfl rfl (Nat.le_of_ble_eq_true rfl) ⟨(Nat.le_of_ble_eq_true rfl), (Nat.le_of_ble_eq_true rfl)⟩ (Nat.le_of_ble_eq_true rfl) (Nat.le_of_ble_eq_true rfl) (fun A hP => ?_)
    have hC := hC.upd 4 rfl hP
    have hS := hS.upd hP (by simp)
    refine bw_vret dX0_toGreatestDivisor_97 rfl (Nat.le_of_ble_eq_true rfl) (Nat.le_of_ble_eq_true rfl) ?_
    refine ⟨rfl, hS, fb, mb, hw, ?_⟩
    first
      | exact hfin (hC.sub [3, 4, 5, 6] (by decide) rfl)
      | exact hfin0 h0 (hC.sub [3, 4, 5, 6] (by decide) rfl)
theorem bw_has.ne {A : bw_H} {ws : List (Nat × va_E)} (h : bw_has A ws) (i j : Nat) {a b : Nat} {e e' : va_E} (hi : ws[i]? = some (a, e)) (hj : ws[j]? = some (b, e')) (hij : i ≠ j) : a ≠ b := fun he => hij (bw_nodup_at h.2 hi hj he)
set_option maxHeartbeats 4000000 in
set_option maxRecDepth 100000 in
theorem c0_gcd_loop (g : bw_G) {A0 : bw_H} {D F a b n p gg N : Nat} {va vb : Value} (hG : GFg n p gg) (hN : N ≤ 200) :
    ∀ (r k : Nat), k + r = 258 → ∀ (f h : Nat → Nat) (A : bw_H), pok n N f → pok n N h → bw_sm [a, a + 1, b, b + 1] A0 A →
      (bw_has A (dvl g n p gg D F ++ (ppl g a N f va ++ ppl g b N h vb)) → bw_W g (bw_rm 3 0 0) mX0_toGreatestDivisor (bw_pv (bw_pg g a b N (gmon n (2 ^ n ||| p) (geu n (2 ^ n ||| p) r f h)) va vb A0)) 0 0 8 [(0, .ref D), (1, .ref a), (3, .ref a), (4, .ref b), (5, .int (nI k))] [] A) ∧
      (bw_has A (dvl g n p gg D F ++ (ppl g b N f vb ++ ppl g a N h va)) → bw_W g (bw_rm 3 0 0) mX0_toGreatestDivisor (bw_pv (bw_pg g a b N (gmon n (2 ^ n ||| p) (geu n (2 ^ n ||| p) r f h)) va vb A0)) 0 0 8 [(0, .ref D), (1, .ref a), (3, .ref b), (4, .ref a), (5, .int (nI k))] [] A) := by
  intro r
  induction r with
  | zero =>
    intro k hk f h A hf hh hS
    have he : geu n (2 ^ n ||| p) 0 f h = f := rfl
    refine ⟨fun hC => ?_, fun hC => ?_⟩
    · skip
      refine bw_iload 10 dX0_toGreatestDivisor_8 rfl rfl ?_
      refine bw_sipush (258) 13 dX0_toGreatestDivisor_10 (by decide) rfl ?_
      refine bw_eqi (y := nI 258) rfl ?_
      refine bw_icmp_ge 47 16 dX0_toGreatestDivisor_13 rfl rfl (fun c13 => ?_) (fun c13 => ?_)
      · refine bw_aload_n 48 dX0_toGreatestDivisor_47 rfl rfl ?_
        refine bw_aload_n 49 dX0_toGreatestDivisor_48 rfl rfl ?_
        refine bw_acmp_eq 57 52 dX0_toGreatestDivisor_49 rfl rfl (fun c49 => ?_) (fun c49 => ?_)
        · rw [he]
          exact bw_loc [(0, .ref D), (1, .ref a)] ⟨rfl, rfl, trivial⟩ (c0_gcd_fin g hG hC hN hf (hh.pwk hN) hS)
        · exact absurd rfl c49
      · exact absurd (nI_le (by omega) (by omega)) c13
    · skip
      refine bw_iload 10 dX0_toGreatestDivisor_8 rfl rfl ?_
      refine bw_sipush (258) 13 dX0_toGreatestDivisor_10 (by decide) rfl ?_
      refine bw_eqi (y := nI 258) rfl ?_
      refine bw_icmp_ge 47 16 dX0_toGreatestDivisor_13 rfl rfl (fun c13 => ?_) (fun c13 => ?_)
      · refine bw_aload_n 48 dX0_toGreatestDivisor_47 rfl rfl ?_
        refine bw_aload_n 49 dX0_toGreatestDivisor_48 rfl rfl ?_
        refine bw_acmp_eq 57 52 dX0_toGreatestDivisor_49 rfl rfl (fun c49 => ?_) (fun c49 => ?_)
        · exact absurd c49 (hC.ne 3 5 rfl rfl (by decide))
        · skip
          refine bw_aload_n 53 dX0_toGreatestDivisor_52 rfl rfl ?_
          refine bw_aload_n 54 dX0_toGreatestDivisor_53 rfl rfl ?_
          refine bw_cVv 57 dX0_toGreatestDivisor_54 rfl vX0_56 (c7_copyP g hG.p16 (hC.sub [5, 6, 3, 4] (by decide) rfl) hN hN (hh.pwk hN) hf (hf.le hN)) (hC.at 5 rfl) rfl rfl (Nat.le_of_ble_eq_true rfl) ⟨(Nat.le_of_ble_eq_true rfl), (Nat.le_of_ble_eq_true rfl)⟩ (Nat.le_of_ble_eq_true rfl) (Nat.le_of_ble_eq_true rfl) (fun A hP => ?_)
          have hC := hC.po 5 6 rfl rfl hP
          have hS := hS.po hP (by simp) (by simp)
          rw [he]
          exact bw_loc [(0, .ref D), (1, .ref a)] ⟨rfl, rfl, trivial⟩ (c0_gcd_fin g hG (hC.sub [0, 1, 2, 5, 6, 3, 4] (by decide) rfl) hN hf (hf.pwk hN) hS)
      · exact absurd (nI_le (by omega) (by omega)) c13
  | succ r ih =>
    intro k hk f h A hf hh hS
    have hhl := hh.le hN
    refine ⟨fun hC => ?_, fun hC => ?_⟩
    · skip
      refine bw_iload 10 dX0_toGreatestDivisor_8 rfl rfl ?_
      refine bw_sipush (258) 13 dX0_toGreatestDivisor_10 (by decide) rfl ?_
      refine bw_eqi (y := nI 258) rfl ?_
      refine bw_icmp_ge 47 16 dX0_toGreatestDivisor_13 rfl rfl (fun c13 => ?_) (fun c13 => ?_)
      · exact absurd c13 (nI_ge (by omega) (by omega))
      · skip
        refine bw_aload 18 dX0_toGreatestDivisor_16 rfl rfl ?_
        refine bw_get 21 dX0_toGreatestDivisor_18 rfl lX0_15 (hC.at 5 rfl) rfl ?_
        refine bw_if_lt 47 24 dX0_toGreatestDivisor_21 rfl rfl (fun c21 => ?_) (fun c21 => ?_)
        · have he : geu n (2 ^ n ||| p) (r + 1) f h = f := if_pos ((tI_lt0 (by omega)).mp c21)
          refine bw_aload_n 48 dX0_toGreatestDivisor_47 rfl rfl ?_
          refine bw_aload_n 49 dX0_toGreatestDivisor_48 rfl rfl ?_
          refine bw_acmp_eq 57 52 dX0_toGreatestDivisor_49 rfl rfl (fun c49 => ?_) (fun c49 => ?_)
          · rw [he]
            exact bw_loc [(0, .ref D), (1, .ref a)] ⟨rfl, rfl, trivial⟩ (c0_gcd_fin g hG hC hN hf (hh.pwk hN) hS)
          · exact absurd rfl c49
        · have h0 : pd h ≠ 0 := fun h0 => c21 ((tI_lt0 (by omega)).mpr h0)
          have he : geu n (2 ^ n ||| p) (r + 1) f h = geu n (2 ^ n ||| p) r h (grs n (2 ^ n ||| p) f h) := if_neg h0
          refine bw_aload_n 25 dX0_toGreatestDivisor_24 rfl rfl ?_
          refine bw_aload_n 26 dX0_toGreatestDivisor_25 rfl rfl ?_
          refine bw_aload 28 dX0_toGreatestDivisor_26 rfl rfl ?_
          refine bw_cVv 31 dX0_toGreatestDivisor_28 rfl vX0_53 (c0_toRest g hG hC hN hN hf hh h0) (hC.at 0 rfl) rfl rfl (Nat.le_of_ble_eq_true rfl) ⟨(Nat.le_of_ble_eq_true rfl), (Nat.le_of_ble_eq_true rfl)⟩ (Nat.le_of_ble_eq_true rfl) (Nat.le_of_ble_eq_true rfl) (fun A hP => ?_)
          have hC := hC.po 3 4 rfl rfl hP
          have hS := hS.po hP (by simp) (by simp)
          refine bw_aload_n 32 dX0_toGreatestDivisor_31 rfl rfl ?_
          refine bw_astore 34 dX0_toGreatestDivisor_32 rfl (by decide) ?_
          refine bw_aload 36 dX0_toGreatestDivisor_34 rfl rfl ?_
          refine bw_astore_n 37 dX0_toGreatestDivisor_36 rfl (by decide) ?_
          refine bw_aload 39 dX0_toGreatestDivisor_37 rfl rfl ?_
          refine bw_astore 41 dX0_toGreatestDivisor_39 rfl (by decide) ?_
          refine bw_iincN (1) 44 dX0_toGreatestDivisor_41 rfl rfl (by decide) (by decide) ?_
          refine bw_goto 8 dX0_toGreatestDivisor_44 rfl ?_
          rw [he]
          refine bw_loc [(0, .ref D), (1, .ref a), (3, .ref b), (4, .ref a), (5, .int (nI (k + 1)))] ⟨rfl, rfl, rfl, rfl, congrArg (fun x => some (Value.int x)) (nI_1 k), trivial⟩ ?_
          exact (ih (k + 1) (by omega) h _ _ hh ((grs_ok hG.2.2.1 hf).mono (by omega)) hS).2 (hC.sub [0, 1, 2, 5, 6, 3, 4] (by decide) rfl)
    · skip
      refine bw_iload 10 dX0_toGreatestDivisor_8 rfl rfl ?_
      refine bw_sipush (258) 13 dX0_toGreatestDivisor_10 (by decide) rfl ?_
      refine bw_eqi (y := nI 258) rfl ?_
      refine bw_icmp_ge 47 16 dX0_toGreatestDivisor_13 rfl rfl (fun c13 => ?_) (fun c13 => ?_)
      · exact absurd c13 (nI_ge (by omega) (by omega))
      · skip
        refine bw_aload 18 dX0_toGreatestDivisor_16 rfl rfl ?_
        refine bw_get 21 dX0_toGreatestDivisor_18 rfl lX0_15 (hC.at 5 rfl) rfl ?_
        refine bw_if_lt 47 24 dX0_toGreatestDivisor_21 rfl rfl (fun c21 => ?_) (fun c21 => ?_)
        · have he : geu n (2 ^ n ||| p) (r + 1) f h = f := if_pos ((tI_lt0 (by omega)).mp c21)
          refine bw_aload_n 48 dX0_toGreatestDivisor_47 rfl rfl ?_
          refine bw_aload_n 49 dX0_toGreatestDivisor_48 rfl rfl ?_
          refine bw_acmp_eq 57 52 dX0_toGreatestDivisor_49 rfl rfl (fun c49 => ?_) (fun c49 => ?_)
          · exact absurd c49 (hC.ne 3 5 rfl rfl (by decide))
          · skip
            refine bw_aload_n 53 dX0_toGreatestDivisor_52 rfl rfl ?_
            refine bw_aload_n 54 dX0_toGreatestDivisor_53 rfl rfl ?_
            refine bw_cVv 57 dX0_toGreatestDivisor_54 rfl vX0_56 (c7_copyP g hG.p16 (hC.sub [5, 6, 3, 4] (by decide) rfl) hN hN (hh.pwk hN) hf (hf.le hN)) (hC.at 5 rfl) rfl rfl (Nat.le_of_ble_eq_true rfl) ⟨(Nat.le_of_ble_eq_true rfl), (Nat.le_of_ble_eq_true rfl)⟩ (Nat.le_of_ble_eq_true rfl) (Nat.le_of_ble_eq_true rfl) (fun A hP => ?_)
            have hC := hC.po 5 6 rfl rfl hP
            have hS := hS.po hP (by simp) (by simp)
            rw [he]
            exact bw_loc [(0, .ref D), (1, .ref a)] ⟨rfl, rfl, trivial⟩ (c0_gcd_fin g hG (hC.sub [0, 1, 2, 5, 6, 3, 4] (by decide) rfl) hN hf (hf.pwk hN) hS)
        · have h0 : pd h ≠ 0 := fun h0 => c21 ((tI_lt0 (by omega)).mpr h0)
          have he : geu n (2 ^ n ||| p) (r + 1) f h = geu n (2 ^ n ||| p) r h (grs n (2 ^ n ||| p) f h) := if_neg h0
          refine bw_aload_n 25 dX0_toGreatestDivisor_24 rfl rfl ?_
          refine bw_aload_n 26 dX0_toGreatestDivisor_25 rfl rfl ?_
          refine bw_aload 28 dX0_toGreatestDivisor_26 rfl rfl ?_
          refine bw_cVv 31 dX0_toGreatestDivisor_28 rfl vX0_53 (c0_toRest g hG hC hN hN hf hh h0) (hC.at 0 rfl) rfl rfl (Nat.le_of_ble_eq_true rfl) ⟨(Nat.le_of_ble_eq_true rfl), (Nat.le_of_ble_eq_true rfl)⟩ (Nat.le_of_ble_eq_true rfl) (Nat.le_of_ble_eq_true rfl) (fun A hP => ?_)
          have hC := hC.po 3 4 rfl rfl hP
          have hS := hS.po hP (by simp) (by simp)
          refine bw_aload_n 32 dX0_toGreatestDivisor_31 rfl rfl ?_
          refine bw_astore 34 dX0_toGreatestDivisor_32 rfl (by decide) ?_
          refine bw_aload 36 dX0_toGreatestDivisor_34 rfl rfl ?_
          refine bw_astore_n 37 dX0_toGreatestDivisor_36 rfl (by decide) ?_
          refine bw_aload 39 dX0_toGreatestDivisor_37 rfl rfl ?_
          refine bw_astore 41 dX0_toGreatestDivisor_39 rfl (by decide) ?_
          refine bw_iincN (1) 44 dX0_toGreatestDivisor_41 rfl rfl (by decide) (by decide) ?_
          refine bw_goto 8 dX0_toGreatestDivisor_44 rfl ?_
          rw [he]
          refine bw_loc [(0, .ref D), (1, .ref a), (3, .ref a), (4, .ref b), (5, .int (nI (k + 1)))] ⟨rfl, rfl, rfl, rfl, congrArg (fun x => some (Value.int x)) (nI_1 k), trivial⟩ ?_
          exact (ih (k + 1) (by omega) h _ _ hh ((grs_ok hG.2.2.1 hf).mono (by omega)) hS).1 (hC.sub [0, 1, 2, 5, 6, 3, 4] (by decide) rfl)
set_option maxHeartbeats 4000000 in
set_option maxRecDepth 100000 in
theorem c0_toGreatestDivisor (g : bw_G) {A : bw_H} {D F a b n p gg N : Nat} {f h : Nat → Nat} {va vb : Value} (hG : GFg n p gg) (hC : bw_has A (dvl g n p gg D F ++ (ppl g a N f va ++ ppl g b N h vb))) (hN : N ≤ 200) (hf : pok n N f) (hh : pok n N h) :
    bw_C g (bw_rm 3 0 0) mX0_toGreatestDivisor [.ref D, .ref a, .ref b] A (bw_pv (bw_pg g a b N (ggcd n (2 ^ n ||| p) f h) va vb A)) := by
  refine bw_C.of (by decide) (Nat.le_of_ble_eq_true rfl) rfl ?_
  refine bw_aload_n 1 dX0_toGreatestDivisor_0 rfl rfl ?_
  refine bw_astore_n 2 dX0_toGreatestDivisor_1 rfl (by decide) ?_
  refine bw_aload_n 3 dX0_toGreatestDivisor_2 rfl rfl ?_
  refine bw_astore 5 dX0_toGreatestDivisor_3 rfl (by decide) ?_
  refine bw_iconst (0) 6 dX0_toGreatestDivisor_5 (by decide) rfl ?_
  refine bw_eqi (y := nI 0) rfl ?_
  refine bw_istore 8 dX0_toGreatestDivisor_6 rfl (by decide) ?_
  refine bw_loc [(0, .ref D), (1, .ref a), (3, .ref a), (4, .ref b), (5, .int (nI 0))] ⟨rfl, rfl, rfl, rfl, rfl, trivial⟩ ?_
  exact (c0_gcd_loop g hG hN 258 0 (by omega) f h _ hf hh bw_sm.rf).1 hC
