/-! the class's Field: powers, orders -/
theorem lg_cmp0 {x y : Int64} : lg_cmp x y = 0 ↔ x = y := by
  unfold lg_cmp
  by_cases h1 : x > y
  · rw [if_pos h1]
    refine ⟨fun h => absurd h (by decide), fun h => ?_⟩
    rw [h] at h1
    exact absurd h1 Int64.lt_irrefl
  · rw [if_neg h1]
    by_cases h2 : x = y
    · rw [if_pos h2]; exact ⟨fun _ => h2, fun _ => rfl⟩
    · rw [if_neg h2]; exact ⟨fun h => absurd h (by decide), fun h => absurd h h2⟩
theorem lg_cmpG {x y : Int64} : 0 ≤ lg_cmp x y ↔ y ≤ x := by
  unfold lg_cmp
  by_cases h1 : x > y
  · rw [if_pos h1]
    exact ⟨fun _ => Int64.le_of_lt h1, fun _ => by decide⟩
  · rw [if_neg h1]
    by_cases h2 : x = y
    · rw [if_pos h2]; exact ⟨fun _ => by rw [h2]; exact Int64.le_refl y, fun _ => by decide⟩
    · rw [if_neg h2]
      refine ⟨fun h => absurd h (by decide), fun h => ?_⟩
      rcases Int64.lt_or_eq_of_le h with h | h
      · exact absurd h h1
      · exact absurd h.symm h2
/-- the rest of a long by u, from 0 on -/
def gst (u : Nat) (x : Int64) : Nat := (x.toInt % (u : Int)).toNat
theorem gst_lt {u : Nat} (h : 0 < u) (x : Int64) : gst u x < u := by
  unfold gst
  have h1 := Int.emod_nonneg x.toInt (show (u : Int) ≠ 0 by omega)
  have h2 := Int.emod_lt_of_pos x.toInt (show (0 : Int) < u by omega)
  omega
theorem lrem_toInt (x : Int64) {u : Nat} (h0 : 0 < u) (hu : u < 2 ^ 31) : (x - x / lN u * lN u).toInt = x.toInt.tmod u := by
  have hx1 := Int64.le_toInt x
  have hx2 := Int64.toInt_lt x
  have hu1 : (lN u).toInt = u := pk_lT (by omega)
  have hd : (x / lN u).toInt = x.toInt.tdiv u := by
    rw [Int64.toInt_div_of_ne_right x (lN u) (fun h => ?_), hu1]
    have := congrArg Int64.toInt h
    rw [hu1] at this
    have h1 : (-1 : Int64).toInt = -1 := by decide
    omega
  have e := Int.mul_tdiv_add_tmod x.toInt u
  have hb1 : -(u : Int) < x.toInt.tmod u := by
    have := Int.lt_tmod_of_pos x.toInt (show (0 : Int) < u by omega)
    exact this
  have hb2 : x.toInt.tmod u < u := Int.tmod_lt_of_pos x.toInt (by omega)
  rw [Int64.toInt_sub, Int64.toInt_mul, hd, hu1]
  rw [Int.sub_bmod_bmod, show x.toInt - x.toInt.tdiv ↑u * ↑u = x.toInt.tmod u by rw [Int.mul_comm]; omega]
  rw [Int.bmod_eq_of_le] <;> omega
theorem lrem_gst {x : Int64} {u : Nat} (h0 : 0 < u) (hu : u < 2 ^ 31) : (if 0 ≤ x - x / lN u * lN u then x - x / lN u * lN u else x - x / lN u * lN u + lN u) = lN (gst u x) := by
  have h1 := lrem_toInt x h0 hu
  have hg := gst_lt h0 x
  have hu1 : (lN u).toInt = u := pk_lT (by omega)
  have hb1 : -(u : Int) < x.toInt.tmod u := Int.lt_tmod_of_pos x.toInt (by omega)
  have hb2 : x.toInt.tmod u < u := Int.tmod_lt_of_pos x.toInt (by omega)
  have hz : (0 : Int64).toInt = 0 := by decide
  have hem : x.toInt % (u : Int) = if 0 ≤ x.toInt.tmod u then x.toInt.tmod u else x.toInt.tmod u + u := by
    have e1 := Int.mul_tdiv_add_tmod x.toInt u
    split
    · rename_i h
      have : x.toInt % (u : Int) = (x.toInt.tmod u + u * x.toInt.tdiv u) % u := by rw [Int.add_comm, e1]
      rw [this, Int.add_mul_emod_self_left, Int.emod_eq_of_lt h hb2]
    · rename_i h
      have : x.toInt % (u : Int) = (x.toInt.tmod u + u + u * (x.toInt.tdiv u - 1)) % u := by
        rw [Int.mul_sub]
        congr 1
        omega
      rw [this, Int.add_mul_emod_self_left, Int.emod_eq_of_lt (by omega) (by omega)]
  apply Int64.toInt_inj.mp
  rw [show (lN (gst u x)).toInt = (gst u x : Int) from pk_lT (by omega)]
  have hg2 : (gst u x : Int) = x.toInt % (u : Int) := by
    unfold gst
    have := Int.emod_nonneg x.toInt (show (u : Int) ≠ 0 by omega)
    omega
  rw [hg2, hem]
  by_cases h : 0 ≤ x - x / lN u * lN u
  · have h2 : 0 ≤ x.toInt.tmod u := by
      have := Int64.le_iff_toInt_le.mp h
      rw [hz, h1] at this
      exact this
    rw [if_pos h, if_pos h2, h1]
  · have h2 : ¬ 0 ≤ x.toInt.tmod u := by
      intro h2
      apply h
      rw [Int64.le_iff_toInt_le, hz, h1]
      exact h2
    rw [if_neg h, if_neg h2, Int64.toInt_add, h1, hu1]
    rw [Int.bmod_eq_of_le] <;> omega
/-- a power by a long -/
def gpz (n q a : Nat) (x : Int64) : Nat := if a = 0 then (if x = 0 then 1 else 0) else gpow n q a (gst (2 ^ n - 1) x)
set_option maxHeartbeats 4000000 in
set_option maxRecDepth 100000 in
theorem c3_raised (g : bw_G) {A : bw_H} {F n p gg a : Nat} {x : Int64} (hG : GFg n p gg) (hC : bw_has A (fcl g n p gg F)) (ha : a < 2 ^ n) :
    bw_C g (bw_rm 1 0 0) mX3_raised [.ref F, .int (nI a), .long x] A (bw_pi (nI (gpz n (2 ^ n ||| p) a x)) A) := by
  have h16 := hG.p16
  have h1 := hG.2.2.1.one
  have hu0 : 0 < 2 ^ n - 1 := by omega
  have hu31 : 2 ^ n - 1 < 2 ^ 31 := by omega
  have hgs := gst_lt hu0 x
  have hlog := glog_lt hG a
  have hlu : ¬ lN (2 ^ n - 1) = 0 := by
    intro h
    have := congrArg Int64.toInt h
    rw [pk_lT (by omega), show (0 : Int64).toInt = 0 by decide] at this
    omega
  have hmul : glog n (2 ^ n ||| p) gg a * gst (2 ^ n - 1) x < 2 ^ 32 := by
    have := Nat.mul_le_mul (Nat.le_of_lt hlog) (Nat.le_of_lt hgs)
    have h2 : (2 ^ n - 1) * (2 ^ n - 1) ≤ 65535 * 65535 := Nat.mul_le_mul (by omega) (by omega)
    omega
  have hmod := Nat.mod_lt (glog n (2 ^ n ||| p) gg a * gst (2 ^ n - 1) x) hu0
  have hexp : a ≠ 0 → gpow n (2 ^ n ||| p) gg (glog n (2 ^ n ||| p) gg a * gst (2 ^ n - 1) x % (2 ^ n - 1)) = gpow n (2 ^ n ||| p) a (gst (2 ^ n - 1) x) := by
    intro h0
    have hg2 := hG.2.2.2.1
    rw [gpow_mod hG.2.2.1 hG.2.2.2.2.1 (gpow_units hG.2.2.1 hG.2.2.2.2.1 (by omega)), gpow_mul hG.2.2.1 hG.2.2.2.2.1, glog_pow hG ha h0]
  refine bw_C.of (by decide) (Nat.le_of_ble_eq_true rfl) rfl ?_
  refine bw_iload_n 1 dX3_raised_0 rfl rfl ?_
  refine bw_if_ne 16 4 dX3_raised_1 rfl rfl (fun c1 => ?_) (fun c1 => ?_)
  · have h0 : a ≠ 0 := fun h => c1 ((xn_eq0 (by omega)).mpr h)
    refine bw_lload_n 17 dX3_raised_16 rfl rfl ?_
    refine bw_aload_n 18 dX3_raised_17 rfl rfl ?_
    refine bw_get 21 dX3_raised_18 rfl lX3_16 (hC.at 0 rfl) rfl ?_
    refine bw_i2l 22 dX3_raised_21 rfl ?_
    refine bw_eql (nI_l (by omega)) ?_
    refine bw_lrem 23 dX3_raised_22 (by exact hlu) rfl ?_
    refine bw_lstore 25 dX3_raised_23 rfl (by decide) ?_
    refine bw_lload 27 dX3_raised_25 rfl rfl ?_
    refine bw_lconst 0 28 dX3_raised_27 (by decide) rfl ?_
    refine bw_lcmp 29 dX3_raised_28 rfl ?_
    refine bw_if_ge 43 32 dX3_raised_29 rfl rfl (fun c29 => ?_) (fun c29 => ?_)
    · have hge : 0 ≤ x - x / lN (2 ^ n - 1) * lN (2 ^ n - 1) := lg_cmpG.mp c29
      have hst : x - x / lN (2 ^ n - 1) * lN (2 ^ n - 1) = lN (gst (2 ^ n - 1) x) := by
        have := lrem_gst (x := x) hu0 hu31
        rw [if_pos hge] at this
        exact this
      refine bw_lload 45 dX3_raised_43 rfl rfl ?_
      refine bw_eql (hst) ?_
      refine bw_lstore 47 dX3_raised_45 rfl (by decide) ?_
      refine bw_aload_n 48 dX3_raised_47 rfl rfl ?_
      refine bw_get 51 dX3_raised_48 rfl lX3_33 (hC.at 0 rfl) rfl ?_
      refine bw_aload_n 52 dX3_raised_51 rfl rfl ?_
      refine bw_iload_n 53 dX3_raised_52 rfl rfl ?_
      refine bw_cVi 56 dX3_raised_53 rfl vX3_73 (c3_logOf g hG hC ha) (hC.at 0 rfl) rfl rfl (Nat.le_of_ble_eq_true rfl) ⟨(Nat.le_of_ble_eq_true rfl), (Nat.le_of_ble_eq_true rfl)⟩ (Nat.le_of_ble_eq_true rfl) (Nat.le_of_ble_eq_true rfl) ?_
      refine bw_i2l 57 dX3_raised_56 rfl ?_
      refine bw_eql (nI_l (by omega)) ?_
      refine bw_lload 59 dX3_raised_57 rfl rfl ?_
      refine bw_lmul 60 dX3_raised_59 rfl ?_
      refine bw_eql (lN_mul _ _) ?_
      refine bw_aload_n 61 dX3_raised_60 rfl rfl ?_
      refine bw_get 64 dX3_raised_61 rfl lX3_16 (hC.at 0 rfl) rfl ?_
      refine bw_i2l 65 dX3_raised_64 rfl ?_
      refine bw_eql (nI_l (by omega)) ?_
      refine bw_lrem 66 dX3_raised_65 (by exact hlu) rfl ?_
      refine bw_eql (pk_lRem (by omega) hu0 (by omega)) ?_
      refine bw_l2i 67 dX3_raised_66 rfl ?_
      refine bw_eqi (lN_i _) ?_
      refine bw_iald 68 dX3_raised_67 rfl (hC.at 1 rfl) (by exact vp_in_nI (by omega) (by omega)) ?_
      refine bw_eqi (gtb_at (by omega)) ?_
      refine bw_bipush (16) 70 dX3_raised_68 (by decide) rfl ?_
      refine bw_iushr 71 dX3_raised_70 rfl ?_
      refine bw_eqi ((gtb_exp hG _ (by omega)).trans (congrArg nI ((hexp h0).trans (show gpz n (2 ^ n ||| p) a x = _ from if_neg h0).symm))) ?_
      refine bw_iret dX3_raised_71 rfl (Nat.le_of_ble_eq_true rfl) (Nat.le_of_ble_eq_true rfl) ?_
      exact ⟨rfl, rfl⟩
    · have hge : ¬ 0 ≤ x - x / lN (2 ^ n - 1) * lN (2 ^ n - 1) := fun h => c29 (lg_cmpG.mpr h)
      have hst : x - x / lN (2 ^ n - 1) * lN (2 ^ n - 1) + lN (2 ^ n - 1) = lN (gst (2 ^ n - 1) x) := by
        have := lrem_gst (x := x) hu0 hu31
        rw [if_neg hge] at this
        exact this
      refine bw_lload 34 dX3_raised_32 rfl rfl ?_
      refine bw_aload_n 35 dX3_raised_34 rfl rfl ?_
      refine bw_get 38 dX3_raised_35 rfl lX3_16 (hC.at 0 rfl) rfl ?_
      refine bw_i2l 39 dX3_raised_38 rfl ?_
      refine bw_eql (nI_l (by omega)) ?_
      refine bw_ladd 40 dX3_raised_39 rfl ?_
      refine bw_eql (hst) ?_
      refine bw_goto 45 dX3_raised_40 rfl ?_
      refine bw_lstore 47 dX3_raised_45 rfl (by decide) ?_
      refine bw_aload_n 48 dX3_raised_47 rfl rfl ?_
      refine bw_get 51 dX3_raised_48 rfl lX3_33 (hC.at 0 rfl) rfl ?_
      refine bw_aload_n 52 dX3_raised_51 rfl rfl ?_
      refine bw_iload_n 53 dX3_raised_52 rfl rfl ?_
      refine bw_cVi 56 dX3_raised_53 rfl vX3_73 (c3_logOf g hG hC ha) (hC.at 0 rfl) rfl rfl (Nat.le_of_ble_eq_true rfl) ⟨(Nat.le_of_ble_eq_true rfl), (Nat.le_of_ble_eq_true rfl)⟩ (Nat.le_of_ble_eq_true rfl) (Nat.le_of_ble_eq_true rfl) ?_
      refine bw_i2l 57 dX3_raised_56 rfl ?_
      refine bw_eql (nI_l (by omega)) ?_
      refine bw_lload 59 dX3_raised_57 rfl rfl ?_
      refine bw_lmul 60 dX3_raised_59 rfl ?_
      refine bw_eql (lN_mul _ _) ?_
      refine bw_aload_n 61 dX3_raised_60 rfl rfl ?_
      refine bw_get 64 dX3_raised_61 rfl lX3_16 (hC.at 0 rfl) rfl ?_
      refine bw_i2l 65 dX3_raised_64 rfl ?_
      refine bw_eql (nI_l (by omega)) ?_
      refine bw_lrem 66 dX3_raised_65 (by exact hlu) rfl ?_
      refine bw_eql (pk_lRem (by omega) hu0 (by omega)) ?_
      refine bw_l2i 67 dX3_raised_66 rfl ?_
      refine bw_eqi (lN_i _) ?_
      refine bw_iald 68 dX3_raised_67 rfl (hC.at 1 rfl) (by exact vp_in_nI (by omega) (by omega)) ?_
      refine bw_eqi (gtb_at (by omega)) ?_
      refine bw_bipush (16) 70 dX3_raised_68 (by decide) rfl ?_
      refine bw_iushr 71 dX3_raised_70 rfl ?_
      refine bw_eqi ((gtb_exp hG _ (by omega)).trans (congrArg nI ((hexp h0).trans (show gpz n (2 ^ n ||| p) a x = _ from if_neg h0).symm))) ?_
      refine bw_iret dX3_raised_71 rfl (Nat.le_of_ble_eq_true rfl) (Nat.le_of_ble_eq_true rfl) ?_
      exact ⟨rfl, rfl⟩
  · have h0 : a = 0 := (xn_eq0 (by omega)).mp c1
    refine bw_lload_n 5 dX3_raised_4 rfl rfl ?_
    refine bw_lconst 0 6 dX3_raised_5 (by decide) rfl ?_
    refine bw_lcmp 7 dX3_raised_6 rfl ?_
    refine bw_if_ne 14 10 dX3_raised_7 rfl rfl (fun c7 => ?_) (fun c7 => ?_)
    · have hx : x ≠ 0 := fun h => c7 (lg_cmp0.mpr h)
      have he : gpz n (2 ^ n ||| p) a x = 0 := (if_pos h0).trans (if_neg hx)
      refine bw_iconst (0) 15 dX3_raised_14 (by decide) rfl ?_
      refine bw_eqi (y := nI 0) rfl ?_
      refine bw_iret dX3_raised_15 rfl (Nat.le_of_ble_eq_true rfl) (Nat.le_of_ble_eq_true rfl) ?_
      exact ⟨by rw [he], rfl⟩
    · have hx : x = 0 := lg_cmp0.mp c7
      have he : gpz n (2 ^ n ||| p) a x = 1 := (if_pos h0).trans (if_pos hx)
      refine bw_iconst (1) 11 dX3_raised_10 (by decide) rfl ?_
      refine bw_eqi (y := nI 1) rfl ?_
      refine bw_goto 15 dX3_raised_11 rfl ?_
      refine bw_iret dX3_raised_15 rfl (Nat.le_of_ble_eq_true rfl) (Nat.le_of_ble_eq_true rfl) ?_
      exact ⟨by rw [he], rfl⟩
/-- the order by the log: u, by each prime that is in both -/
def gco (u L : Nat) : Nat → Nat
  | 0 => u
  | j + 1 => if gco u L j % gfac j = 0 ∧ L % gfac j = 0 then gco u L j / gfac j else gco u L j
theorem gco_le (u L : Nat) : ∀ j, gco u L j ≤ u
  | 0 => Nat.le_refl u
  | j + 1 => by
    unfold gco
    split
    · exact Nat.le_trans (Nat.div_le_self _ _) (gco_le u L j)
    · exact gco_le u L j
set_option maxHeartbeats 4000000 in
set_option maxRecDepth 100000 in
theorem c3_order_loop (g : bw_G) {A : bw_H} {F n p gg a : Nat} (hG : GFg n p gg) (hC : bw_has A (fcl g n p gg F)) (ha : a < 2 ^ n) :
    ∀ j, j ≤ 4 → bw_W g (bw_rm 1 0 0) mX3_orderOf (bw_pi (nI (gco (2 ^ n - 1) (glog n (2 ^ n ||| p) gg a) 4)) A) 0 0 22 [(0, .ref F), (1, .int (nI a)), (2, .int (nI (gco (2 ^ n - 1) (glog n (2 ^ n ||| p) gg a) j))), (3, .ref g.2.2.2.1), (4, .int (nI 4)), (5, .int (nI j))] [] A := by
  have h16 := hG.p16
  have hlog := glog_lt hG a
  refine nat_up 4 ?_ ?_
  · skip
    refine bw_iload 24 dX3_orderOf_22 rfl rfl ?_
    refine bw_iload 26 dX3_orderOf_24 rfl rfl ?_
    refine bw_icmp_ge 64 29 dX3_orderOf_26 rfl rfl (fun c26 => ?_) (fun c26 => ?_)
    · refine bw_iload_n 65 dX3_orderOf_64 rfl rfl ?_
      refine bw_iret dX3_orderOf_65 rfl (Nat.le_of_ble_eq_true rfl) (Nat.le_of_ble_eq_true rfl) ?_
      exact ⟨rfl, rfl⟩
    · exact absurd (Int32.le_refl _) c26
  · intro j hj ih
    have hgc := gco_le (2 ^ n - 1) (glog n (2 ^ n ||| p) gg a) j
    have hm1 : gco (2 ^ n - 1) (glog n (2 ^ n ||| p) gg a) j % gfac j < 2 ^ 31 := Nat.lt_of_le_of_lt (Nat.mod_le _ _) (by omega)
    have hm2 : glog n (2 ^ n ||| p) gg a % gfac j < 2 ^ 31 := Nat.lt_of_le_of_lt (Nat.mod_le _ _) (by omega)
    refine bw_iload 24 dX3_orderOf_22 rfl rfl ?_
    refine bw_iload 26 dX3_orderOf_24 rfl rfl ?_
    refine bw_icmp_ge 64 29 dX3_orderOf_26 rfl rfl (fun c26 => ?_) (fun c26 => ?_)
    · exact absurd c26 (nI_ge (by omega) (by omega))
    · skip
      refine bw_aload_n 30 dX3_orderOf_29 rfl rfl ?_
      refine bw_iload 32 dX3_orderOf_30 rfl rfl ?_
      refine bw_primeAt 33 dX3_orderOf_32 rfl (by exact vp_in_nI (by omega) (by omega)) ?_
      refine bw_eqi (pr_fac j (by omega)) ?_
      refine bw_istore 35 dX3_orderOf_33 rfl (by decide) ?_
      refine bw_iload_n 36 dX3_orderOf_35 rfl rfl ?_
      refine bw_iload 38 dX3_orderOf_36 rfl rfl ?_
      refine bw_irem 39 dX3_orderOf_38 (by exact fun h => absurd ((xn_eq0 (Nat.lt_of_le_of_lt (gfac_le j) (by omega))).mp h) (Nat.ne_of_gt (gfac_pos j))) rfl ?_
      refine bw_eqi (pk_rem (by omega) (gfac_pos j) (Nat.lt_of_le_of_lt (gfac_le j) (by omega))) ?_
      refine bw_if_ne 58 42 dX3_orderOf_39 rfl rfl (fun c39 => ?_) (fun c39 => ?_)
      · have he : gco (2 ^ n - 1) (glog n (2 ^ n ||| p) gg a) (j + 1) = gco (2 ^ n - 1) (glog n (2 ^ n ||| p) gg a) j := if_neg (fun h => c39 ((xn_eq0 hm1).mpr h.1))
        refine bw_iincN (1) 61 dX3_orderOf_58 rfl rfl (by decide) (by decide) ?_
        refine bw_goto 22 dX3_orderOf_61 rfl ?_
        refine bw_loc _ ?_ ih
        exact ⟨rfl, rfl, congrArg (fun x => some (Value.int (nI x))) he.symm, rfl, rfl, congrArg (fun x => some (Value.int x)) (nI_1 j), trivial⟩
      · skip
        refine bw_aload_n 43 dX3_orderOf_42 rfl rfl ?_
        refine bw_iload_n 44 dX3_orderOf_43 rfl rfl ?_
        refine bw_cVi 47 dX3_orderOf_44 rfl vX3_73 (c3_logOf g hG hC ha) (hC.at 0 rfl) rfl rfl (Nat.le_of_ble_eq_true rfl) ⟨(Nat.le_of_ble_eq_true rfl), (Nat.le_of_ble_eq_true rfl)⟩ (Nat.le_of_ble_eq_true rfl) (Nat.le_of_ble_eq_true rfl) ?_
        refine bw_iload 49 dX3_orderOf_47 rfl rfl ?_
        refine bw_irem 50 dX3_orderOf_49 (by exact fun h => absurd ((xn_eq0 (Nat.lt_of_le_of_lt (gfac_le j) (by omega))).mp h) (Nat.ne_of_gt (gfac_pos j))) rfl ?_
        refine bw_eqi (pk_rem (by omega) (gfac_pos j) (Nat.lt_of_le_of_lt (gfac_le j) (by omega))) ?_
        refine bw_if_ne 58 53 dX3_orderOf_50 rfl rfl (fun c50 => ?_) (fun c50 => ?_)
        · have he : gco (2 ^ n - 1) (glog n (2 ^ n ||| p) gg a) (j + 1) = gco (2 ^ n - 1) (glog n (2 ^ n ||| p) gg a) j := if_neg (fun h => c50 ((xn_eq0 hm2).mpr h.2))
          refine bw_iincN (1) 61 dX3_orderOf_58 rfl rfl (by decide) (by decide) ?_
          refine bw_goto 22 dX3_orderOf_61 rfl ?_
          refine bw_loc _ ?_ ih
          exact ⟨rfl, rfl, congrArg (fun x => some (Value.int (nI x))) he.symm, rfl, rfl, congrArg (fun x => some (Value.int x)) (nI_1 j), trivial⟩
        · have he : gco (2 ^ n - 1) (glog n (2 ^ n ||| p) gg a) (j + 1) = gco (2 ^ n - 1) (glog n (2 ^ n ||| p) gg a) j / gfac j := if_pos ⟨(xn_eq0 hm1).mp c39, (xn_eq0 hm2).mp c50⟩
          refine bw_iload_n 54 dX3_orderOf_53 rfl rfl ?_
          refine bw_iload 56 dX3_orderOf_54 rfl rfl ?_
          refine bw_idiv 57 dX3_orderOf_56 (by exact fun h => absurd ((xn_eq0 (Nat.lt_of_le_of_lt (gfac_le j) (by omega))).mp h) (Nat.ne_of_gt (gfac_pos j))) rfl ?_
          refine bw_eqi (pk_div (by omega) (gfac_pos j) (Nat.lt_of_le_of_lt (gfac_le j) (by omega))) ?_
          refine bw_istore_n 58 dX3_orderOf_57 rfl (by decide) ?_
          refine bw_iincN (1) 61 dX3_orderOf_58 rfl rfl (by decide) (by decide) ?_
          refine bw_goto 22 dX3_orderOf_61 rfl ?_
          refine bw_loc _ ?_ ih
          exact ⟨rfl, rfl, congrArg (fun x => some (Value.int (nI x))) he.symm, rfl, rfl, congrArg (fun x => some (Value.int x)) (nI_1 j), trivial⟩
set_option maxHeartbeats 4000000 in
set_option maxRecDepth 100000 in
theorem c3_orderOf (g : bw_G) {A : bw_H} {F n p gg a : Nat} (hG : GFg n p gg) (hC : bw_has A (fcl g n p gg F)) (ha : a < 2 ^ n) :
    bw_C g (bw_rm 1 0 0) mX3_orderOf [.ref F, .int (nI a)] A (bw_pi (nI (if a = 0 then 0 else gco (2 ^ n - 1) (glog n (2 ^ n ||| p) gg a) 4)) A) := by
  have h16 := hG.p16
  refine bw_C.of (by decide) (Nat.le_of_ble_eq_true rfl) rfl ?_
  refine bw_iload_n 1 dX3_orderOf_0 rfl rfl ?_
  refine bw_if_ne 6 4 dX3_orderOf_1 rfl rfl (fun c1 => ?_) (fun c1 => ?_)
  · have h0 : a ≠ 0 := fun h => c1 ((xn_eq0 (by omega)).mpr h)
    refine bw_aload_n 7 dX3_orderOf_6 rfl rfl ?_
    refine bw_get 10 dX3_orderOf_7 rfl lX3_16 (hC.at 0 rfl) rfl ?_
    refine bw_istore_n 11 dX3_orderOf_10 rfl (by decide) ?_
    refine bw_primes 14 dX3_orderOf_11 rfl gX3_60 ?_
    refine bw_astore_n 15 dX3_orderOf_14 rfl (by decide) ?_
    refine bw_aload_n 16 dX3_orderOf_15 rfl rfl ?_
    refine bw_primeLen 17 dX3_orderOf_16 rfl ?_
    refine bw_istore 19 dX3_orderOf_17 rfl (by decide) ?_
    refine bw_iconst (0) 20 dX3_orderOf_19 (by decide) rfl ?_
    refine bw_eqi (y := nI 0) rfl ?_
    refine bw_istore 22 dX3_orderOf_20 rfl (by decide) ?_
    rw [if_neg h0]
    refine bw_loc _ ?_ (c3_order_loop g hG hC ha 0 (by omega))
    exact ⟨rfl, rfl, rfl, rfl, rfl, rfl, trivial⟩
  · have h0 : a = 0 := (xn_eq0 (by omega)).mp c1
    refine bw_iconst (0) 5 dX3_orderOf_4 (by decide) rfl ?_
    refine bw_iret dX3_orderOf_5 rfl (Nat.le_of_ble_eq_true rfl) (Nat.le_of_ble_eq_true rfl) ?_
    exact ⟨by rw [if_pos h0]; rfl, rfl⟩
