/-! constructors of Factors and Roots -/
set_option maxHeartbeats 4000000 in
set_option maxRecDepth 100000 in
theorem c2_init (g : bw_G) {A0 : bw_H} {x F D : Nat} (hC : bw_has A0 [(x, .inr (4, [.null, .null, .null, .null, .null, .null]))]) (hz : A0.1 = x + 1) :
    bw_C g (bw_rm 2 8 528) mX2_init [.ref x, .ref F, .ref D] A0 (bw_pv (bw_pn x 8 ((x, kob F D (x + 1) (x + 3) (x + 5) (x + 7)) :: (pcl g (x + 1) 129 (fun _ => 0) 0 .null ++ (pcl g (x + 3) 129 (fun _ => 0) 0 .null ++ (pcl g (x + 5) 129 (fun _ => 0) 0 .null ++ pcl g (x + 7) 129 (fun _ => 0) 0 .null)))) A0)) := by
  have hW : bw_gw x A0 A0 := bw_gw.rf
  refine bw_C.of (by decide) (Nat.le_of_ble_eq_true rfl) rfl ?_
  refine bw_aload_n 1 dX2_init_0 rfl rfl ?_
  refine bw_objInit 4 dX2_init_1 rfl oX2_3 bw_oI bw_oC (Nat.le_of_ble_eq_true rfl) (Nat.le_of_ble_eq_true rfl) ?_
  refine bw_aload_n 5 dX2_init_4 rfl rfl ?_
  refine bw_ok (fun hok => ?_)
  refine bw_newU 8 dX2_init_5 rfl nX2_9 (Nat.le_of_ble_eq_true rfl) (Nat.le_of_ble_eq_true rfl) hz (fun A hU => ?_)
  have hC := hC.nwda hok hz hU
  have hW := hW.nwd hU hz (by omega)
  have hz := (congrArg Prod.fst hU).trans (congrArg (· + 1) hz)
  clear hU hok
  refine bw_dup 9 dX2_init_8 rfl rfl ?_
  refine bw_sipush (129) 12 dX2_init_9 (by decide) rfl ?_
  refine bw_eqi (y := nI 129) rfl ?_
  refine bw_ok (fun hok => ?_)
  refine bw_cIv 15 dX2_init_12 rfl iX2_11 (c7_init g (hC.sub [1] (by decide) rfl) hz (by omega)) rfl rfl (Nat.le_of_ble_eq_true rfl) ⟨(Nat.le_of_ble_eq_true rfl), (Nat.le_of_ble_eq_true rfl)⟩ (Nat.le_of_ble_eq_true rfl) (Nat.le_of_ble_eq_true rfl) (fun A hP => ?_)
  obtain ⟨h1, h2, h3⟩ := hP
  have hC := hC.gr hok hz rfl h2 h3 (by simp)
  have hW := hW.trans h2 (by omega)
  have hz := h1
  refine bw_putFU 18 dX2_init_15 rfl pX2_14 rfl (hC.at 0 rfl) rfl rfl (Nat.le_of_ble_eq_true rfl) (fun A hU => ?_)
  have hC := hC.upd 0 rfl hU
  have hz := (congrArg Prod.fst hU).trans hz
  have hW := hW.upd hU (by omega)
  clear hU
  refine bw_aload_n 19 dX2_init_18 rfl rfl ?_
  refine bw_ok (fun hok => ?_)
  refine bw_newU 22 dX2_init_19 rfl nX2_9 (Nat.le_of_ble_eq_true rfl) (Nat.le_of_ble_eq_true rfl) hz (fun A hU => ?_)
  have hC := hC.nwda hok hz hU
  have hW := hW.nwd hU hz (by omega)
  have hz := (congrArg Prod.fst hU).trans (congrArg (· + 1) hz)
  clear hU hok
  refine bw_dup 23 dX2_init_22 rfl rfl ?_
  refine bw_sipush (129) 26 dX2_init_23 (by decide) rfl ?_
  refine bw_eqi (y := nI 129) rfl ?_
  refine bw_ok (fun hok => ?_)
  refine bw_cIv 29 dX2_init_26 rfl iX2_11 (c7_init g (hC.sub [3] (by decide) rfl) hz (by omega)) rfl rfl (Nat.le_of_ble_eq_true rfl) ⟨(Nat.le_of_ble_eq_true rfl), (Nat.le_of_ble_eq_true rfl)⟩ (Nat.le_of_ble_eq_true rfl) (Nat.le_of_ble_eq_true rfl) (fun A hP => ?_)
  obtain ⟨h1, h2, h3⟩ := hP
  have hC := hC.gr hok hz rfl h2 h3 (by simp)
  have hW := hW.trans h2 (by omega)
  have hz := h1
  refine bw_putFU 32 dX2_init_29 rfl pX2_20 rfl (hC.at 0 rfl) rfl rfl (Nat.le_of_ble_eq_true rfl) (fun A hU => ?_)
  have hC := hC.upd 0 rfl hU
  have hz := (congrArg Prod.fst hU).trans hz
  have hW := hW.upd hU (by omega)
  clear hU
  refine bw_aload_n 33 dX2_init_32 rfl rfl ?_
  refine bw_ok (fun hok => ?_)
  refine bw_newU 36 dX2_init_33 rfl nX2_9 (Nat.le_of_ble_eq_true rfl) (Nat.le_of_ble_eq_true rfl) hz (fun A hU => ?_)
  have hC := hC.nwda hok hz hU
  have hW := hW.nwd hU hz (by omega)
  have hz := (congrArg Prod.fst hU).trans (congrArg (· + 1) hz)
  clear hU hok
  refine bw_dup 37 dX2_init_36 rfl rfl ?_
  refine bw_sipush (129) 40 dX2_init_37 (by decide) rfl ?_
  refine bw_eqi (y := nI 129) rfl ?_
  refine bw_ok (fun hok => ?_)
  refine bw_cIv 43 dX2_init_40 rfl iX2_11 (c7_init g (hC.sub [5] (by decide) rfl) hz (by omega)) rfl rfl (Nat.le_of_ble_eq_true rfl) ⟨(Nat.le_of_ble_eq_true rfl), (Nat.le_of_ble_eq_true rfl)⟩ (Nat.le_of_ble_eq_true rfl) (Nat.le_of_ble_eq_true rfl) (fun A hP => ?_)
  obtain ⟨h1, h2, h3⟩ := hP
  have hC := hC.gr hok hz rfl h2 h3 (by simp)
  have hW := hW.trans h2 (by omega)
  have hz := h1
  refine bw_putFU 46 dX2_init_43 rfl pX2_23 rfl (hC.at 0 rfl) rfl rfl (Nat.le_of_ble_eq_true rfl) (fun A hU => ?_)
  have hC := hC.upd 0 rfl hU
  have hz := (congrArg Prod.fst hU).trans hz
  have hW := hW.upd hU (by omega)
  clear hU
  refine bw_aload_n 47 dX2_init_46 rfl rfl ?_
  refine bw_ok (fun hok => ?_)
  refine bw_newU 50 dX2_init_47 rfl nX2_9 (Nat.le_of_ble_eq_true rfl) (Nat.le_of_ble_eq_true rfl) hz (fun A hU => ?_)
  have hC := hC.nwda hok hz hU
  have hW := hW.nwd hU hz (by omega)
  have hz := (congrArg Prod.fst hU).trans (congrArg (· + 1) hz)
  clear hU hok
  refine bw_dup 51 dX2_init_50 rfl rfl ?_
  refine bw_sipush (129) 54 dX2_init_51 (by decide) rfl ?_
  refine bw_eqi (y := nI 129) rfl ?_
  refine bw_ok (fun hok => ?_)
  refine bw_cIv 57 dX2_init_54 rfl iX2_11 (c7_init g (hC.sub [7] (by decide) rfl) hz (by omega)) rfl rfl (Nat.le_of_ble_eq_true rfl) ⟨(Nat.le_of_ble_eq_true rfl), (Nat.le_of_ble_eq_true rfl)⟩ (Nat.le_of_ble_eq_true rfl) (Nat.le_of_ble_eq_true rfl) (fun A hP => ?_)
  obtain ⟨h1, h2, h3⟩ := hP
  have hC := hC.gr hok hz rfl h2 h3 (by simp)
  have hW := hW.trans h2 (by omega)
  have hz := h1
  refine bw_putFU 60 dX2_init_57 rfl pX2_26 rfl (hC.at 0 rfl) rfl rfl (Nat.le_of_ble_eq_true rfl) (fun A hU => ?_)
  have hC := hC.upd 0 rfl hU
  have hz := (congrArg Prod.fst hU).trans hz
  have hW := hW.upd hU (by omega)
  clear hU
  refine bw_aload_n 61 dX2_init_60 rfl rfl ?_
  refine bw_aload_n 62 dX2_init_61 rfl rfl ?_
  refine bw_putFU 65 dX2_init_62 rfl pX2_29 rfl (hC.at 0 rfl) rfl rfl (Nat.le_of_ble_eq_true rfl) (fun A hU => ?_)
  have hC := hC.upd 0 rfl hU
  have hz := (congrArg Prod.fst hU).trans hz
  have hW := hW.upd hU (by omega)
  clear hU
  refine bw_aload_n 66 dX2_init_65 rfl rfl ?_
  refine bw_aload_n 67 dX2_init_66 rfl rfl ?_
  refine bw_putFU 70 dX2_init_67 rfl pX2_33 rfl (hC.at 0 rfl) rfl rfl (Nat.le_of_ble_eq_true rfl) (fun A hU => ?_)
  have hC := hC.upd 0 rfl hU
  have hz := (congrArg Prod.fst hU).trans hz
  have hW := hW.upd hU (by omega)
  clear hU
  refine bw_vret dX2_init_70 rfl (Nat.le_of_ble_eq_true rfl) (Nat.le_of_ble_eq_true rfl) ?_
  exact ⟨rfl, hz, hW, hC⟩
set_option maxHeartbeats 4000000 in
set_option maxRecDepth 100000 in
theorem c8_vaI_loop (g : bw_G) {A : bw_H} {R F sa n p gg j v NS : Nat} {S : Nat → Nat} {fs : List Value} (hG : GFg n p gg) (hC : bw_has A ((R, .inr (10, fs)) :: (fcl g n p gg F ++ [(sa, bw_an g NS S)]))) (hF0 : fs[0]? = some (.ref F)) (hS0 : fs[2]? = some (.ref sa)) (hS : ∀ i, S i < 2 ^ n) (hv : v < 2 ^ n) (hj : j ≤ NS) (hNS : NS ≤ 16) :
    ∀ k, k ≤ j → bw_W g (bw_rm 1 0 0) mX8_valueAt (bw_pi (nI (gva n (2 ^ n ||| p) S j v)) A) 0 0 5 [(0, .ref R), (1, .int (nI j)), (3, .int (nI (gva n (2 ^ n ||| p) S k v))), (4, .int (nI k))] [] A := by
  refine nat_up j ?_ ?_
  · skip
    refine bw_iload 7 dX8_valueAt_5 rfl rfl ?_
    refine bw_iload_n 8 dX8_valueAt_7 rfl rfl ?_
    refine bw_icmp_ge 35 11 dX8_valueAt_8 rfl rfl (fun c8 => ?_) (fun c8 => ?_)
    · refine bw_iload_n 36 dX8_valueAt_35 rfl rfl ?_
      refine bw_iret dX8_valueAt_36 rfl (Nat.le_of_ble_eq_true rfl) (Nat.le_of_ble_eq_true rfl) ?_
      exact ⟨rfl, rfl⟩
    · exact absurd (Int32.le_refl _) c8
  · intro k hk ih
    refine bw_iload 7 dX8_valueAt_5 rfl rfl ?_
    refine bw_iload_n 8 dX8_valueAt_7 rfl rfl ?_
    refine bw_icmp_ge 35 11 dX8_valueAt_8 rfl rfl (fun c8 => ?_) (fun c8 => ?_)
    · exact absurd c8 (nI_ge (by omega) (by omega))
    · skip
      refine bw_aload_n 12 dX8_valueAt_11 rfl rfl ?_
      refine bw_get 15 dX8_valueAt_12 rfl lX8_26 (hC.at 0 rfl) hF0 ?_
      refine bw_iload_n 16 dX8_valueAt_15 rfl rfl ?_
      refine bw_iload_n 17 dX8_valueAt_16 rfl rfl ?_
      refine bw_aload_n 18 dX8_valueAt_17 rfl rfl ?_
      refine bw_get 21 dX8_valueAt_18 rfl lX8_40 (hC.at 0 rfl) hS0 ?_
      refine bw_iload 23 dX8_valueAt_21 rfl rfl ?_
      refine bw_ialdN 24 dX8_valueAt_23 rfl (hC.at 3 rfl) (by omega) (by omega) ?_
      refine bw_ixor 25 dX8_valueAt_24 rfl ?_
      refine bw_eqi (xn_xor _ _) ?_
      refine bw_cVi 28 dX8_valueAt_25 rfl vX8_52 (c3_mul g hG (hC.sub [1, 2] (by decide) rfl) (gva_lt hG.2.2.1 S hv k) (xor_lt (gva_lt hG.2.2.1 S hv k) (hS k))) (hC.at 1 rfl) rfl rfl (Nat.le_of_ble_eq_true rfl) ⟨(Nat.le_of_ble_eq_true rfl), (Nat.le_of_ble_eq_true rfl)⟩ (Nat.le_of_ble_eq_true rfl) (Nat.le_of_ble_eq_true rfl) ?_
      refine bw_istore_n 29 dX8_valueAt_28 rfl (by decide) ?_
      refine bw_iincN (1) 32 dX8_valueAt_29 rfl rfl (by decide) (by decide) ?_
      refine bw_goto 5 dX8_valueAt_32 rfl ?_
      exact bw_loc [(0, .ref R), (1, .int (nI j)), (3, .int (nI (gva n (2 ^ n ||| p) S (k + 1) v))), (4, .int (nI (k + 1)))] ⟨rfl, rfl, rfl, congrArg (fun x => some (Value.int x)) (nI_1 k), trivial⟩ ih
set_option maxHeartbeats 4000000 in
set_option maxRecDepth 100000 in
theorem c8_vaI (g : bw_G) {A : bw_H} {R F sa n p gg j v NS : Nat} {S : Nat → Nat} {fs : List Value} (hG : GFg n p gg) (hC : bw_has A ((R, .inr (10, fs)) :: (fcl g n p gg F ++ [(sa, bw_an g NS S)]))) (hF0 : fs[0]? = some (.ref F)) (hS0 : fs[2]? = some (.ref sa)) (hS : ∀ i, S i < 2 ^ n) (hv : v < 2 ^ n) (hj : j ≤ NS) (hNS : NS ≤ 16) :
    bw_C g (bw_rm 1 0 0) mX8_valueAt [.ref R, .int (nI j), .int (nI v)] A (bw_pi (nI (gva n (2 ^ n ||| p) S j v)) A) := by
  refine bw_C.of (by decide) (Nat.le_of_ble_eq_true rfl) rfl ?_
  refine bw_iload_n 1 dX8_valueAt_0 rfl rfl ?_
  refine bw_istore_n 2 dX8_valueAt_1 rfl (by decide) ?_
  refine bw_iconst (0) 3 dX8_valueAt_2 (by decide) rfl ?_
  refine bw_eqi (y := nI 0) rfl ?_
  refine bw_istore 5 dX8_valueAt_3 rfl (by decide) ?_
  exact bw_loc [(0, .ref R), (1, .int (nI j)), (3, .int (nI v)), (4, .int (nI 0))] ⟨rfl, rfl, rfl, rfl, trivial⟩ (c8_vaI_loop g hG hC hF0 hS0 hS hv hj hNS 0 (Nat.zero_le j))
/-- the steps of the linearised polynomials, k of them -/
def gsF (n q : Nat) : Nat → Nat → Nat
  | 0 => fun _ => 0
  | k + 1 => fun i => if i = k then gva n q (gsF n q k) k (2 ^ k) else gsF n q k i
theorem gsF_lt {n q : Nat} (hG : GFp n q) : ∀ k, k ≤ n → ∀ i, gsF n q k i < 2 ^ n
  | 0, _ => fun _ => Nat.two_pow_pos n
  | k + 1, hk => by
    intro i
    unfold gsF
    split
    · exact gva_lt hG _ (Nat.pow_lt_pow_right (by omega) (by omega)) k
    · exact gsF_lt hG k (by omega) i
/-- the first k of the rests are made -/
def bw_rqk (g : bw_G) (A : bw_H) (rb k : Nat) : Prop := ∀ i, i < k → bw_has A (pcl g (rb + 2 * i) 65 (fun _ => 0) 0 .null)
theorem bw_rqk.gw {g : bw_G} {A A' : bw_H} {rb k y : Nat} (h : bw_rqk g A rb k) (hW : bw_gw y A A') (hy : rb + 2 * k ≤ y) : bw_rqk g A' rb k := by
  intro i hi
  refine ⟨fun q hq => ?_, (h i hi).2⟩
  rw [hW q.1 ?_]
  · exact (h i hi).1 q hq
  · simp only [pcl, List.mem_cons, List.not_mem_nil, or_false] at hq
    rcases hq with rfl | rfl <;> · simp only; omega
theorem bw_rqk.frm {g : bw_G} {A A' : bw_H} {rb k a : Nat} {e : va_E} (h : bw_rqk g A rb k) (hA : A' = bw_up A a e) (ha : a < rb) : bw_rqk g A' rb k := by
  intro i hi
  refine (h i hi).frm (bw_up_sm hA) (fun q hq hb => ?_)
  simp only [pcl, List.mem_cons, List.not_mem_nil, or_false] at hq hb
  rcases hq with rfl | rfl <;> · simp only at hb; omega
theorem bw_rqk.nwd {g : bw_G} {A A' : bw_H} {rb k a : Nat} {e : va_E} (h : bw_rqk g A rb k) (hA : A' = bw_nw A e) (hz : A.1 = a) (ha : rb + 2 * k ≤ a) : bw_rqk g A' rb k := h.gw (bw_gw.nwd bw_gw.rf hA hz ha) (Nat.le_refl _)
noncomputable abbrev rin (g : bw_G) (n p gg x F D : Nat) (S : Nat → Nat) (v : Value) (us : List (Nat × va_E)) : List (Nat × va_E) := fcl g n p gg F ++ ((x, .inr (10, [.ref F, .ref D, .ref (x + 7), v, .ref (x + 1), .ref (x + 3), .ref (x + 5)])) :: (pcl g (x + 1) 129 (fun _ => 0) 0 .null ++ (pcl g (x + 3) 129 (fun _ => 0) 0 .null ++ (pcl g (x + 5) 129 (fun _ => 0) 0 .null ++ ((x + 7, bw_an g n S) :: us)))))
theorem rq_s (x j : Nat) : (fun i => if i = j then some (x + 9 + 2 * j) else if i < j then some (x + 9 + 2 * i) else none) = fun i => if i < j + 1 then some (x + 9 + 2 * i) else none := by
  funext i
  by_cases h : i = j
  · subst h
    rw [if_pos rfl, if_pos (by omega)]
  · rw [if_neg h]
    exact if_iff (by omega)
set_option maxHeartbeats 4000000 in
set_option maxRecDepth 100000 in
theorem c8_init_rests (g : bw_G) {A0 : bw_H} {x n p gg F D : Nat} {S : Nat → Nat} (hn : n ≤ 16) :
    ∀ (r j cu su : Nat), j + r = n + 1 → cu + 2 * r ≤ 60 → su + 68 * r ≤ 2000 → ∀ A : bw_H, bw_has A (rin g n p gg x F D S (.ref (x + 8)) [(x + 8, bw_aq g 4 (n + 1) (fun i => if i < j then some (x + 9 + 2 * i) else none))]) → bw_rqk g A (x + 9) j → A.1 = x + 9 + 2 * j → bw_gw x A0 A →
      bw_W g (bw_rm 2 60 2000) mX8_init (bw_pv (fun A' => A'.1 = x + 9 + 2 * (n + 1) ∧ bw_gw x A0 A' ∧ bw_has A' (rin g n p gg x F D S (.ref (x + 8)) [(x + 8, bw_aq g 4 (n + 1) (fun i => if i < n + 1 then some (x + 9 + 2 * i) else none))]) ∧ bw_rq g A' (x + 9) n (fun _ _ => 0) (fun _ => 0))) cu su 111 [(0, .ref x), (1, .ref F), (3, .int (nI j))] [] A := by
  intro r
  induction r with
  | zero =>
    intro j cu su hj hcu hsu A hC hK hz hW
    have hj : j = n + 1 := by omega
    subst hj
    refine bw_iload_n 112 dX8_init_111 rfl rfl ?_
    refine bw_aload_n 113 dX8_init_112 rfl rfl ?_
    refine bw_get 116 dX8_init_113 rfl lX8_34 (hC.at 0 rfl) rfl ?_
    refine bw_icmp_gt 140 119 dX8_init_116 rfl rfl (fun c116 => ?_) (fun c116 => ?_)
    · refine bw_vret dX8_init_140 rfl (show cu ≤ 60 by omega) (show su ≤ 2000 by omega) ?_
      exact ⟨rfl, hz, hW, hC, fun j hj => hK j (by omega)⟩
    · exact absurd (nI_lt (show n < n + 1 by omega) (by omega)) c116
  | succ r ih =>
    intro j cu su hj hcu hsu A hC hK hz hW
    refine bw_iload_n 112 dX8_init_111 rfl rfl ?_
    refine bw_aload_n 113 dX8_init_112 rfl rfl ?_
    refine bw_get 116 dX8_init_113 rfl lX8_34 (hC.at 0 rfl) rfl ?_
    refine bw_icmp_gt 140 119 dX8_init_116 rfl rfl (fun c116 => ?_) (fun c116 => ?_)
    · exact absurd ((nI_ltI (by omega) (by omega)).mp c116) (by omega)
    · skip
      refine bw_aload_n 120 dX8_init_119 rfl rfl ?_
      refine bw_get 123 dX8_init_120 rfl lX8_48 (hC.at 2 rfl) rfl ?_
      refine bw_iload_n 124 dX8_init_123 rfl rfl ?_
      refine bw_ok (fun hok => ?_)
      refine bw_newU 127 dX8_init_124 rfl nX8_9 (show cu + 1 ≤ 60 by omega) (show su + 3 ≤ 2000 by omega) hz (fun A hU => ?_)
      have hC := hC.nwda hok hz hU
      have hW := hW.nwd hU hz (by omega)
      have hK := hK.nwd hU hz (by omega)
      have hz := (congrArg Prod.fst hU).trans (congrArg (· + 1) hz)
      clear hU hok
      refine bw_dup 128 dX8_init_127 rfl rfl ?_
      refine bw_bipush (65) 130 dX8_init_128 (by decide) rfl ?_
      refine bw_eqi (y := nI 65) rfl ?_
      refine bw_ok (fun hok => ?_)
      refine bw_cIv 133 dX8_init_130 rfl iX8_11 (c7_init g (hC.sub [11] (by decide) rfl) hz (by omega)) rfl rfl (Nat.le_of_ble_eq_true rfl) ⟨(Nat.le_of_ble_eq_true rfl), (Nat.le_of_ble_eq_true rfl)⟩ (show cu + 1 + 1 ≤ 60 by omega) (show su + 3 + 65 ≤ 2000 by omega) (fun A hP => ?_)
      obtain ⟨h1, h2, h3⟩ := hP
      have hC := hC.gr hok hz rfl h2 h3 (by simp)
      have hK := hK.gw h2 (by omega)
      have hW := hW.trans h2 (by omega)
      have hz := h1
      refine bw_aastN (ci := 9) 134 dX8_init_133 rfl rfl rfl (hC.at 10 rfl) (hC.at 11 rfl) (by omega) (by omega) (G := (fun i => if i < j + 1 then some (x + 9 + 2 * i) else none)) (rq_s x j) (fun A hU => ?_)
      have hK := hK.frm hU (by omega)
      have hC := hC.upd 10 rfl hU
      have hz := (congrArg Prod.fst hU).trans hz
      have hW := hW.upd hU (by omega)
      clear hU
      refine bw_iincN (1) 137 dX8_init_134 rfl rfl (by decide) (by decide) ?_
      refine bw_goto 111 dX8_init_137 rfl ?_
      refine bw_loc _ ?_ (ih (j + 1) _ _ (by omega) (show cu + 1 + 1 + 2 * r ≤ 60 by omega) (show su + 3 + 65 + 68 * r ≤ 2000 by omega) _ (hC.sub [0, 1, 2, 3, 4, 5, 6, 7, 8, 9, 10] (by decide) rfl) (fun i hi => ?_) hz hW)
      · exact ⟨rfl, rfl, congrArg (fun x => some (Value.int x)) (nI_1 j), trivial⟩
      · by_cases he : i = j
        · subst he
          exact hC.sub [11, 12] (by decide) rfl
        · exact hK i (by omega)
set_option maxHeartbeats 4000000 in
set_option maxRecDepth 100000 in
theorem c8_init_steps (g : bw_G) {A0 : bw_H} {x n p gg F D cu su : Nat} (hG : GFg n p gg) (hcu : cu ≤ 20) (hsu : su ≤ 500) :
    ∀ k, k ≤ n → ∀ A : bw_H, bw_has A (rin g n p gg x F D (gsF n (2 ^ n ||| p) k) .null []) → A.1 = x + 8 → bw_gw x A0 A →
      bw_W g (bw_rm 2 60 2000) mX8_init (bw_pv (fun A' => A'.1 = x + 9 + 2 * (n + 1) ∧ bw_gw x A0 A' ∧ bw_has A' (rin g n p gg x F D (gsF n (2 ^ n ||| p) n) (.ref (x + 8)) [(x + 8, bw_aq g 4 (n + 1) (fun i => if i < n + 1 then some (x + 9 + 2 * i) else none))]) ∧ bw_rq g A' (x + 9) n (fun _ _ => 0) (fun _ => 0))) cu su 68 [(0, .ref x), (1, .ref F), (3, .int (nI k))] [] A := by
  have hn := hG.n16
  have hcu : cu ≤ 60 := by omega
  have hsu : su ≤ 2000 := by omega
  have hcu1 : cu + 1 ≤ 60 := by omega
  have hsu1 : su + (n + 1) ≤ 2000 := by omega
  refine nat_up n ?_ ?_
  · intro A hC hz hW
    refine bw_iload_n 69 dX8_init_68 rfl rfl ?_
    refine bw_aload_n 70 dX8_init_69 rfl rfl ?_
    refine bw_get 73 dX8_init_70 rfl lX8_34 (hC.at 0 rfl) rfl ?_
    refine bw_icmp_ge 96 76 dX8_init_73 rfl rfl (fun c73 => ?_) (fun c73 => ?_)
    · refine bw_aload_n 97 dX8_init_96 rfl rfl ?_
      refine bw_aload_n 98 dX8_init_97 rfl rfl ?_
      refine bw_get 101 dX8_init_98 rfl lX8_34 (hC.at 0 rfl) rfl ?_
      refine bw_iconst (1) 102 dX8_init_101 (by decide) rfl ?_
      refine bw_eqi (y := nI 1) rfl ?_
      refine bw_iadd 103 dX8_init_102 rfl ?_
      refine bw_eqi (nI_add n 1) ?_
      refine bw_ok (fun hok => ?_)
      refine bw_newqU (t := 4) 106 dX8_init_103 rfl rfl (by decide) cX8_9 (by exact nI_pos (by omega)) (by exact nI_clamp (by omega)) (by omega) hcu1 hsu1 hz (fun A hU => ?_)
      have hC := hC.nwda hok hz hU
      have hW := hW.nwd hU hz (by omega)
      have hz := (congrArg Prod.fst hU).trans (congrArg (· + 1) hz)
      clear hU hok
      refine bw_putFU 109 dX8_init_106 rfl pX8_48 rfl (hC.at 2 rfl) rfl rfl (Nat.le_of_ble_eq_true rfl) (fun A hU => ?_)
      have hC := hC.upd 2 rfl hU
      have hz := (congrArg Prod.fst hU).trans hz
      have hW := hW.upd hU (by omega)
      clear hU
      refine bw_iconst (0) 110 dX8_init_109 (by decide) rfl ?_
      refine bw_eqi (y := nI 0) rfl ?_
      refine bw_istore_n 111 dX8_init_110 rfl (by decide) ?_
      refine bw_loc _ ?_ (c8_init_rests g hn (n + 1) 0 _ _ (by omega) (show cu + 1 + 2 * (n + 1) ≤ 60 by omega) (show su + (n + 1) + 68 * (n + 1) ≤ 2000 by omega) _ hC (fun i hi => absurd hi (Nat.not_lt_zero i)) hz hW)
      exact ⟨rfl, rfl, rfl, trivial⟩
    · exact absurd (Int32.le_refl _) c73
  · intro k hk ih A hC hz hW
    have h2k : 2 ^ k < 2 ^ n := Nat.pow_lt_pow_right (by omega) hk
    have h16 := hG.p16
    refine bw_iload_n 69 dX8_init_68 rfl rfl ?_
    refine bw_aload_n 70 dX8_init_69 rfl rfl ?_
    refine bw_get 73 dX8_init_70 rfl lX8_34 (hC.at 0 rfl) rfl ?_
    refine bw_icmp_ge 96 76 dX8_init_73 rfl rfl (fun c73 => ?_) (fun c73 => ?_)
    · exact absurd c73 (nI_ge (by omega) (by omega))
    · skip
      refine bw_aload_n 77 dX8_init_76 rfl rfl ?_
      refine bw_get 80 dX8_init_77 rfl lX8_40 (hC.at 2 rfl) rfl ?_
      refine bw_iload_n 81 dX8_init_80 rfl rfl ?_
      refine bw_aload_n 82 dX8_init_81 rfl rfl ?_
      refine bw_iload_n 83 dX8_init_82 rfl rfl ?_
      refine bw_iconst (1) 84 dX8_init_83 (by decide) rfl ?_
      refine bw_eqi (y := nI 1) rfl ?_
      refine bw_iload_n 85 dX8_init_84 rfl rfl ?_
      refine bw_ishl 86 dX8_init_85 rfl ?_
      refine bw_eqi ((xn_shl (a := 1) k (by omega) (by omega)).trans (congrArg nI (Nat.one_mul (2 ^ k)))) ?_
      refine bw_cVi 89 dX8_init_86 rfl vX8_44 (c8_vaI g hG (hC.sub [2, 0, 1, 9] (by decide) rfl) rfl rfl (gsF_lt hG.2.2.1 k (by omega)) (Nat.pow_lt_pow_right (by omega) hk) (by omega) hn) (hC.at 2 rfl) rfl rfl (Nat.le_of_ble_eq_true rfl) ⟨(Nat.le_of_ble_eq_true rfl), (Nat.le_of_ble_eq_true rfl)⟩ hcu hsu ?_
      refine bw_iastN 90 dX8_init_89 rfl (hC.at 9 rfl) (by omega) (by omega) (G := gsF n (2 ^ n ||| p) (k + 1)) (rfl) (fun A hU => ?_)
      have hC := hC.upd 9 rfl hU
      have hz := (congrArg Prod.fst hU).trans hz
      have hW := hW.upd hU (by omega)
      clear hU
      refine bw_iincN (1) 93 dX8_init_90 rfl rfl (by decide) (by decide) ?_
      refine bw_goto 68 dX8_init_93 rfl ?_
      refine bw_loc _ ?_ (ih _ hC hz hW)
      exact ⟨rfl, rfl, congrArg (fun x => some (Value.int x)) (nI_1 k), trivial⟩
set_option maxHeartbeats 4000000 in
set_option maxRecDepth 100000 in
theorem c8_init (g : bw_G) {A0 : bw_H} {x n p gg F D : Nat} (hG : GFg n p gg) (hC : bw_has A0 (fcl g n p gg F ++ [(x, .inr (10, [.null, .null, .null, .null, .null, .null, .null]))])) (hz : A0.1 = x + 1) :
    bw_C g (bw_rm 2 60 2000) mX8_init [.ref x, .ref F, .ref D] A0 (bw_pv (fun A' => A'.1 = x + 9 + 2 * (n + 1) ∧ bw_gw x A0 A' ∧ bw_has A' (rin g n p gg x F D (gsF n (2 ^ n ||| p) n) (.ref (x + 8)) [(x + 8, bw_aq g 4 (n + 1) (fun i => if i < n + 1 then some (x + 9 + 2 * i) else none))]) ∧ bw_rq g A' (x + 9) n (fun _ _ => 0) (fun _ => 0))) := by
  have hn := hG.n16
  have hW : bw_gw x A0 A0 := bw_gw.rf
  refine bw_C.of (by decide) (Nat.le_of_ble_eq_true rfl) rfl ?_
  refine bw_aload_n 1 dX8_init_0 rfl rfl ?_
  refine bw_objInit 4 dX8_init_1 rfl oX8_3 bw_oI bw_oC (Nat.le_of_ble_eq_true rfl) (Nat.le_of_ble_eq_true rfl) ?_
  refine bw_aload_n 5 dX8_init_4 rfl rfl ?_
  refine bw_ok (fun hok => ?_)
  refine bw_newU 8 dX8_init_5 rfl nX8_9 (Nat.le_of_ble_eq_true rfl) (Nat.le_of_ble_eq_true rfl) hz (fun A hU => ?_)
  have hC := hC.nwda hok hz hU
  have hW := hW.nwd hU hz (by omega)
  have hz := (congrArg Prod.fst hU).trans (congrArg (· + 1) hz)
  clear hU hok
  refine bw_dup 9 dX8_init_8 rfl rfl ?_
  refine bw_sipush (129) 12 dX8_init_9 (by decide) rfl ?_
  refine bw_eqi (y := nI 129) rfl ?_
  refine bw_ok (fun hok => ?_)
  refine bw_cIv 15 dX8_init_12 rfl iX8_11 (c7_init g (hC.sub [3] (by decide) rfl) hz (by omega)) rfl rfl (Nat.le_of_ble_eq_true rfl) ⟨(Nat.le_of_ble_eq_true rfl), (Nat.le_of_ble_eq_true rfl)⟩ (Nat.le_of_ble_eq_true rfl) (Nat.le_of_ble_eq_true rfl) (fun A hP => ?_)
  obtain ⟨h1, h2, h3⟩ := hP
  have hC := hC.gr hok hz rfl h2 h3 (by simp)
  have hW := hW.trans h2 (by omega)
  have hz := h1
  refine bw_putFU 18 dX8_init_15 rfl pX8_14 rfl (hC.at 2 rfl) rfl rfl (Nat.le_of_ble_eq_true rfl) (fun A hU => ?_)
  have hC := hC.upd 2 rfl hU
  have hz := (congrArg Prod.fst hU).trans hz
  have hW := hW.upd hU (by omega)
  clear hU
  refine bw_aload_n 19 dX8_init_18 rfl rfl ?_
  refine bw_ok (fun hok => ?_)
  refine bw_newU 22 dX8_init_19 rfl nX8_9 (Nat.le_of_ble_eq_true rfl) (Nat.le_of_ble_eq_true rfl) hz (fun A hU => ?_)
  have hC := hC.nwda hok hz hU
  have hW := hW.nwd hU hz (by omega)
  have hz := (congrArg Prod.fst hU).trans (congrArg (· + 1) hz)
  clear hU hok
  refine bw_dup 23 dX8_init_22 rfl rfl ?_
  refine bw_sipush (129) 26 dX8_init_23 (by decide) rfl ?_
  refine bw_eqi (y := nI 129) rfl ?_
  refine bw_ok (fun hok => ?_)
  refine bw_cIv 29 dX8_init_26 rfl iX8_11 (c7_init g (hC.sub [5] (by decide) rfl) hz (by omega)) rfl rfl (Nat.le_of_ble_eq_true rfl) ⟨(Nat.le_of_ble_eq_true rfl), (Nat.le_of_ble_eq_true rfl)⟩ (Nat.le_of_ble_eq_true rfl) (Nat.le_of_ble_eq_true rfl) (fun A hP => ?_)
  obtain ⟨h1, h2, h3⟩ := hP
  have hC := hC.gr hok hz rfl h2 h3 (by simp)
  have hW := hW.trans h2 (by omega)
  have hz := h1
  refine bw_putFU 32 dX8_init_29 rfl pX8_20 rfl (hC.at 2 rfl) rfl rfl (Nat.le_of_ble_eq_true rfl) (fun A hU => ?_)
  have hC := hC.upd 2 rfl hU
  have hz := (congrArg Prod.fst hU).trans hz
  have hW := hW.upd hU (by omega)
  clear hU
  refine bw_aload_n 33 dX8_init_32 rfl rfl ?_
  refine bw_ok (fun hok => ?_)
  refine bw_newU 36 dX8_init_33 rfl nX8_9 (Nat.le_of_ble_eq_true rfl) (Nat.le_of_ble_eq_true rfl) hz (fun A hU => ?_)
  have hC := hC.nwda hok hz hU
  have hW := hW.nwd hU hz (by omega)
  have hz := (congrArg Prod.fst hU).trans (congrArg (· + 1) hz)
  clear hU hok
  refine bw_dup 37 dX8_init_36 rfl rfl ?_
  refine bw_sipush (129) 40 dX8_init_37 (by decide) rfl ?_
  refine bw_eqi (y := nI 129) rfl ?_
  refine bw_ok (fun hok => ?_)
  refine bw_cIv 43 dX8_init_40 rfl iX8_11 (c7_init g (hC.sub [7] (by decide) rfl) hz (by omega)) rfl rfl (Nat.le_of_ble_eq_true rfl) ⟨(Nat.le_of_ble_eq_true rfl), (Nat.le_of_ble_eq_true rfl)⟩ (Nat.le_of_ble_eq_true rfl) (Nat.le_of_ble_eq_true rfl) (fun A hP => ?_)
  obtain ⟨h1, h2, h3⟩ := hP
  have hC := hC.gr hok hz rfl h2 h3 (by simp)
  have hW := hW.trans h2 (by omega)
  have hz := h1
  refine bw_putFU 46 dX8_init_43 rfl pX8_23 rfl (hC.at 2 rfl) rfl rfl (Nat.le_of_ble_eq_true rfl) (fun A hU => ?_)
  have hC := hC.upd 2 rfl hU
  have hz := (congrArg Prod.fst hU).trans hz
  have hW := hW.upd hU (by omega)
  clear hU
  refine bw_aload_n 47 dX8_init_46 rfl rfl ?_
  refine bw_aload_n 48 dX8_init_47 rfl rfl ?_
  refine bw_putFU 51 dX8_init_48 rfl pX8_26 rfl (hC.at 2 rfl) rfl rfl (Nat.le_of_ble_eq_true rfl) (fun A hU => ?_)
  have hC := hC.upd 2 rfl hU
  have hz := (congrArg Prod.fst hU).trans hz
  have hW := hW.upd hU (by omega)
  clear hU
  refine bw_aload_n 52 dX8_init_51 rfl rfl ?_
  refine bw_aload_n 53 dX8_init_52 rfl rfl ?_
  refine bw_putFU 56 dX8_init_53 rfl pX8_30 rfl (hC.at 2 rfl) rfl rfl (Nat.le_of_ble_eq_true rfl) (fun A hU => ?_)
  have hC := hC.upd 2 rfl hU
  have hz := (congrArg Prod.fst hU).trans hz
  have hW := hW.upd hU (by omega)
  clear hU
  refine bw_aload_n 57 dX8_init_56 rfl rfl ?_
  refine bw_aload_n 58 dX8_init_57 rfl rfl ?_
  refine bw_get 61 dX8_init_58 rfl lX8_34 (hC.at 0 rfl) rfl ?_
  skip
  refine bw_ok (fun hok => ?_)
  refine bw_newiU 63 dX8_init_61 rfl bw_wI (by exact nI_pos (by omega)) (by exact nI_clamp (by omega)) (by omega) (Nat.le_of_ble_eq_true rfl) (show 3 + 129 + 3 + 129 + 3 + 129 + n ≤ 2000 by omega) hz (fun A hU => ?_)
  have hC := hC.nwda hok hz hU
  have hW := hW.nwd hU hz (by omega)
  have hz := (congrArg Prod.fst hU).trans (congrArg (· + 1) hz)
  clear hU hok
  refine bw_putFU 66 dX8_init_63 rfl pX8_40 rfl (hC.at 2 rfl) rfl rfl (Nat.le_of_ble_eq_true rfl) (fun A hU => ?_)
  have hC := hC.upd 2 rfl hU
  have hz := (congrArg Prod.fst hU).trans hz
  have hW := hW.upd hU (by omega)
  clear hU
  refine bw_iconst (0) 67 dX8_init_66 (by decide) rfl ?_
  refine bw_eqi (y := nI 0) rfl ?_
  refine bw_istore_n 68 dX8_init_67 rfl (by decide) ?_
  refine bw_loc _ ?_ (c8_init_steps g hG (cu := 7) (by omega) (show 3 + 129 + 3 + 129 + 3 + 129 + n ≤ 500 by omega) 0 (Nat.zero_le n) _ hC hz hW)
  exact ⟨rfl, rfl, rfl, trivial⟩
