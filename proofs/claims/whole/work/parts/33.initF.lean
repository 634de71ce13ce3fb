/-! the class's Field: its constructor -/
theorem or_add {a b : Nat} (h : b < 65536) : a * 65536 ||| b = a * 65536 + b := by
  have := Nat.two_pow_add_eq_or_of_lt (i := 16) (b := b) h a
  rw [Nat.mul_comm a, ← this]
theorem glog_cs (n q g a : Nat) : gpow n q g (glog n q g a) = a ∨ glog n q g a = 0 := by
  unfold glog
  split
  · rename_i h
    exact Or.inl (Classical.choose_spec h).2
  · exact Or.inr rfl
/-- tables when k powers are there, and j logs -/
noncomputable def tkF (n q g k j i : Nat) : Nat := (if i < k then gpow n q g i else 0) * 65536 + (if glog n q g i < j then glog n q g i else 0)
theorem tkF_0 (n q g : Nat) : tkF n q g 0 0 = fun _ => 0 := by
  funext i
  unfold tkF
  rw [if_neg (by omega), if_neg (by omega)]
theorem tkF_lt {n p g : Nat} (h : GFg n p g) (i j : Nat) : (if glog n (2 ^ n ||| p) g i < j then glog n (2 ^ n ||| p) g i else 0) < 65536 := by
  have h1 := glog_lt h i
  have h2 := h.p16
  split <;> omega
theorem tkF_a {n p g : Nat} (h : GFg n p g) (k : Nat) : (fun i => if i = k then (tkF n (2 ^ n ||| p) g k k k ||| gpow n (2 ^ n ||| p) g k * 65536) else tkF n (2 ^ n ||| p) g k k i) = tkF n (2 ^ n ||| p) g (k + 1) k := by
  funext i
  by_cases h1 : i = k
  · subst h1
    rw [if_pos rfl]
    unfold tkF
    rw [if_neg (Nat.lt_irrefl i), Nat.zero_mul, Nat.zero_add, Nat.or_comm, or_add (tkF_lt h i i), if_pos (Nat.lt_succ_self i)]
  · rw [if_neg h1]
    unfold tkF
    rw [show (if i < k then gpow n (2 ^ n ||| p) g i else 0) = (if i < k + 1 then gpow n (2 ^ n ||| p) g i else 0) from if_iff (by omega)]
theorem tkF_b {n p g : Nat} (h : GFg n p g) {k : Nat} (hk : k < 2 ^ n - 1) : (fun i => if i = gpow n (2 ^ n ||| p) g k then (tkF n (2 ^ n ||| p) g (k + 1) k (gpow n (2 ^ n ||| p) g k) ||| k) else tkF n (2 ^ n ||| p) g (k + 1) k i) = tkF n (2 ^ n ||| p) g (k + 1) (k + 1) := by
  have hl := glog_of h hk
  have h16 := h.p16
  funext i
  by_cases h1 : i = gpow n (2 ^ n ||| p) g k
  · subst h1
    rw [if_pos rfl]
    unfold tkF
    rw [hl, if_neg (Nat.lt_irrefl k), Nat.add_zero, or_add (by omega), if_pos (Nat.lt_succ_self k)]
  · rw [if_neg h1]
    unfold tkF
    congr 1
    rcases glog_cs n (2 ^ n ||| p) g i with h2 | h2
    · have h3 : glog n (2 ^ n ||| p) g i ≠ k := fun he => h1 (by rw [← h2, he])
      exact if_iff (by omega)
    · rw [h2]
      split <;> split <;> rfl
theorem tkF_u {n p g : Nat} (h : GFg n p g) : tkF n (2 ^ n ||| p) g (2 ^ n - 1) (2 ^ n - 1) = fun i => gex n (2 ^ n ||| p) g i * 65536 + glog n (2 ^ n ||| p) g i := by
  funext i
  unfold tkF gex
  rw [if_pos (glog_lt h i)]
set_option maxHeartbeats 4000000 in
set_option maxRecDepth 100000 in
theorem c3_init_loop (g : bw_G) {A0 : bw_H} {F n p gg su : Nat} (hG : GFg n p gg) (hsu : su ≤ 65536) :
    ∀ k, k ≤ 2 ^ n - 1 → ∀ A : bw_H, bw_has A [(F, fob n p gg F), (F + 1, bw_an g (2 ^ n) (tkF n (2 ^ n ||| p) gg k k))] → A.1 = F + 2 → bw_gw F A0 A →
      bw_W g (bw_rm 5 1 65536) mX3_init (bw_pv (bw_pn F 1 (fcl g n p gg F) A0)) 1 su 63 [(0, .ref F), (3, .int (nI (gpow n (2 ^ n ||| p) gg k))), (4, .int (nI k))] [] A := by
  have h16 := hG.p16
  have h1 := hG.2.2.1.one
  refine nat_up (2 ^ n - 1) ?_ ?_
  · intro A hC hz hW
    refine bw_iload 65 dX3_init_63 rfl rfl ?_
    refine bw_aload_n 66 dX3_init_65 rfl rfl ?_
    refine bw_get 69 dX3_init_66 rfl lX3_16 (hC.at 0 rfl) rfl ?_
    refine bw_icmp_ge 113 72 dX3_init_69 rfl rfl (fun c69 => ?_) (fun c69 => ?_)
    · refine bw_vret dX3_init_113 rfl (Nat.le_of_ble_eq_true rfl) hsu ?_
      exact ⟨rfl, hz, hW, by rw [tkF_u hG] at hC; exact hC⟩
    · exact absurd (Int32.le_refl _) c69
  · intro k hk ih A hC hz hW
    have hpw := gpow_lt hG.2.2.1 gg k
    refine bw_iload 65 dX3_init_63 rfl rfl ?_
    refine bw_aload_n 66 dX3_init_65 rfl rfl ?_
    refine bw_get 69 dX3_init_66 rfl lX3_16 (hC.at 0 rfl) rfl ?_
    refine bw_icmp_ge 113 72 dX3_init_69 rfl rfl (fun c69 => ?_) (fun c69 => ?_)
    · exact absurd c69 (nI_ge (by omega) (by omega))
    · skip
      refine bw_aload_n 73 dX3_init_72 rfl rfl ?_
      refine bw_get 76 dX3_init_73 rfl lX3_33 (hC.at 0 rfl) rfl ?_
      refine bw_iload 78 dX3_init_76 rfl rfl ?_
      refine bw_dup2 79 dX3_init_78 rfl rfl rfl ?_
      refine bw_ialdN 80 dX3_init_79 rfl (hC.at 1 rfl) (by omega) (by omega) ?_
      refine bw_iload_n 81 dX3_init_80 rfl rfl ?_
      refine bw_bipush (16) 83 dX3_init_81 (by decide) rfl ?_
      refine bw_ishl 84 dX3_init_83 rfl ?_
      refine bw_eqi ((xn_shl (a := gpow n (2 ^ n ||| p) gg k) 16 (by omega) (by omega))) ?_
      refine bw_ior 85 dX3_init_84 rfl ?_
      refine bw_eqi (xn_or _ _) ?_
      refine bw_iastN 86 dX3_init_85 rfl (hC.at 1 rfl) (by omega) (by omega) (G := tkF n (2 ^ n ||| p) gg (k + 1) k) (tkF_a hG k) (fun A hU => ?_)
      have hC := hC.upd 1 rfl hU
      have hz := (congrArg Prod.fst hU).trans hz
      have hW := hW.upd hU (by omega)
      clear hU
      refine bw_aload_n 87 dX3_init_86 rfl rfl ?_
      refine bw_get 90 dX3_init_87 rfl lX3_33 (hC.at 0 rfl) rfl ?_
      refine bw_iload_n 91 dX3_init_90 rfl rfl ?_
      refine bw_dup2 92 dX3_init_91 rfl rfl rfl ?_
      refine bw_ialdN 93 dX3_init_92 rfl (hC.at 1 rfl) (by exact hpw) (by omega) ?_
      refine bw_iload 95 dX3_init_93 rfl rfl ?_
      refine bw_ior 96 dX3_init_95 rfl ?_
      refine bw_eqi (xn_or _ _) ?_
      refine bw_iastN 97 dX3_init_96 rfl (hC.at 1 rfl) (by exact hpw) (by omega) (G := tkF n (2 ^ n ||| p) gg (k + 1) (k + 1)) (tkF_b hG hk) (fun A hU => ?_)
      have hC := hC.upd 1 rfl hU
      have hz := (congrArg Prod.fst hU).trans hz
      have hW := hW.upd hU (by omega)
      clear hU
      refine bw_aload_n 98 dX3_init_97 rfl rfl ?_
      refine bw_iload_n 99 dX3_init_98 rfl rfl ?_
      refine bw_aload_n 100 dX3_init_99 rfl rfl ?_
      refine bw_get 103 dX3_init_100 rfl lX3_30 (hC.at 0 rfl) rfl ?_
      refine bw_cVi 106 dX3_init_103 rfl vX3_37 (c3_slowProduct g hG.n16 (hC.sub [0] (by decide) rfl) rfl rfl rfl hG.2.1 hpw hG.2.2.2.2.1) (hC.at 0 rfl) rfl rfl (Nat.le_of_ble_eq_true rfl) ⟨(Nat.le_of_ble_eq_true rfl), (Nat.le_of_ble_eq_true rfl)⟩ (Nat.le_of_ble_eq_true rfl) hsu ?_
      refine bw_istore_n 107 dX3_init_106 rfl (by decide) ?_
      refine bw_iincN (1) 110 dX3_init_107 rfl rfl (by decide) (by decide) ?_
      refine bw_goto 63 dX3_init_110 rfl ?_
      refine bw_loc _ ?_ (ih _ hC hz hW)
      exact ⟨rfl, rfl, congrArg (fun x => some (Value.int x)) (nI_1 k), trivial⟩
set_option maxHeartbeats 4000000 in
set_option maxRecDepth 100000 in
theorem c3_init (g : bw_G) {A0 : bw_H} {F n p gg j0 : Nat} {s : Int32} (hG : GFg n p gg) (hC : bw_has A0 [(F, .inr (5, [.int 0, .int 0, .int 0, .int 0, .int 0, .null]))]) (hz : A0.1 = F + 1) (hj0 : j0 < 2 ^ n) (hj1 : bpr (2 ^ n ||| ((s.toBitVec.toNat % 2 ^ n + j0) % 2 ^ n)) (n / 2 + 1)) (hj2 : ∀ i, i < j0 → ¬ bpr (2 ^ n ||| ((s.toBitVec.toNat % 2 ^ n + i) % 2 ^ n)) (n / 2 + 1)) (hp : (s.toBitVec.toNat % 2 ^ n + j0) % 2 ^ n = p) (hg2 : ∀ b, 2 ≤ b → b < gg → ¬ ggen n (2 ^ n ||| p) b) :
    bw_C g (bw_rm 5 1 65536) mX3_init [.ref F, .int (nI n), .int s] A0 (bw_pv (bw_pn F 1 (fcl g n p gg F) A0)) := by
  have h16 := hG.p16
  have h1 := hG.2.2.1.one
  have hn2 := hG.2.2.1.1
  have hn16 := hG.n16
  have hs : s.toBitVec.toNat % 2 ^ n < 2 ^ n := Nat.mod_lt _ (Nat.two_pow_pos n)
  have hmask : (nI (2 ^ n - 1)).toBitVec.toNat = 2 ^ n - 1 := pk_tn (by omega)
  have hW : bw_gw F A0 A0 := bw_gw.rf
  refine bw_C.of (by decide) (Nat.le_of_ble_eq_true rfl) rfl ?_
  refine bw_aload_n 1 dX3_init_0 rfl rfl ?_
  refine bw_objInit 4 dX3_init_1 rfl oX3_1 bw_oI bw_oC (Nat.le_of_ble_eq_true rfl) (Nat.le_of_ble_eq_true rfl) ?_
  refine bw_aload_n 5 dX3_init_4 rfl rfl ?_
  refine bw_iload_n 6 dX3_init_5 rfl rfl ?_
  refine bw_putFU 9 dX3_init_6 rfl pX3_7 rfl (hC.at 0 rfl) rfl rfl (Nat.le_of_ble_eq_true rfl) (fun A hU => ?_)
  have hC := hC.upd 0 rfl hU
  have hz := (congrArg Prod.fst hU).trans hz
  have hW := hW.upd hU (by omega)
  clear hU
  refine bw_aload_n 10 dX3_init_9 rfl rfl ?_
  refine bw_iconst (1) 11 dX3_init_10 (by decide) rfl ?_
  refine bw_eqi (y := nI 1) rfl ?_
  refine bw_iload_n 12 dX3_init_11 rfl rfl ?_
  refine bw_ishl 13 dX3_init_12 rfl ?_
  refine bw_eqi ((xn_shl (a := 1) n (by omega) (by omega)).trans (congrArg nI (Nat.one_mul (2 ^ n)))) ?_
  refine bw_putFU 16 dX3_init_13 rfl pX3_13 rfl (hC.at 0 rfl) rfl rfl (Nat.le_of_ble_eq_true rfl) (fun A hU => ?_)
  have hC := hC.upd 0 rfl hU
  have hz := (congrArg Prod.fst hU).trans hz
  have hW := hW.upd hU (by omega)
  clear hU
  refine bw_aload_n 17 dX3_init_16 rfl rfl ?_
  refine bw_aload_n 18 dX3_init_17 rfl rfl ?_
  refine bw_get 21 dX3_init_18 rfl lX3_13 (hC.at 0 rfl) rfl ?_
  refine bw_iconst (1) 22 dX3_init_21 (by decide) rfl ?_
  refine bw_eqi (y := nI 1) rfl ?_
  refine bw_isub 23 dX3_init_22 rfl ?_
  refine bw_eqi (pk_sub (show 1 ≤ 2 ^ n by omega)) ?_
  refine bw_putFU 26 dX3_init_23 rfl pX3_16 rfl (hC.at 0 rfl) rfl rfl (Nat.le_of_ble_eq_true rfl) (fun A hU => ?_)
  have hC := hC.upd 0 rfl hU
  have hz := (congrArg Prod.fst hU).trans hz
  have hW := hW.upd hU (by omega)
  clear hU
  refine bw_aload_n 27 dX3_init_26 rfl rfl ?_
  refine bw_iload_n 28 dX3_init_27 rfl rfl ?_
  refine bw_iload_n 29 dX3_init_28 rfl rfl ?_
  refine bw_aload_n 30 dX3_init_29 rfl rfl ?_
  refine bw_get 33 dX3_init_30 rfl lX3_16 (hC.at 0 rfl) rfl ?_
  refine bw_iand 34 dX3_init_33 rfl ?_
  refine bw_eqi (pk_and s n hmask) ?_
  refine bw_cSi 37 dX3_init_34 rfl sX3_19 (c3_firstUnsplit g hG.n16 hn2 hs hj0 hj1 hj2) rfl rfl (Nat.le_of_ble_eq_true rfl) ⟨(Nat.le_of_ble_eq_true rfl), (Nat.le_of_ble_eq_true rfl)⟩ (Nat.le_of_ble_eq_true rfl) (Nat.le_of_ble_eq_true rfl) ?_
  refine bw_eqi (congrArg nI hp) ?_
  refine bw_putFU 40 dX3_init_37 rfl pX3_23 rfl (hC.at 0 rfl) rfl rfl (Nat.le_of_ble_eq_true rfl) (fun A hU => ?_)
  have hC := hC.upd 0 rfl hU
  have hz := (congrArg Prod.fst hU).trans hz
  have hW := hW.upd hU (by omega)
  clear hU
  refine bw_aload_n 41 dX3_init_40 rfl rfl ?_
  refine bw_aload_n 42 dX3_init_41 rfl rfl ?_
  refine bw_cVi 45 dX3_init_42 rfl vX3_26 (c3_leastGenerator g hG.n16 (hC.sub [0] (by decide) rfl) rfl rfl rfl rfl hG.2.1 h1 hG.2.2.2.1 hG.2.2.2.2.1 hG.2.2.2.2.2 hg2) (hC.at 0 rfl) rfl rfl (Nat.le_of_ble_eq_true rfl) ⟨(Nat.le_of_ble_eq_true rfl), (Nat.le_of_ble_eq_true rfl)⟩ (Nat.le_of_ble_eq_true rfl) (Nat.le_of_ble_eq_true rfl) ?_
  refine bw_putFU 48 dX3_init_45 rfl pX3_30 rfl (hC.at 0 rfl) rfl rfl (Nat.le_of_ble_eq_true rfl) (fun A hU => ?_)
  have hC := hC.upd 0 rfl hU
  have hz := (congrArg Prod.fst hU).trans hz
  have hW := hW.upd hU (by omega)
  clear hU
  refine bw_aload_n 49 dX3_init_48 rfl rfl ?_
  refine bw_aload_n 50 dX3_init_49 rfl rfl ?_
  refine bw_get 53 dX3_init_50 rfl lX3_13 (hC.at 0 rfl) rfl ?_
  refine bw_ok (fun hok => ?_)
  refine bw_newiU 55 dX3_init_53 rfl bw_wI (by exact nI_pos (by omega)) (by exact nI_clamp (by omega)) (by omega) (Nat.le_of_ble_eq_true rfl) (by show 0 + 0 + 0 + 2 ^ n ≤ 65536; omega) hz (fun A hU => ?_)
  have hC := hC.nwda hok hz hU
  have hW := hW.nwd hU hz (by omega)
  have hz := (congrArg Prod.fst hU).trans (congrArg (· + 1) hz)
  clear hU hok
  refine bw_putFU 58 dX3_init_55 rfl pX3_33 rfl (hC.at 0 rfl) rfl rfl (Nat.le_of_ble_eq_true rfl) (fun A hU => ?_)
  have hC := hC.upd 0 rfl hU
  have hz := (congrArg Prod.fst hU).trans hz
  have hW := hW.upd hU (by omega)
  clear hU
  refine bw_iconst (1) 59 dX3_init_58 (by decide) rfl ?_
  refine bw_eqi (y := nI 1) rfl ?_
  refine bw_istore_n 60 dX3_init_59 rfl (by decide) ?_
  refine bw_iconst (0) 61 dX3_init_60 (by decide) rfl ?_
  refine bw_eqi (y := nI 0) rfl ?_
  refine bw_istore 63 dX3_init_61 rfl (by decide) ?_
  have hC : bw_has A [(F, fob n p gg F), (F + 1, bw_an g (2 ^ n) (tkF n (2 ^ n ||| p) gg 0 0))] := by rw [tkF_0]; exact hC
  refine bw_loc _ ?_ (c3_init_loop g hG (show 0 + 0 + 0 + 2 ^ n ≤ 65536 by omega) 0 (Nat.zero_le _) _ hC hz hW)
  exact ⟨rfl, rfl, rfl, trivial⟩
