/-! the class's Field with its tables -/
noncomputable def glog (n q g a : Nat) : Nat := @dite _ (∃ k, k < 2 ^ n - 1 ∧ gpow n q g k = a) (Classical.propDecidable _) (fun h => Classical.choose h) (fun _ => 0)
def gex (n q g i : Nat) : Nat := if i < 2 ^ n - 1 then gpow n q g i else 0
noncomputable def gtb (n q g : Nat) (i : Nat) : Int32 := nI (gex n q g i * 65536 + glog n q g i)
/-- the field: 8 or 16 bits, the polynomial prime, g its generator -/
def GFg (n p g : Nat) : Prop := (n = 8 ∨ n = 16) ∧ p < 2 ^ n ∧ GFp n (2 ^ n ||| p) ∧ 2 ≤ g ∧ g < 2 ^ n ∧ ggen n (2 ^ n ||| p) g
section GL
variable {n p g : Nat}
theorem GFg.n16 (h : GFg n p g) : n ≤ 16 := by rcases h.1 with e | e <;> omega
theorem GFg.p16 (h : GFg n p g) : 2 ^ n ≤ 65536 := by rcases h.1 with rfl | rfl <;> decide
theorem glog_lt (h : GFg n p g) (a : Nat) : glog n (2 ^ n ||| p) g a < 2 ^ n - 1 := by
  unfold glog
  split
  · rename_i hx
    exact (Classical.choose_spec hx).1
  · have := h.2.2.1.one
    omega
theorem glog_pow (h : GFg n p g) {a : Nat} (ha : a < 2 ^ n) (ha0 : a ≠ 0) : gpow n (2 ^ n ||| p) g (glog n (2 ^ n ||| p) g a) = a := by
  have hx := gen_log h.2.2.1 h.1 h.2.2.2.2.1 (by have := h.2.2.2.1; omega) h.2.2.2.2.2 ha ha0
  unfold glog
  rw [dif_pos hx]
  exact (Classical.choose_spec hx).2
theorem glog_of (h : GFg n p g) {k : Nat} (hk : k < 2 ^ n - 1) : glog n (2 ^ n ||| p) g (gpow n (2 ^ n ||| p) g k) = k := by
  have hg0 : g ≠ 0 := by have := h.2.2.2.1; omega
  have hl := gpow_lt h.2.2.1 g k
  have h0 := gpow_ne0 h.2.2.1 h.2.2.2.2.1 hg0 k
  exact gen_inj h.2.2.1 h.1 h.2.2.2.2.1 hg0 h.2.2.2.2.2 (glog_lt h _) hk (glog_pow h hl h0)
theorem glog_0 (h : GFg n p g) : glog n (2 ^ n ||| p) g 0 = 0 := by
  unfold glog
  rw [dif_neg]
  rintro ⟨k, -, hk⟩
  exact gpow_ne0 h.2.2.1 h.2.2.2.2.1 (by have := h.2.2.2.1; omega) k hk
theorem gex_lt (h : GFg n p g) (i : Nat) : gex n (2 ^ n ||| p) g i < 65536 := by
  have := h.p16
  unfold gex
  split
  · have := gpow_lt h.2.2.1 g i
    omega
  · omega
theorem gtb_lt (h : GFg n p g) (i : Nat) : gex n (2 ^ n ||| p) g i * 65536 + glog n (2 ^ n ||| p) g i < 2 ^ 32 := by
  have h1 := gex_lt h i
  have h2 := glog_lt h i
  have h3 := h.p16
  omega
theorem gtb_at {q a : Nat} (ha : a < 2 ^ 31) : gtb n q g (nI a).toNatClampNeg = nI (gex n q g a * 65536 + glog n q g a) := by
  unfold gtb
  rw [nI_clamp ha]
theorem gtb_log (h : GFg n p g) (i : Nat) : nI (gex n (2 ^ n ||| p) g i * 65536 + glog n (2 ^ n ||| p) g i) &&& 65535 = nI (glog n (2 ^ n ||| p) g i) := by
  rw [pk_andN (m := 65535) (gtb_lt h i) 16 (by decide)]
  congr 1
  have h2 := glog_lt h i
  have h3 := h.p16
  omega
theorem gtb_exp (h : GFg n p g) (i : Nat) (hi : i < 2 ^ n - 1) : ((nI (gex n (2 ^ n ||| p) g i * 65536 + glog n (2 ^ n ||| p) g i)).toUInt32 >>> ((16 : Int32).toUInt32 &&& Int32.toUInt32 31)).toInt32 = nI (gpow n (2 ^ n ||| p) g i) := by
  have h1 := xn_ushr (a := gex n (2 ^ n ||| p) g i * 65536 + glog n (2 ^ n ||| p) g i) 16 (by omega) (gtb_lt h i)
  rw [show (nI 16).toUInt32 = (16 : Int32).toUInt32 from rfl] at h1
  rw [h1]
  congr 1
  have h2 := glog_lt h i
  have h3 := h.p16
  have h4 : gex n (2 ^ n ||| p) g i = gpow n (2 ^ n ||| p) g i := if_pos hi
  omega
theorem gpow_wrap (h : GFg n p g) {k : Nat} (hk : 2 ^ n - 1 ≤ k) : gpow n (2 ^ n ||| p) g (k - (2 ^ n - 1)) = gpow n (2 ^ n ||| p) g k := by
  have hg0 : g ≠ 0 := by have := h.2.2.2.1; omega
  have h1 := gpow_add h.2.2.1 h.2.2.2.2.1 (k - (2 ^ n - 1)) (2 ^ n - 1)
  rw [show k - (2 ^ n - 1) + (2 ^ n - 1) = k by omega, gpow_units h.2.2.1 h.2.2.2.2.1 hg0, h.2.2.1.mul1 (gpow_lt h.2.2.1 g _)] at h1
  exact h1.symm
theorem gmul_log (h : GFg n p g) {a b : Nat} (ha : a < 2 ^ n) (hb : b < 2 ^ n) (ha0 : a ≠ 0) (hb0 : b ≠ 0) : gpow n (2 ^ n ||| p) g (glog n (2 ^ n ||| p) g a + glog n (2 ^ n ||| p) g b) = gm n (2 ^ n ||| p) a b := by
  rw [gpow_add h.2.2.1 h.2.2.2.2.1, glog_pow h ha ha0, glog_pow h hb hb0]
/-- 1 by a; 0 for 0 -/
def ginv (n q a : Nat) : Nat := gpow n q a (2 ^ n - 2)
theorem ginv_0 (h : GFg n p g) : ginv n (2 ^ n ||| p) 0 = 0 := by
  unfold ginv
  have : 2 ^ 2 ≤ 2 ^ n := Nat.pow_le_pow_right (by omega) h.2.2.1.1
  obtain ⟨k, hk⟩ : ∃ k, 2 ^ n - 2 = k + 1 := ⟨2 ^ n - 3, by omega⟩
  rw [hk]
  exact gm_b0 _
theorem ginv_mul (h : GFg n p g) {a : Nat} (ha : a < 2 ^ n) (ha0 : a ≠ 0) : gm n (2 ^ n ||| p) a (ginv n (2 ^ n ||| p) a) = 1 := by
  have h1 := h.2.2.1.one
  have h2 := gpow_add h.2.2.1 ha 1 (2 ^ n - 2)
  rw [show 1 + (2 ^ n - 2) = 2 ^ n - 1 by omega, gpow_units h.2.2.1 ha ha0, gpow_1 h.2.2.1 ha] at h2
  exact h2.symm
theorem ginv_lt (h : GFg n p g) (a : Nat) : ginv n (2 ^ n ||| p) a < 2 ^ n := gpow_lt h.2.2.1 a _
theorem ginv_ne0 (h : GFg n p g) {a : Nat} (ha : a < 2 ^ n) (ha0 : a ≠ 0) : ginv n (2 ^ n ||| p) a ≠ 0 := gpow_ne0 h.2.2.1 ha ha0 _
theorem ginv_log (h : GFg n p g) {a : Nat} (ha : a < 2 ^ n) (ha0 : a ≠ 0) : gpow n (2 ^ n ||| p) g (if glog n (2 ^ n ||| p) g a = 0 then 0 else 2 ^ n - 1 - glog n (2 ^ n ||| p) g a) = ginv n (2 ^ n ||| p) a := by
  have hG := h.2.2.1
  have hg := h.2.2.2.2.1
  have hg0 : g ≠ 0 := by have := h.2.2.2.1; omega
  refine hG.cancelL (gpow_lt hG g _) (ginv_lt h a) ha ha0 ?_
  rw [ginv_mul h ha ha0]
  have hl := glog_lt h a
  have e1 := glog_pow h ha ha0
  split
  · rename_i h0
    rw [h0] at e1
    have e1 : 1 = a := e1
    rw [← e1]
    exact gm_1 hG.one
  · have h3 := gpow_add hG hg (glog n (2 ^ n ||| p) g a) (2 ^ n - 1 - glog n (2 ^ n ||| p) g a)
    rw [show glog n (2 ^ n ||| p) g a + (2 ^ n - 1 - glog n (2 ^ n ||| p) g a) = 2 ^ n - 1 by omega, gpow_units hG hg hg0, e1] at h3
    exact h3.symm
end GL
/-- the cells of a Field at F, its tables behind it -/
abbrev fob (n p gg F : Nat) : va_E := .inr (5, [.int (nI n), .int (nI (2 ^ n)), .int (nI (2 ^ n - 1)), .int (nI p), .int (nI gg), .ref (F + 1)])
noncomputable abbrev fcl (g : bw_G) (n p gg F : Nat) : List (Nat × va_E) := [(F, fob n p gg F), (F + 1, bw_ai g (2 ^ n) (gtb n (2 ^ n ||| p) gg))]
set_option maxHeartbeats 4000000 in
set_option maxRecDepth 100000 in
theorem c3_logOf (g : bw_G) {A : bw_H} {F n p gg a : Nat} (hG : GFg n p gg) (hC : bw_has A (fcl g n p gg F)) (ha : a < 2 ^ n) : bw_C g (bw_rm 0 0 0) mX3_logOf [.ref F, .int (nI a)] A (bw_pi (nI (glog n (2 ^ n ||| p) gg a)) A) := by
  have h16 := hG.p16
  refine bw_C.of (by decide) (Nat.le_of_ble_eq_true rfl) rfl ?_
  refine bw_aload_n 1 dX3_logOf_0 rfl rfl ?_
  refine bw_get 4 dX3_logOf_1 rfl lX3_33 (hC.at 0 rfl) rfl ?_
  refine bw_iload_n 5 dX3_logOf_4 rfl rfl ?_
  refine bw_iald 6 dX3_logOf_5 rfl (hC.at 1 rfl) (by exact vp_in_nI ha (by omega)) ?_
  refine bw_eqi (gtb_at (by omega)) ?_
  refine bw_ldc 8 dX3_logOf_6 kX3_66 rfl ?_
  refine bw_iand 9 dX3_logOf_8 rfl ?_
  refine bw_eqi (gtb_log hG a) ?_
  refine bw_iret dX3_logOf_9 rfl (Nat.le_of_ble_eq_true rfl) (Nat.le_of_ble_eq_true rfl) ?_
  exact ⟨rfl, rfl⟩
set_option maxHeartbeats 4000000 in
set_option maxRecDepth 100000 in
theorem c3_mul (g : bw_G) {A : bw_H} {F n p gg a b : Nat} (hG : GFg n p gg) (hC : bw_has A (fcl g n p gg F)) (ha : a < 2 ^ n) (hb : b < 2 ^ n) : bw_C g (bw_rm 0 0 0) mX3_mul [.ref F, .int (nI a), .int (nI b)] A (bw_pi (nI (gm n (2 ^ n ||| p) a b)) A) := by
  have h16 := hG.p16
  have h1 := hG.2.2.1.one
  refine bw_C.of (by decide) (Nat.le_of_ble_eq_true rfl) rfl ?_
  refine bw_iload_n 1 dX3_mul_0 rfl rfl ?_
  refine bw_if_eq 8 4 dX3_mul_1 rfl rfl (fun c1 => ?_) (fun c1 => ?_)
  · have h0 : a = 0 := (xn_eq0 (by omega)).mp c1
    refine bw_iconst (0) 9 dX3_mul_8 (by decide) rfl ?_
    refine bw_iret dX3_mul_9 rfl (Nat.le_of_ble_eq_true rfl) (Nat.le_of_ble_eq_true rfl) ?_
    exact ⟨congrArg (fun x => Sum.inl (some (Value.int x))) (by subst h0; first | (rw [gm_0]; rfl) | (rw [gm_b0]; rfl)), rfl⟩
  · have ha0 : a ≠ 0 := fun h => c1 ((xn_eq0 (by omega)).mpr h)
    refine bw_iload_n 5 dX3_mul_4 rfl rfl ?_
    refine bw_if_ne 10 8 dX3_mul_5 rfl rfl (fun c5 => ?_) (fun c5 => ?_)
    · have hb0 : b ≠ 0 := fun h => c5 ((xn_eq0 (by omega)).mpr h)
      have hla := glog_lt hG a
      have hlb := glog_lt hG b
      have hm := gmul_log hG ha hb ha0 hb0
      generalize hLa : glog n (2 ^ n ||| p) gg a = la at hla hm
      generalize hLb : glog n (2 ^ n ||| p) gg b = lb at hlb hm
      refine bw_aload_n 11 dX3_mul_10 rfl rfl ?_
      refine bw_get 14 dX3_mul_11 rfl lX3_33 (hC.at 0 rfl) rfl ?_
      refine bw_iload_n 15 dX3_mul_14 rfl rfl ?_
      refine bw_iald 16 dX3_mul_15 rfl (hC.at 1 rfl) (by exact vp_in_nI ha (by omega)) ?_
      refine bw_eqi (gtb_at (by omega)) ?_
      refine bw_ldc 18 dX3_mul_16 kX3_66 rfl ?_
      refine bw_iand 19 dX3_mul_18 rfl ?_
      refine bw_eqi ((gtb_log hG a).trans (congrArg nI hLa)) ?_
      refine bw_aload_n 20 dX3_mul_19 rfl rfl ?_
      refine bw_get 23 dX3_mul_20 rfl lX3_33 (hC.at 0 rfl) rfl ?_
      refine bw_iload_n 24 dX3_mul_23 rfl rfl ?_
      refine bw_iald 25 dX3_mul_24 rfl (hC.at 1 rfl) (by exact vp_in_nI hb (by omega)) ?_
      refine bw_eqi (gtb_at (by omega)) ?_
      refine bw_ldc 27 dX3_mul_25 kX3_66 rfl ?_
      refine bw_iand 28 dX3_mul_27 rfl ?_
      refine bw_eqi ((gtb_log hG b).trans (congrArg nI hLb)) ?_
      refine bw_iadd 29 dX3_mul_28 rfl ?_
      refine bw_eqi (nI_add la lb) ?_
      refine bw_istore_n 30 dX3_mul_29 rfl (by decide) ?_
      refine bw_aload_n 31 dX3_mul_30 rfl rfl ?_
      refine bw_get 34 dX3_mul_31 rfl lX3_33 (hC.at 0 rfl) rfl ?_
      refine bw_iload_n 35 dX3_mul_34 rfl rfl ?_
      refine bw_aload_n 36 dX3_mul_35 rfl rfl ?_
      refine bw_get 39 dX3_mul_36 rfl lX3_16 (hC.at 0 rfl) rfl ?_
      refine bw_icmp_ge 46 42 dX3_mul_39 rfl rfl (fun c39 => ?_) (fun c39 => ?_)
      · have hge : 2 ^ n - 1 ≤ la + lb := (nI_leI (by omega) (by omega)).mp c39
        refine bw_iload_n 47 dX3_mul_46 rfl rfl ?_
        refine bw_aload_n 48 dX3_mul_47 rfl rfl ?_
        refine bw_get 51 dX3_mul_48 rfl lX3_16 (hC.at 0 rfl) rfl ?_
        refine bw_isub 52 dX3_mul_51 rfl ?_
        refine bw_eqi (pk_sub (a := la + lb) (b := 2 ^ n - 1) hge) ?_
        refine bw_iald 53 dX3_mul_52 rfl (hC.at 1 rfl) (by exact vp_in_nI (by omega) (by omega)) ?_
        refine bw_eqi (gtb_at (by omega)) ?_
        refine bw_bipush (16) 55 dX3_mul_53 (by decide) rfl ?_
        refine bw_iushr 56 dX3_mul_55 rfl ?_
        refine bw_eqi ((gtb_exp hG _ (by omega)).trans (congrArg nI ((gpow_wrap hG hge).trans hm))) ?_
        refine bw_iret dX3_mul_56 rfl (Nat.le_of_ble_eq_true rfl) (Nat.le_of_ble_eq_true rfl) ?_
        exact ⟨rfl, rfl⟩
      · have hlt : la + lb < 2 ^ n - 1 := Nat.not_le.mp (fun h => c39 ((nI_leI (by omega) (by omega)).mpr h))
        refine bw_iload_n 43 dX3_mul_42 rfl rfl ?_
        refine bw_goto 52 dX3_mul_43 rfl ?_
        refine bw_iald 53 dX3_mul_52 rfl (hC.at 1 rfl) (vp_in_nI (by omega) (by omega)) ?_
        refine bw_eqi (gtb_at (by omega)) ?_
        refine bw_bipush (16) 55 dX3_mul_53 (by decide) rfl ?_
        refine bw_iushr 56 dX3_mul_55 rfl ?_
        refine bw_eqi ((gtb_exp hG _ hlt).trans (congrArg nI hm)) ?_
        refine bw_iret dX3_mul_56 rfl (Nat.le_of_ble_eq_true rfl) (Nat.le_of_ble_eq_true rfl) ?_
        exact ⟨rfl, rfl⟩
    · have h0 : b = 0 := (xn_eq0 (by omega)).mp c5
      refine bw_iconst (0) 9 dX3_mul_8 (by decide) rfl ?_
      refine bw_iret dX3_mul_9 rfl (Nat.le_of_ble_eq_true rfl) (Nat.le_of_ble_eq_true rfl) ?_
      exact ⟨congrArg (fun x => Sum.inl (some (Value.int x))) (by subst h0; first | (rw [gm_0]; rfl) | (rw [gm_b0]; rfl)), rfl⟩
set_option maxHeartbeats 4000000 in
set_option maxRecDepth 100000 in
theorem c3_inverse (g : bw_G) {A : bw_H} {F n p gg a : Nat} (hG : GFg n p gg) (hC : bw_has A (fcl g n p gg F)) (ha : a < 2 ^ n) : bw_C g (bw_rm 0 0 0) mX3_inverse [.ref F, .int (nI a)] A (bw_pi (nI (ginv n (2 ^ n ||| p) a)) A) := by
  have h16 := hG.p16
  have h1 := hG.2.2.1.one
  have hla := glog_lt hG a
  generalize hLa : glog n (2 ^ n ||| p) gg a = la at hla
  refine bw_C.of (by decide) (Nat.le_of_ble_eq_true rfl) rfl ?_
  refine bw_aload_n 1 dX3_inverse_0 rfl rfl ?_
  refine bw_get 4 dX3_inverse_1 rfl lX3_33 (hC.at 0 rfl) rfl ?_
  refine bw_iload_n 5 dX3_inverse_4 rfl rfl ?_
  refine bw_iald 6 dX3_inverse_5 rfl (hC.at 1 rfl) (by exact vp_in_nI ha (by omega)) ?_
  refine bw_eqi (gtb_at (by omega)) ?_
  refine bw_ldc 8 dX3_inverse_6 kX3_66 rfl ?_
  refine bw_iand 9 dX3_inverse_8 rfl ?_
  refine bw_eqi ((gtb_log hG a).trans (congrArg nI hLa)) ?_
  refine bw_istore_n 10 dX3_inverse_9 rfl (by decide) ?_
  refine bw_iload_n 11 dX3_inverse_10 rfl rfl ?_
  refine bw_if_ne 18 14 dX3_inverse_11 rfl rfl (fun c11 => ?_) (fun c11 => ?_)
  · have ha0 : a ≠ 0 := fun h => c11 ((xn_eq0 (by omega)).mpr h)
    have hm := ginv_log hG ha ha0
    rw [hLa] at hm
    refine bw_aload_n 19 dX3_inverse_18 rfl rfl ?_
    refine bw_get 22 dX3_inverse_19 rfl lX3_33 (hC.at 0 rfl) rfl ?_
    refine bw_iload_n 23 dX3_inverse_22 rfl rfl ?_
    refine bw_if_ne 30 26 dX3_inverse_23 rfl rfl (fun c23 => ?_) (fun c23 => ?_)
    · have h0 : la ≠ 0 := fun h => c23 ((xn_eq0 (by omega)).mpr h)
      rw [if_neg h0] at hm
      refine bw_aload_n 31 dX3_inverse_30 rfl rfl ?_
      refine bw_get 34 dX3_inverse_31 rfl lX3_16 (hC.at 0 rfl) rfl ?_
      refine bw_iload_n 35 dX3_inverse_34 rfl rfl ?_
      refine bw_isub 36 dX3_inverse_35 rfl ?_
      refine bw_eqi (pk_sub (a := 2 ^ n - 1) (b := la) (by omega)) ?_
      refine bw_iald 37 dX3_inverse_36 rfl (hC.at 1 rfl) (by exact vp_in_nI (by omega) (by omega)) ?_
      refine bw_eqi (gtb_at (by omega)) ?_
      refine bw_bipush (16) 39 dX3_inverse_37 (by decide) rfl ?_
      refine bw_iushr 40 dX3_inverse_39 rfl ?_
      refine bw_eqi ((gtb_exp hG _ (by omega)).trans (congrArg nI hm)) ?_
      refine bw_iret dX3_inverse_40 rfl (Nat.le_of_ble_eq_true rfl) (Nat.le_of_ble_eq_true rfl) ?_
      exact ⟨rfl, rfl⟩
    · have h0 : la = 0 := (xn_eq0 (by omega)).mp c23
      rw [if_pos h0] at hm
      refine bw_iconst (0) 27 dX3_inverse_26 (by decide) rfl ?_
      refine bw_goto 36 dX3_inverse_27 rfl ?_
      refine bw_iald 37 dX3_inverse_36 rfl (hC.at 1 rfl) (vp_in_nI (n := 0) (by omega) (by omega)) ?_
      refine bw_eqi (gtb_at (a := 0) (by omega)) ?_
      refine bw_bipush (16) 39 dX3_inverse_37 (by decide) rfl ?_
      refine bw_iushr 40 dX3_inverse_39 rfl ?_
      refine bw_eqi ((gtb_exp hG _ (by omega)).trans (congrArg nI hm)) ?_
      refine bw_iret dX3_inverse_40 rfl (Nat.le_of_ble_eq_true rfl) (Nat.le_of_ble_eq_true rfl) ?_
      exact ⟨rfl, rfl⟩
  · have h0 : a = 0 := (xn_eq0 (by omega)).mp c11
    refine bw_iconst (0) 15 dX3_inverse_14 (by decide) rfl ?_
    refine bw_goto 40 dX3_inverse_15 rfl ?_
    refine bw_iret dX3_inverse_40 rfl (Nat.le_of_ble_eq_true rfl) (Nat.le_of_ble_eq_true rfl) ?_
    exact ⟨congrArg (fun x => Sum.inl (some (Value.int x))) (by subst h0; rw [ginv_0 hG]; rfl), rfl⟩
set_option maxHeartbeats 4000000 in
set_option maxRecDepth 100000 in
theorem c3_ratio (g : bw_G) {A : bw_H} {F n p gg a b : Nat} (hG : GFg n p gg) (hC : bw_has A (fcl g n p gg F)) (ha : a < 2 ^ n) (hb : b < 2 ^ n) : bw_C g (bw_rm 1 0 0) mX3_ratio [.ref F, .int (nI a), .int (nI b)] A (bw_pi (nI (gm n (2 ^ n ||| p) a (ginv n (2 ^ n ||| p) b))) A) := by
  refine bw_C.of (by decide) (Nat.le_of_ble_eq_true rfl) rfl ?_
  refine bw_aload_n 1 dX3_ratio_0 rfl rfl ?_
  refine bw_iload_n 2 dX3_ratio_1 rfl rfl ?_
  refine bw_aload_n 3 dX3_ratio_2 rfl rfl ?_
  refine bw_iload_n 4 dX3_ratio_3 rfl rfl ?_
  refine bw_cVi 7 dX3_ratio_4 rfl vX3_67 (c3_inverse g hG hC hb) (hC.at 0 rfl) rfl rfl (Nat.le_of_ble_eq_true rfl) ⟨(Nat.le_of_ble_eq_true rfl), (Nat.le_of_ble_eq_true rfl)⟩ (Nat.le_of_ble_eq_true rfl) (Nat.le_of_ble_eq_true rfl) ?_
  refine bw_cVi 10 dX3_ratio_7 rfl vX3_70 (c3_mul g hG hC ha (ginv_lt hG b)) (hC.at 0 rfl) rfl rfl (Nat.le_of_ble_eq_true rfl) ⟨(Nat.le_of_ble_eq_true rfl), (Nat.le_of_ble_eq_true rfl)⟩ (Nat.le_of_ble_eq_true rfl) (Nat.le_of_ble_eq_true rfl) ?_
  refine bw_iret dX3_ratio_10 rfl (Nat.le_of_ble_eq_true rfl) (Nat.le_of_ble_eq_true rfl) ?_
  exact ⟨rfl, rfl⟩
