/-! constructors -/
/-- nothing below x has changed -/
def bw_gw (x : Nat) (A0 A : bw_H) : Prop := ∀ b : Nat, b < x → A.2 b = A0.2 b
theorem bw_gw.rf {x : Nat} {A : bw_H} : bw_gw x A A := fun _ _ => rfl
theorem bw_gw.upd {x : Nat} {A0 A A' : bw_H} {a : Nat} {e : va_E} (h : bw_gw x A0 A) (hA : A' = bw_up A a e) (ha : x ≤ a) : bw_gw x A0 A' := by
  subst hA
  intro b hb
  rw [bw_up_ne (a := a) (b := b) (by omega)]
  exact h b hb
theorem bw_gw.nwd {x : Nat} {A0 A A' : bw_H} {a : Nat} {e : va_E} (h : bw_gw x A0 A) (hA : A' = bw_nw A e) (hz : A.1 = a) (ha : x ≤ a) : bw_gw x A0 A' := by
  subst hA
  intro b hb
  rw [bw_nw_ne (b := b) (by omega)]
  exact h b hb
theorem bw_gw.trans {x y : Nat} {A0 A A' : bw_H} (h : bw_gw x A0 A) (h' : bw_gw y A A') (hxy : x ≤ y) : bw_gw x A0 A' := fun b hb => (h' b (by omega)).trans (h b hb)
theorem bw_gw.mna {g : bw_G} {N M x : Nat} {A0 A A' : bw_H} {a : Nat} (h : bw_gw x A0 A) (hA : A' = bw_mna g N M A) (hz : A.1 = a) (ha : x ≤ a) : bw_gw x A0 A' := by
  subst hA
  intro b hb
  show (if b = A.1 then _ else if A.1 < b ∧ b < A.1 + 1 + N then _ else A.2 b) = _
  rw [if_neg (by omega), if_neg (by omega)]
  exact h b hb
theorem bw_mna_sz {g : bw_G} {N M a : Nat} {A A' : bw_H} (hz : A.1 = a) (hA : A' = bw_mna g N M A) : A'.1 = a + 1 + N := by
  subst hA
  subst hz
  rfl
theorem bw_has.mna {g : bw_G} {N M a : Nat} {A A' : bw_H} {ws : List (Nat × va_E)} (h : bw_has A ws) (hok : ∀ (a : Nat) (e : va_E), A.2 a = some e → a < A.1) (hz : A.1 = a) (hA : A' = bw_mna g N M A) : bw_has A' (ws ++ [(a, eco g a N)]) := by
  subst hA
  subst hz
  refine ⟨fun q hq => ?_, ?_⟩
  · show (if q.1 = A.1 then _ else if A.1 < q.1 ∧ q.1 < A.1 + 1 + N then _ else A.2 q.1) = _
    rcases List.mem_append.mp hq with hq | hq
    · have := hok _ _ (h.1 q hq)
      rw [if_neg (by omega), if_neg (by omega)]
      exact h.1 q hq
    · rw [List.mem_singleton.mp hq, if_pos rfl]
  · rw [List.map_append, List.nodup_append]
    refine ⟨h.2, by simp, ?_⟩
    intro x hx y hy he
    obtain ⟨q, hq, rfl⟩ := List.mem_map.mp hx
    have h1 := hok _ _ (h.1 q hq)
    have h2 : y = A.1 := by simpa using hy
    omega
theorem bw_mna_rw {g : bw_G} {N M a : Nat} {A A' : bw_H} (hz : A.1 = a) (hA : A' = bw_mna g N M A) : bw_rw g A' (a + 1) N M (fun _ _ => 0) := by
  subst hA
  subst hz
  intro i hi
  show (if A.1 + 1 + i = A.1 then _ else if A.1 < A.1 + 1 + i ∧ A.1 + 1 + i < A.1 + 1 + N then _ else A.2 _) = _
  rw [if_neg (by omega), if_pos (by omega)]
  rfl
theorem bw_rw.nwd {g : bw_G} {A A' : bw_H} {eb c M a : Nat} {w : Nat → Nat → Nat} {e : va_E} (h : bw_rw g A eb c M w) (hA : A' = bw_nw A e) (hz : A.1 = a) (ha : eb + c ≤ a) : bw_rw g A' eb c M w := by
  subst hA
  intro i hi
  rw [bw_nw_ne (by omega)]
  exact h i hi
section BWQ
variable {g : bw_G} {R : Room} {k : bw_M} {Q : bw_O → bw_H → Prop} {cu su pc : Nat} {lv : List (Nat × Value)} {st : List Value} {A : bw_H}
theorem bw_multiU {N M i a : Nat} (pc' : Nat) (hd : decode k.2.1 pc = .ok (.multianewarray i 2, 4)) (hp : pc + 4 = pc') (hw2 : Cond.arrayClass .int ∈ bw_uw) (hlk : Cond.classLink k.1.cls i "[[I" ∈ bw_uw) (hb : N ≤ 134217728 ∧ M ≤ 134217728) (hc : cu + (1 + N) ≤ R.cells) (hsl : su + (N + N * M) ≤ R.slots) (hz : A.1 = a)
    (kk : ∀ A' : bw_H, A' = bw_mna g N M A → bw_W g R k Q (cu + 1 + N) (su + N + N * M) pc' lv (.ref a :: st) A') : bw_W g R k Q cu su pc lv (.int (nI M) :: .int (nI N) :: st) A := by
  subst hz
  exact bw_multi pc' hd hp hw2 hlk (nI_pos (by omega)) (nI_pos (by omega)) (nI_clamp (by omega)) (nI_clamp (by omega)) hb.1 hb.2 hc hsl (kk _ rfl)
theorem bw_aastN {a n t v ci j : Nat} {r : vw_C} {vs : List Value} {f G : Nat → Option Nat} (pc' : Nat) (hd : decode k.2.1 pc = .ok (.aastore, 1)) (hp : pc + 1 = pc') (ht : (bw_ty g.2.1)[t]? = some (g.2.1 t, .object r.1)) (hc : vwCl[ci]? = some r) (ha : A.2 a = some (bw_aq g t n f)) (hv0 : A.2 v = some (.inr (ci, vs))) (hj : j < n) (hn : n < 2 ^ 31) (hG : (fun i => if i = j then some v else f i) = G)
    (kk : ∀ A' : bw_H, A' = bw_up A a (bw_aq g t n G) → bw_W g R k Q cu su pc' lv st A') : bw_W g R k Q cu su pc lv (.ref v :: .int (nI j) :: .ref a :: st) A := by
  refine bw_aastU pc' hd hp ht hc ha hv0 (vp_in_nI hj hn) (fun A' h => kk A' ?_)
  rw [h, ← hG]
  refine congrArg (fun f => bw_up A a (bw_aq g t n f)) ?_
  funext i
  rw [nI_clamp (by omega)]
  rfl
end BWQ
theorem bw_has.gr {A A' : bw_H} {ws us : List (Nat × va_E)} {x y : Nat} {e : va_E} (h : bw_has A (ws ++ [(x, e)])) (hok : ∀ (a : Nat) (e : va_E), A.2 a = some e → a < A.1) (hz : A.1 = y) (hy : y = x + 1) (hfr : bw_gw x A A') (h3 : bw_has A' us) (hge : ∀ a ∈ us.map Prod.fst, x ≤ a) : bw_has A' (ws ++ us) := by
  obtain ⟨h1, h2, hd⟩ := h.spl
  have hlt : ∀ q ∈ ws, q.1 < x := by
    intro q hq
    have := hok _ _ (h1.1 q hq)
    have := hd q hq (x, e) (by simp)
    simp only at this
    omega
  refine bw_has.app ⟨fun q hq => ?_, h1.2⟩ h3 (fun p hp q hq he => ?_)
  · rw [hfr q.1 (hlt q hq)]
    exact h1.1 q hq
  · have := hlt p hp
    have := hge q.1 (List.mem_map_of_mem hq)
    omega
/-- what a constructor leaves: k cells more -/
def bw_pn (x k : Nat) (us : List (Nat × va_E)) (A0 A' : bw_H) : Prop := A'.1 = x + 1 + k ∧ bw_gw x A0 A' ∧ bw_has A' us
set_option maxHeartbeats 4000000 in
set_option maxRecDepth 100000 in
theorem c7_init (g : bw_G) {A0 : bw_H} {x N : Nat} (hC : bw_has A0 [(x, .inr (9, [.null, .int 0, .null]))]) (hz : A0.1 = x + 1) (hN : N < 2 ^ 20) :
    bw_C g (bw_rm 1 1 N) mX7_init [.ref x, .int (nI N)] A0 (bw_pv (bw_pn x 1 (pcl g x N (fun _ => 0) 0 .null) A0)) := by
  have hW : bw_gw x A0 A0 := bw_gw.rf
  refine bw_C.of (by decide) (Nat.le_of_ble_eq_true rfl) rfl ?_
  refine bw_aload_n 1 dX7_init_0 rfl rfl ?_
  refine bw_objInit 4 dX7_init_1 rfl oX7_3 bw_oI bw_oC (Nat.le_of_ble_eq_true rfl) (Nat.le_of_ble_eq_true rfl) ?_
  refine bw_aload_n 5 dX7_init_4 rfl rfl ?_
  refine bw_iconst (-1) 6 dX7_init_5 (by decide) rfl ?_
  refine bw_eqi (tI_0.symm) ?_
  refine bw_putU 9 dX7_init_6 rfl pX7_9 (hC.at 0 rfl) rfl rfl (Nat.le_of_ble_eq_true rfl) (fun A hU => ?_)
  have hC := hC.upd 0 rfl hU
  have hz := (congrArg Prod.fst hU).trans hz
  have hW := hW.upd hU (by omega)
  clear hU
  refine bw_aload_n 10 dX7_init_9 rfl rfl ?_
  refine bw_null 11 dX7_init_10 rfl ?_
  refine bw_putU 14 dX7_init_11 rfl pX7_15 (hC.at 0 rfl) rfl rfl (Nat.le_of_ble_eq_true rfl) (fun A hU => ?_)
  have hC := hC.upd 0 rfl hU
  have hz := (congrArg Prod.fst hU).trans hz
  have hW := hW.upd hU (by omega)
  clear hU
  refine bw_aload_n 15 dX7_init_14 rfl rfl ?_
  refine bw_iload_n 16 dX7_init_15 rfl rfl ?_
  refine bw_ok (fun hok => ?_)
  refine bw_newiU 18 dX7_init_16 rfl bw_wI (by exact nI_pos (by omega)) (by exact nI_clamp (by omega)) (by omega) (Nat.le_of_ble_eq_true rfl) (Nat.le_of_eq (Nat.zero_add N)) hz (fun A hU => ?_)
  have hC := hC.nwda hok hz hU
  have hW := hW.nwd hU hz (by omega)
  have hz := (congrArg Prod.fst hU).trans (congrArg (· + 1) hz)
  clear hU hok
  refine bw_putFU 21 dX7_init_18 rfl pX7_19 rfl (hC.at 0 rfl) rfl rfl (Nat.le_of_ble_eq_true rfl) (fun A hU => ?_)
  have hC := hC.upd 0 rfl hU
  have hz := (congrArg Prod.fst hU).trans hz
  have hW := hW.upd hU (by omega)
  clear hU
  refine bw_vret dX7_init_21 rfl (Nat.le_of_ble_eq_true rfl) (Nat.le_of_eq (Nat.zero_add N)) ?_
  exact ⟨rfl, hz, hW, hC⟩
set_option maxHeartbeats 4000000 in
set_option maxRecDepth 100000 in
theorem c5_init (g : bw_G) {A0 : bw_H} {x r c : Nat} (hC : bw_has A0 [(x, .inr (7, [.int 0, .int 0, .null]))]) (hz : A0.1 = x + 1) (hr : r ≤ 8) (hc : c ≤ 8) :
    bw_C g (bw_rm 1 1 (r * c)) mX5_init [.ref x, .int (nI r), .int (nI c)] A0 (bw_pv (bw_pn x 1 (mcl g x r c (fun _ => 0)) A0)) := by
  have hrc : r * c ≤ 64 := Nat.mul_le_mul hr hc
  have hW : bw_gw x A0 A0 := bw_gw.rf
  refine bw_C.of (by decide) (Nat.le_of_ble_eq_true rfl) rfl ?_
  refine bw_aload_n 1 dX5_init_0 rfl rfl ?_
  refine bw_objInit 4 dX5_init_1 rfl oX5_1 bw_oI bw_oC (Nat.le_of_ble_eq_true rfl) (Nat.le_of_ble_eq_true rfl) ?_
  refine bw_aload_n 5 dX5_init_4 rfl rfl ?_
  refine bw_iload_n 6 dX5_init_5 rfl rfl ?_
  refine bw_putFU 9 dX5_init_6 rfl pX5_7 rfl (hC.at 0 rfl) rfl rfl (Nat.le_of_ble_eq_true rfl) (fun A hU => ?_)
  have hC := hC.upd 0 rfl hU
  have hz := (congrArg Prod.fst hU).trans hz
  have hW := hW.upd hU (by omega)
  clear hU
  refine bw_aload_n 10 dX5_init_9 rfl rfl ?_
  refine bw_iload_n 11 dX5_init_10 rfl rfl ?_
  refine bw_putFU 14 dX5_init_11 rfl pX5_13 rfl (hC.at 0 rfl) rfl rfl (Nat.le_of_ble_eq_true rfl) (fun A hU => ?_)
  have hC := hC.upd 0 rfl hU
  have hz := (congrArg Prod.fst hU).trans hz
  have hW := hW.upd hU (by omega)
  clear hU
  refine bw_aload_n 15 dX5_init_14 rfl rfl ?_
  refine bw_iload_n 16 dX5_init_15 rfl rfl ?_
  refine bw_iload_n 17 dX5_init_16 rfl rfl ?_
  refine bw_imul 18 dX5_init_17 rfl ?_
  refine bw_eqi (pk_mul r c) ?_
  refine bw_ok (fun hok => ?_)
  refine bw_newiU 20 dX5_init_18 rfl bw_wI (by exact nI_pos (by omega)) (by exact nI_clamp (by omega)) (by omega) (Nat.le_of_ble_eq_true rfl) (Nat.le_of_eq (Nat.zero_add (r * c))) hz (fun A hU => ?_)
  have hC := hC.nwda hok hz hU
  have hW := hW.nwd hU hz (by omega)
  have hz := (congrArg Prod.fst hU).trans (congrArg (· + 1) hz)
  clear hU hok
  refine bw_putFU 23 dX5_init_20 rfl pX5_16 rfl (hC.at 0 rfl) rfl rfl (Nat.le_of_ble_eq_true rfl) (fun A hU => ?_)
  have hC := hC.upd 0 rfl hU
  have hz := (congrArg Prod.fst hU).trans hz
  have hW := hW.upd hU (by omega)
  clear hU
  refine bw_vret dX5_init_23 rfl (Nat.le_of_ble_eq_true rfl) (Nat.le_of_eq (Nat.zero_add (r * c))) ?_
  exact ⟨rfl, hz, hW, hC⟩
set_option maxHeartbeats 4000000 in
set_option maxRecDepth 100000 in
theorem c0_init (g : bw_G) {A0 : bw_H} {x F : Nat} (hC : bw_has A0 [(x, .inr (2, [.null]))]) (hz : A0.1 = x + 1) :
    bw_C g (bw_rm 1 0 0) mX0_init [.ref x, .ref F] A0 (bw_pv (bw_pn x 0 [(x, dob F)] A0)) := by
  have hW : bw_gw x A0 A0 := bw_gw.rf
  refine bw_C.of (by decide) (Nat.le_of_ble_eq_true rfl) rfl ?_
  refine bw_aload_n 1 dX0_init_0 rfl rfl ?_
  refine bw_objInit 4 dX0_init_1 rfl oX0_3 bw_oI bw_oC (Nat.le_of_ble_eq_true rfl) (Nat.le_of_ble_eq_true rfl) ?_
  refine bw_aload_n 5 dX0_init_4 rfl rfl ?_
  refine bw_aload_n 6 dX0_init_5 rfl rfl ?_
  refine bw_putFU 9 dX0_init_6 rfl pX0_9 rfl (hC.at 0 rfl) rfl rfl (Nat.le_of_ble_eq_true rfl) (fun A hU => ?_)
  have hC := hC.upd 0 rfl hU
  have hz := (congrArg Prod.fst hU).trans hz
  have hW := hW.upd hU (by omega)
  clear hU
  refine bw_vret dX0_init_9 rfl (Nat.le_of_ble_eq_true rfl) (Nat.le_of_ble_eq_true rfl) ?_
  exact ⟨rfl, hz, hW, hC⟩
set_option maxHeartbeats 4000000 in
set_option maxRecDepth 100000 in
theorem c4_init (g : bw_G) {A0 : bw_H} {x F : Nat} (hC : bw_has A0 [(x, .inr (6, [.null, .null, .null]))]) (hz : A0.1 = x + 1) :
    bw_C g (bw_rm 1 2 130) mX4_init [.ref x, .ref F] A0 (bw_pv (bw_pn x 2 [(x, iob F (x + 1) (x + 2)), (x + 1, bw_an g 65 (fun _ => 0)), (x + 2, bw_an g 65 (fun _ => 0))] A0)) := by
  have hW : bw_gw x A0 A0 := bw_gw.rf
  refine bw_C.of (by decide) (Nat.le_of_ble_eq_true rfl) rfl ?_
  refine bw_aload_n 1 dX4_init_0 rfl rfl ?_
  refine bw_objInit 4 dX4_init_1 rfl oX4_3 bw_oI bw_oC (Nat.le_of_ble_eq_true rfl) (Nat.le_of_ble_eq_true rfl) ?_
  refine bw_aload_n 5 dX4_init_4 rfl rfl ?_
  refine bw_bipush (65) 7 dX4_init_5 (by decide) rfl ?_
  refine bw_eqi (y := nI 65) rfl ?_
  refine bw_ok (fun hok => ?_)
  refine bw_newiU 9 dX4_init_7 rfl bw_wI (by exact nI_pos (by omega)) (by exact nI_clamp (by omega)) (by omega) (Nat.le_of_ble_eq_true rfl) (Nat.le_of_ble_eq_true rfl) hz (fun A hU => ?_)
  have hC := hC.nwda hok hz hU
  have hW := hW.nwd hU hz (by omega)
  have hz := (congrArg Prod.fst hU).trans (congrArg (· + 1) hz)
  clear hU hok
  refine bw_putFU 12 dX4_init_9 rfl pX4_9 rfl (hC.at 0 rfl) rfl rfl (Nat.le_of_ble_eq_true rfl) (fun A hU => ?_)
  have hC := hC.upd 0 rfl hU
  have hz := (congrArg Prod.fst hU).trans hz
  have hW := hW.upd hU (by omega)
  clear hU
  refine bw_aload_n 13 dX4_init_12 rfl rfl ?_
  refine bw_bipush (65) 15 dX4_init_13 (by decide) rfl ?_
  refine bw_eqi (y := nI 65) rfl ?_
  refine bw_ok (fun hok => ?_)
  refine bw_newiU 17 dX4_init_15 rfl bw_wI (by exact nI_pos (by omega)) (by exact nI_clamp (by omega)) (by omega) (Nat.le_of_ble_eq_true rfl) (Nat.le_of_ble_eq_true rfl) hz (fun A hU => ?_)
  have hC := hC.nwda hok hz hU
  have hW := hW.nwd hU hz (by omega)
  have hz := (congrArg Prod.fst hU).trans (congrArg (· + 1) hz)
  clear hU hok
  refine bw_putFU 20 dX4_init_17 rfl pX4_15 rfl (hC.at 0 rfl) rfl rfl (Nat.le_of_ble_eq_true rfl) (fun A hU => ?_)
  have hC := hC.upd 0 rfl hU
  have hz := (congrArg Prod.fst hU).trans hz
  have hW := hW.upd hU (by omega)
  clear hU
  refine bw_aload_n 21 dX4_init_20 rfl rfl ?_
  refine bw_aload_n 22 dX4_init_21 rfl rfl ?_
  refine bw_putFU 25 dX4_init_22 rfl pX4_18 rfl (hC.at 0 rfl) rfl rfl (Nat.le_of_ble_eq_true rfl) (fun A hU => ?_)
  have hC := hC.upd 0 rfl hU
  have hz := (congrArg Prod.fst hU).trans hz
  have hW := hW.upd hU (by omega)
  clear hU
  refine bw_vret dX4_init_25 rfl (Nat.le_of_ble_eq_true rfl) (Nat.le_of_ble_eq_true rfl) ?_
  exact ⟨rfl, hz, hW, hC⟩
set_option maxHeartbeats 4000000 in
set_option maxRecDepth 100000 in
theorem c1_init (g : bw_G) {A0 : bw_H} {x F : Nat} (hC : bw_has A0 [(x, .inr (3, [.null, .null, .null, .int 0, .int 0, .int 0, .int 0]))]) (hz : A0.1 = x + 1) :
    bw_C g (bw_rm 1 10 144) mX1_init [.ref x, .ref F] A0 (bw_pv (fun A' => A'.1 = x + 11 ∧ bw_gw x A0 A' ∧ bw_has A' [(x, eob F (x + 1) (x + 10) 0 0 0 0), (x + 1, eco g (x + 1) 8), (x + 10, bw_ao g 8 (fun _ => some 0))] ∧ bw_rw g A' (x + 2) 8 16 (fun _ _ => 0))) := by
  have hW : bw_gw x A0 A0 := bw_gw.rf
  refine bw_C.of (by decide) (Nat.le_of_ble_eq_true rfl) rfl ?_
  refine bw_aload_n 1 dX1_init_0 rfl rfl ?_
  refine bw_objInit 4 dX1_init_1 rfl oX1_3 bw_oI bw_oC (Nat.le_of_ble_eq_true rfl) (Nat.le_of_ble_eq_true rfl) ?_
  refine bw_aload_n 5 dX1_init_4 rfl rfl ?_
  refine bw_bipush (8) 7 dX1_init_5 (by decide) rfl ?_
  refine bw_eqi (y := nI 8) rfl ?_
  refine bw_bipush (16) 9 dX1_init_7 (by decide) rfl ?_
  refine bw_eqi (y := nI 16) rfl ?_
  refine bw_ok (fun hok => ?_)
  refine bw_multiU 13 dX1_init_9 rfl bw_wI cX1_9 (by omega) (Nat.le_of_ble_eq_true rfl) (Nat.le_of_ble_eq_true rfl) hz (fun A hU => ?_)
  have hR := bw_mna_rw hz hU
  have hC := hC.mna hok hz hU
  have hW := hW.mna hU hz (by omega)
  have hz := bw_mna_sz hz hU
  clear hU hok
  refine bw_putFU 16 dX1_init_13 rfl pX1_11 rfl (hC.at 0 rfl) rfl rfl (Nat.le_of_ble_eq_true rfl) (fun A hU => ?_)
  have hR := hR.frm (bw_up_sm hU) (by simp; omega)
  have hC := hC.upd 0 rfl hU
  have hW := hW.upd hU (by omega)
  have hz := (congrArg Prod.fst hU).trans hz
  skip
  refine bw_aload_n 17 dX1_init_16 rfl rfl ?_
  refine bw_bipush (8) 19 dX1_init_17 (by decide) rfl ?_
  refine bw_eqi (y := nI 8) rfl ?_
  refine bw_ok (fun hok => ?_)
  refine bw_newiU 21 dX1_init_19 rfl bw_wI (by exact nI_pos (by omega)) (by exact nI_clamp (by omega)) (by omega) (Nat.le_of_ble_eq_true rfl) (Nat.le_of_ble_eq_true rfl) hz (fun A hU => ?_)
  have hC := hC.nwda hok hz hU
  have hW := hW.nwd hU hz (by omega)
  have hR := hR.nwd hU hz (by omega)
  have hz := (congrArg Prod.fst hU).trans (congrArg (· + 1) hz)
  clear hU hok
  refine bw_putFU 24 dX1_init_21 rfl pX1_16 rfl (hC.at 0 rfl) rfl rfl (Nat.le_of_ble_eq_true rfl) (fun A hU => ?_)
  have hR := hR.frm (bw_up_sm hU) (by simp; omega)
  have hC := hC.upd 0 rfl hU
  have hW := hW.upd hU (by omega)
  have hz := (congrArg Prod.fst hU).trans hz
  refine bw_aload_n 25 dX1_init_24 rfl rfl ?_
  refine bw_aload_n 26 dX1_init_25 rfl rfl ?_
  refine bw_putFU 29 dX1_init_26 rfl pX1_20 rfl (hC.at 0 rfl) rfl rfl (Nat.le_of_ble_eq_true rfl) (fun A hU => ?_)
  have hR := hR.frm (bw_up_sm hU) (by simp; omega)
  have hC := hC.upd 0 rfl hU
  have hW := hW.upd hU (by omega)
  have hz := (congrArg Prod.fst hU).trans hz
  refine bw_vret dX1_init_29 rfl (Nat.le_of_ble_eq_true rfl) (Nat.le_of_ble_eq_true rfl) ?_
  exact ⟨rfl, hz, hW, hC, hR⟩
set_option maxHeartbeats 4000000 in
set_option maxRecDepth 100000 in
theorem c6_init (g : bw_G) {A0 : bw_H} {x F : Nat} (hC : bw_has A0 [(x, .inr (8, [.null, .null]))]) (hz : A0.1 = x + 1) :
    bw_C g (bw_rm 1 10 2313) mX6_init [.ref x, .ref F] A0 (bw_pv (fun A' => A'.1 = x + 11 ∧ bw_gw x A0 A' ∧ bw_has A' [(x, nob F (x + 1)), (x + 1, eco g (x + 1) 9)] ∧ bw_rw g A' (x + 2) 9 256 (fun _ _ => 0))) := by
  have hW : bw_gw x A0 A0 := bw_gw.rf
  refine bw_C.of (by decide) (Nat.le_of_ble_eq_true rfl) rfl ?_
  refine bw_aload_n 1 dX6_init_0 rfl rfl ?_
  refine bw_objInit 4 dX6_init_1 rfl oX6_3 bw_oI bw_oC (Nat.le_of_ble_eq_true rfl) (Nat.le_of_ble_eq_true rfl) ?_
  refine bw_aload_n 5 dX6_init_4 rfl rfl ?_
  refine bw_bipush (9) 7 dX6_init_5 (by decide) rfl ?_
  refine bw_eqi (y := nI 9) rfl ?_
  refine bw_sipush (256) 10 dX6_init_7 (by decide) rfl ?_
  refine bw_eqi (y := nI 256) rfl ?_
  refine bw_ok (fun hok => ?_)
  refine bw_multiU 14 dX6_init_10 rfl bw_wI cX6_9 (by omega) (Nat.le_of_ble_eq_true rfl) (Nat.le_of_ble_eq_true rfl) hz (fun A hU => ?_)
  have hR := bw_mna_rw hz hU
  have hC := hC.mna hok hz hU
  have hW := hW.mna hU hz (by omega)
  have hz := bw_mna_sz hz hU
  clear hU hok
  refine bw_putFU 17 dX6_init_14 rfl pX6_11 rfl (hC.at 0 rfl) rfl rfl (Nat.le_of_ble_eq_true rfl) (fun A hU => ?_)
  have hR := hR.frm (bw_up_sm hU) (by simp; omega)
  have hC := hC.upd 0 rfl hU
  have hW := hW.upd hU (by omega)
  have hz := (congrArg Prod.fst hU).trans hz
  refine bw_aload_n 18 dX6_init_17 rfl rfl ?_
  refine bw_aload_n 19 dX6_init_18 rfl rfl ?_
  refine bw_putFU 22 dX6_init_19 rfl pX6_16 rfl (hC.at 0 rfl) rfl rfl (Nat.le_of_ble_eq_true rfl) (fun A hU => ?_)
  have hR := hR.frm (bw_up_sm hU) (by simp; omega)
  have hC := hC.upd 0 rfl hU
  have hW := hW.upd hU (by omega)
  have hz := (congrArg Prod.fst hU).trans hz
  refine bw_vret dX6_init_22 rfl (Nat.le_of_ble_eq_true rfl) (Nat.le_of_ble_eq_true rfl) ?_
  exact ⟨rfl, hz, hW, hC, hR⟩
