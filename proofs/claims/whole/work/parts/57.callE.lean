/-! the class's calls: polynomials -/
theorem bw_ff.has {a : Nat} {L : List Nat} {A0 A : bw_H} {ws : List (Nat × va_E)} (h : bw_ff a L A0 A) (hp : bw_has A0 ws) (hd : ∀ q ∈ ws.map Prod.fst, q < a ∧ q ∉ L) : bw_has A ws :=
  ⟨fun q hq => by
    obtain ⟨h1, h2⟩ := hd q.1 (List.mem_map_of_mem (f := Prod.fst) hq)
    rw [h q.1 h1 h2]
    exact hp.1 q hq, hp.2⟩
theorem bw_ff.po {g : bw_G} {a : Nat} {L : List Nat} {A0 A A' : bw_H} {c N m : Nat} {f : Nat → Nat} {w : Value} (h : bw_ff a L A0 A) (hA : A' = bw_po g A c N f m w) (h1 : a ≤ c ∨ c ∈ L) (h2 : a ≤ c + 1 ∨ c + 1 ∈ L) : bw_ff a L A0 A' := (h.upd rfl h2).upd hA h1
theorem bw_ff.trans {a b : Nat} {L L' : List Nat} {A0 A A' : bw_H} (h : bw_ff a L A0 A) (h' : bw_ff b L' A A') (hab : a ≤ b) (hs : ∀ c ∈ L', c ∈ L) : bw_ff a L A0 A' := fun c h1 h2 => (h' c (by omega) (fun hc => h2 (hs c hc))).trans (h c h1 h2)
theorem bw_has.ap {A : bw_H} {ws us : List (Nat × va_E)} (h1 : bw_has A ws) (h2 : bw_has A us) (hd : ∀ p ∈ ws.map Prod.fst, p ∉ us.map Prod.fst) : bw_has A (ws ++ us) := h1.app h2 (fun p hp q hq e => hd p.1 (List.mem_map_of_mem (f := Prod.fst) hp) (by rw [e]; exact List.mem_map_of_mem (f := Prod.fst) hq))
/-- a polynomial more is kept; what is worked in holds it too -/
def kqP (g : bw_G) (x n rn mn pn sn a : Nat) (PA : Nat → Option Nat) (f : Nat → Nat) (L : List Nat) (A0 : bw_H) (y : Int32) (A' : bw_H) : Prop := y = nI pn ∧ A'.1 = a + 2 ∧ bw_has A' ((x, xob x n rn mn (pn + 1) sn) :: (x + 7, bw_aq g 4 40 (fun i => if i = pn then some a else PA i)) :: (ppl g (x + 1) 129 f .null ++ ppl g a 65 f .null)) ∧ bw_ff a L A0 A'
theorem kq_of {g : bw_G} {x n rn mn pn sn a : Nat} {PA : Nat → Option Nat} {f : Nat → Nat} {L : List Nat} {A0 A A' : bw_H} {y : Int32} (hP : kpP g x n rn mn pn sn a PA f A y A') (hw : bw_has A (ppl g (x + 1) 129 f .null)) (hW : bw_ff a L A0 A) (hL : x ∈ L ∧ x + 7 ∈ L) (hx : x + 11 ≤ a) : kqP g x n rn mn pn sn a PA f L A0 y A' := by
  obtain ⟨h1, h2, h3, h4⟩ := hP
  have h5 := h4.ff.has hw (by simp <;> omega)
  refine ⟨h1, h2, ((h3.ap h5 (by simp <;> omega)).sub [0, 1, 4, 5, 2, 3] (by decide) rfl), hW.trans h4.ff (Nat.le_refl a) (fun c hc => ?_)⟩
  rcases List.mem_cons.mp hc with e | hc
  · rw [e]; exact hL.1
  · rw [List.mem_singleton.mp hc]; exact hL.2
theorem k9_degree (g : bw_G) {A : bw_H} {x n rn mn pn sn b k : Nat} {PA : Nat → Option Nat} {f : Nat → Nat} {w : Value} (hC : bw_has A ((x, xob x n rn mn pn sn) :: (x + 7, bw_aq g 4 40 PA) :: ppl g b 65 f w)) (hk : k < pn) (hm : pn ≤ 40) (ha : PA k = some b) : bw_C g (bw_rm 8 20 200) mX9_degree [.ref x, .int (nI k)] A (bw_pi (tI (pd f)) A) := by
  refine bw_C.of (by decide) (Nat.le_of_ble_eq_true rfl) rfl ?_
  refine bw_aload_n 1 dX9_degree_0 rfl rfl ?_
  refine bw_iload_n 2 dX9_degree_1 rfl rfl ?_
  refine bw_cVr 5 dX9_degree_2 rfl vX9_257 (c9_pa g (hC.sub [0, 1] (by decide) rfl) hk hm ha) (hC.at 0 rfl) rfl rfl (Nat.le_of_ble_eq_true rfl) ⟨(Nat.le_of_ble_eq_true rfl), (Nat.le_of_ble_eq_true rfl)⟩ (Nat.le_of_ble_eq_true rfl) (Nat.le_of_ble_eq_true rfl) ?_
  refine bw_get 8 dX9_degree_5 rfl lX9_261 (hC.at 2 rfl) rfl ?_
  refine bw_iret dX9_degree_8 rfl (Nat.le_of_ble_eq_true rfl) (Nat.le_of_ble_eq_true rfl) ?_
  exact ⟨rfl, rfl⟩
theorem k9_degreeX (g : bw_G) {A : bw_H} {x n rn mn pn sn : Nat} {a : Int32} (hC : bw_has A [(x, xob x n rn mn pn sn)]) (h : ¬ kI pn a) : bw_C g (bw_rm 8 20 200) mX9_degree [.ref x, .int a] A (bw_pz eIO A) := by
  refine bw_C.of (by decide) (Nat.le_of_ble_eq_true rfl) rfl ?_
  refine bw_aload_n 1 dX9_degree_0 rfl rfl ?_
  refine bw_iload_n 2 dX9_degree_1 rfl rfl ?_
  refine bw_cVz 5 dX9_degree_2 rfl vX9_257 (c9_paX g hC h) (hC.at 0 rfl) rfl rfl (Nat.le_of_ble_eq_true rfl) ⟨(Nat.le_of_ble_eq_true rfl), (Nat.le_of_ble_eq_true rfl)⟩ (Nat.le_of_ble_eq_true rfl) (Nat.le_of_ble_eq_true rfl) rfl ?_
  exact fun m hm => ⟨rfl, m, hm, rfl⟩
theorem k9_coefficient (g : bw_G) {A : bw_H} {x n rn mn pn sn b k j : Nat} {PA : Nat → Option Nat} {f : Nat → Nat} {w : Value} (hC : bw_has A ((x, xob x n rn mn pn sn) :: (x + 7, bw_aq g 4 40 PA) :: ppl g b 65 f w)) (hf : pok n 65 f) (hk : k < pn) (hm : pn ≤ 40) (ha : PA k = some b) (hj : j < 2 ^ 31) : bw_C g (bw_rm 8 20 200) mX9_coefficient [.ref x, .int (nI k), .int (nI j)] A (bw_pi (nI (f j)) A) := by
  have hp := hf.le (by omega)
  refine bw_C.of (by decide) (Nat.le_of_ble_eq_true rfl) rfl ?_
  refine bw_aload_n 1 dX9_coefficient_0 rfl rfl ?_
  refine bw_iload_n 2 dX9_coefficient_1 rfl rfl ?_
  refine bw_cVr 5 dX9_coefficient_2 rfl vX9_257 (c9_pa g (hC.sub [0, 1] (by decide) rfl) hk hm ha) (hC.at 0 rfl) rfl rfl (Nat.le_of_ble_eq_true rfl) ⟨(Nat.le_of_ble_eq_true rfl), (Nat.le_of_ble_eq_true rfl)⟩ (Nat.le_of_ble_eq_true rfl) (Nat.le_of_ble_eq_true rfl) ?_
  refine bw_astore_n 6 dX9_coefficient_5 rfl (by decide) ?_
  refine bw_iload_n 7 dX9_coefficient_6 rfl rfl ?_
  refine bw_if_ge 21 10 dX9_coefficient_7 rfl rfl (fun c7 => ?_) (fun c7 => ?_)
  · refine bw_iload_n 22 dX9_coefficient_21 rfl rfl ?_
    refine bw_aload_n 23 dX9_coefficient_22 rfl rfl ?_
    refine bw_get 26 dX9_coefficient_23 rfl lX9_261 (hC.at 2 rfl) rfl ?_
    refine bw_icmp_gt 38 29 dX9_coefficient_26 rfl rfl (fun c26 => ?_) (fun c26 => ?_)
    · have hz : f j = 0 := hf.z (by omega) j ((tI_ltk (by omega) hj).mp c26)
      refine bw_iconst (0) 39 dX9_coefficient_38 (by decide) rfl ?_
      refine bw_eqi (y := nI 0) rfl ?_
      refine bw_eqi (show nI 0 = nI (f j) by rw [hz]) ?_
      refine bw_iret dX9_coefficient_39 rfl (Nat.le_of_ble_eq_true rfl) (Nat.le_of_ble_eq_true rfl) ?_
      exact ⟨rfl, rfl⟩
    · have hlt : j < pd f := Nat.not_le.mp (fun h => c26 ((tI_ltk (by omega) hj).mpr h))
      refine bw_aload_n 30 dX9_coefficient_29 rfl rfl ?_
      refine bw_get 33 dX9_coefficient_30 rfl lX9_266 (hC.at 2 rfl) rfl ?_
      refine bw_iload_n 34 dX9_coefficient_33 rfl rfl ?_
      refine bw_ialdN 35 dX9_coefficient_34 rfl (hC.at 3 rfl) (by omega) (by omega) ?_
      refine bw_goto 39 dX9_coefficient_35 rfl ?_
      refine bw_iret dX9_coefficient_39 rfl (Nat.le_of_ble_eq_true rfl) (Nat.le_of_ble_eq_true rfl) ?_
      exact ⟨rfl, rfl⟩
  · exact absurd (Int32.not_lt.mp (nI_pos hj)) c7
theorem k9_coefficientY (g : bw_G) {A : bw_H} {x n rn mn pn sn b k : Nat} {j : Int32} {PA : Nat → Option Nat} (hC : bw_has A [(x, xob x n rn mn pn sn), (x + 7, bw_aq g 4 40 PA)]) (hk : k < pn) (hm : pn ≤ 40) (ha : PA k = some b) (h : j < 0) : bw_C g (bw_rm 8 20 200) mX9_coefficient [.ref x, .int (nI k), .int j] A (bw_pz eIO A) := by
  refine bw_C.of (by decide) (Nat.le_of_ble_eq_true rfl) rfl ?_
  refine bw_aload_n 1 dX9_coefficient_0 rfl rfl ?_
  refine bw_iload_n 2 dX9_coefficient_1 rfl rfl ?_
  refine bw_cVr 5 dX9_coefficient_2 rfl vX9_257 (c9_pa g (hC.sub [0, 1] (by decide) rfl) hk hm ha) (hC.at 0 rfl) rfl rfl (Nat.le_of_ble_eq_true rfl) ⟨(Nat.le_of_ble_eq_true rfl), (Nat.le_of_ble_eq_true rfl)⟩ (Nat.le_of_ble_eq_true rfl) (Nat.le_of_ble_eq_true rfl) ?_
  refine bw_astore_n 6 dX9_coefficient_5 rfl (by decide) ?_
  refine bw_iload_n 7 dX9_coefficient_6 rfl rfl ?_
  refine bw_if_ge 21 10 dX9_coefficient_7 rfl rfl (fun c7 => ?_) (fun c7 => ?_)
  · exact absurd h (Int32.not_lt.mpr c7)
  · refine bw_throwW "a power below 0" dX9_coefficient_10 dX9_coefficient_13 dX9_coefficient_14 dX9_coefficient_17 dX9_coefficient_20 tX9_143 (by decide +kernel) rfl (Nat.le_of_ble_eq_true rfl) (Nat.le_of_ble_eq_true rfl) (Nat.le_of_ble_eq_true rfl) (Nat.le_of_ble_eq_true rfl) ?_
    exact fun m hm => ⟨rfl, m, hm, rfl⟩
theorem k9_coefficientX (g : bw_G) {A : bw_H} {x n rn mn pn sn : Nat} {a j : Int32} (hC : bw_has A [(x, xob x n rn mn pn sn)]) (h : ¬ kI pn a) : bw_C g (bw_rm 8 20 200) mX9_coefficient [.ref x, .int a, .int j] A (bw_pz eIO A) := by
  refine bw_C.of (by decide) (Nat.le_of_ble_eq_true rfl) rfl ?_
  refine bw_aload_n 1 dX9_coefficient_0 rfl rfl ?_
  refine bw_iload_n 2 dX9_coefficient_1 rfl rfl ?_
  refine bw_cVz 5 dX9_coefficient_2 rfl vX9_257 (c9_paX g hC h) (hC.at 0 rfl) rfl rfl (Nat.le_of_ble_eq_true rfl) ⟨(Nat.le_of_ble_eq_true rfl), (Nat.le_of_ble_eq_true rfl)⟩ (Nat.le_of_ble_eq_true rfl) (Nat.le_of_ble_eq_true rfl) rfl ?_
  exact fun m hm => ⟨rfl, m, hm, rfl⟩
theorem k9_value (g : bw_G) {A : bw_H} {x n p gg rn mn pn sn b k v : Nat} {PA : Nat → Option Nat} {f : Nat → Nat} {w : Value} (hG : GFg n p gg) (hC : bw_has A ((x, xob x n rn mn pn sn) :: (x + 7, bw_aq g 4 40 PA) :: (fcl g n p gg (x + 9) ++ ppl g b 65 f w))) (hf : pok n 65 f) (hk : k < pn) (hm : pn ≤ 40) (ha : PA k = some b) (hv : v < 2 ^ n) : bw_C g (bw_rm 8 20 200) mX9_value [.ref x, .int (nI k), .int (nI v)] A (bw_pi (nI (gvl n (2 ^ n ||| p) f v)) A) := by
  refine bw_C.of (by decide) (Nat.le_of_ble_eq_true rfl) rfl ?_
  refine bw_aload_n 1 dX9_value_0 rfl rfl ?_
  refine bw_iload_n 2 dX9_value_1 rfl rfl ?_
  refine bw_cVr 5 dX9_value_2 rfl vX9_257 (c9_pa g (hC.sub [0, 1] (by decide) rfl) hk hm ha) (hC.at 0 rfl) rfl rfl (Nat.le_of_ble_eq_true rfl) ⟨(Nat.le_of_ble_eq_true rfl), (Nat.le_of_ble_eq_true rfl)⟩ (Nat.le_of_ble_eq_true rfl) (Nat.le_of_ble_eq_true rfl) ?_
  refine bw_astore_n 6 dX9_value_5 rfl (by decide) ?_
  refine bw_aload_n 7 dX9_value_6 rfl rfl ?_
  refine bw_iload_n 8 dX9_value_7 rfl rfl ?_
  refine bw_cVv 11 dX9_value_8 rfl vX9_100 (c9_nm g (hC.sub [0, 2] (by decide) rfl) (mI_nI hG.p16 hv)) (hC.at 0 rfl) rfl rfl (Nat.le_of_ble_eq_true rfl) ⟨(Nat.le_of_ble_eq_true rfl), (Nat.le_of_ble_eq_true rfl)⟩ (Nat.le_of_ble_eq_true rfl) (Nat.le_of_ble_eq_true rfl) (fun A hP => ?_)
  subst hP
  refine bw_aload_n 12 dX9_value_11 rfl rfl ?_
  refine bw_aload_n 13 dX9_value_12 rfl rfl ?_
  refine bw_iload_n 14 dX9_value_13 rfl rfl ?_
  refine bw_cVi 17 dX9_value_14 rfl vX9_269 (c9_valueOf g hG (hC.sub [0, 2, 3, 4, 5] (by decide) rfl) hf hv) (hC.at 0 rfl) rfl rfl (Nat.le_of_ble_eq_true rfl) ⟨(Nat.le_of_ble_eq_true rfl), (Nat.le_of_ble_eq_true rfl)⟩ (Nat.le_of_ble_eq_true rfl) (Nat.le_of_ble_eq_true rfl) ?_
  refine bw_iret dX9_value_17 rfl (Nat.le_of_ble_eq_true rfl) (Nat.le_of_ble_eq_true rfl) ?_
  exact ⟨rfl, rfl⟩
theorem k9_valueY (g : bw_G) {A : bw_H} {x n p gg rn mn pn sn b k : Nat} {v : Int32} {PA : Nat → Option Nat} (hC : bw_has A [(x, xob x n rn mn pn sn), (x + 7, bw_aq g 4 40 PA), (x + 9, fob n p gg (x + 9))]) (hk : k < pn) (hm : pn ≤ 40) (ha : PA k = some b) (h : ¬ mI n v) : bw_C g (bw_rm 8 20 200) mX9_value [.ref x, .int (nI k), .int v] A (bw_pz eIA A) := by
  refine bw_C.of (by decide) (Nat.le_of_ble_eq_true rfl) rfl ?_
  refine bw_aload_n 1 dX9_value_0 rfl rfl ?_
  refine bw_iload_n 2 dX9_value_1 rfl rfl ?_
  refine bw_cVr 5 dX9_value_2 rfl vX9_257 (c9_pa g (hC.sub [0, 1] (by decide) rfl) hk hm ha) (hC.at 0 rfl) rfl rfl (Nat.le_of_ble_eq_true rfl) ⟨(Nat.le_of_ble_eq_true rfl), (Nat.le_of_ble_eq_true rfl)⟩ (Nat.le_of_ble_eq_true rfl) (Nat.le_of_ble_eq_true rfl) ?_
  refine bw_astore_n 6 dX9_value_5 rfl (by decide) ?_
  refine bw_aload_n 7 dX9_value_6 rfl rfl ?_
  refine bw_iload_n 8 dX9_value_7 rfl rfl ?_
  refine bw_cVz 11 dX9_value_8 rfl vX9_100 (c9_nmX g (hC.sub [0, 2] (by decide) rfl) h) (hC.at 0 rfl) rfl rfl (Nat.le_of_ble_eq_true rfl) ⟨(Nat.le_of_ble_eq_true rfl), (Nat.le_of_ble_eq_true rfl)⟩ (Nat.le_of_ble_eq_true rfl) (Nat.le_of_ble_eq_true rfl) rfl ?_
  exact fun m hm => ⟨rfl, m, hm, rfl⟩
theorem k9_valueX (g : bw_G) {A : bw_H} {x n rn mn pn sn : Nat} {a v : Int32} (hC : bw_has A [(x, xob x n rn mn pn sn)]) (h : ¬ kI pn a) : bw_C g (bw_rm 8 20 200) mX9_value [.ref x, .int a, .int v] A (bw_pz eIO A) := by
  refine bw_C.of (by decide) (Nat.le_of_ble_eq_true rfl) rfl ?_
  refine bw_aload_n 1 dX9_value_0 rfl rfl ?_
  refine bw_iload_n 2 dX9_value_1 rfl rfl ?_
  refine bw_cVz 5 dX9_value_2 rfl vX9_257 (c9_paX g hC h) (hC.at 0 rfl) rfl rfl (Nat.le_of_ble_eq_true rfl) ⟨(Nat.le_of_ble_eq_true rfl), (Nat.le_of_ble_eq_true rfl)⟩ (Nat.le_of_ble_eq_true rfl) (Nat.le_of_ble_eq_true rfl) rfl ?_
  exact fun m hm => ⟨rfl, m, hm, rfl⟩
set_option maxHeartbeats 4000000 in
set_option maxRecDepth 100000 in
theorem k9_plus (g : bw_G) {A0 : bw_H} {x n p gg rn mn pn sn a b b' k k' mw : Nat} {PA : Nat → Option Nat} {f f' fw : Nat → Nat} {w w' : Value} (hG : GFg n p gg) (hC : bw_has A0 ((x, xob x n rn mn pn sn) :: (x + 7, bw_aq g 4 40 PA) :: (pcl g (x + 1) 129 fw mw .null ++ fcl g n p gg (x + 9)))) (hww : pwk 129 fw mw) (hp : bw_has A0 (ppl g b 65 f w)) (hp' : bw_has A0 (ppl g b' 65 f' w')) (hz : A0.1 = a) (hf : pok n 65 f) (hf' : pok n 65 f') (hb : x + 22 ≤ b) (hb' : x + 22 ≤ b') (hba : b + 1 < a) (hba' : b' + 1 < a) (hk : k < pn) (hk' : k' < pn) (hm : pn < 40) (ha : PA k = some b) (ha' : PA k' = some b') : bw_C g (bw_rm 8 20 200) mX9_plus [.ref x, .int (nI k), .int (nI k')] A0 (bw_pm (kqP g x n rn mn pn sn a PA (gps n (2 ^ n ||| p) f f' 1) [x, x + 7, x + 1, x + 2] A0)) := by
  have h1 := hf.le (by omega)
  have h2 := hf'.le (by omega)
  have hW : bw_ff a [x, x + 7, x + 1, x + 2] A0 A0 := bw_ff.rf
  refine bw_C.of (by decide) (Nat.le_of_ble_eq_true rfl) rfl ?_
  refine bw_aload_n 1 dX9_plus_0 rfl rfl ?_
  refine bw_iload_n 2 dX9_plus_1 rfl rfl ?_
  refine bw_cVr 5 dX9_plus_2 rfl vX9_257 (c9_pa g (hC.sub [0, 1] (by decide) rfl) hk (by omega) ha) (hC.at 0 rfl) rfl rfl (Nat.le_of_ble_eq_true rfl) ⟨(Nat.le_of_ble_eq_true rfl), (Nat.le_of_ble_eq_true rfl)⟩ (Nat.le_of_ble_eq_true rfl) (Nat.le_of_ble_eq_true rfl) ?_
  refine bw_astore_n 6 dX9_plus_5 rfl (by decide) ?_
  refine bw_aload_n 7 dX9_plus_6 rfl rfl ?_
  refine bw_iload_n 8 dX9_plus_7 rfl rfl ?_
  refine bw_cVr 11 dX9_plus_8 rfl vX9_257 (c9_pa g (hC.sub [0, 1] (by decide) rfl) hk' (by omega) ha') (hC.at 0 rfl) rfl rfl (Nat.le_of_ble_eq_true rfl) ⟨(Nat.le_of_ble_eq_true rfl), (Nat.le_of_ble_eq_true rfl)⟩ (Nat.le_of_ble_eq_true rfl) (Nat.le_of_ble_eq_true rfl) ?_
  refine bw_astore 13 dX9_plus_11 rfl (by decide) ?_
  refine bw_aload_n 14 dX9_plus_13 rfl rfl ?_
  refine bw_cVv 17 dX9_plus_14 rfl vX9_237 (c9_np g (hC.sub [0] (by decide) rfl) hm) (hC.at 0 rfl) rfl rfl (Nat.le_of_ble_eq_true rfl) ⟨(Nat.le_of_ble_eq_true rfl), (Nat.le_of_ble_eq_true rfl)⟩ (Nat.le_of_ble_eq_true rfl) (Nat.le_of_ble_eq_true rfl) (fun A hP => ?_)
  subst hP
  refine bw_aload_n 18 dX9_plus_17 rfl rfl ?_
  refine bw_get 21 dX9_plus_18 rfl lX9_14 (hC.at 0 rfl) rfl ?_
  refine bw_aload_n 22 dX9_plus_21 rfl rfl ?_
  refine bw_cVv 25 dX9_plus_22 rfl vX9_273 (c7_copyP g hG.p16 (bw_has.ap (ws := pcl g (x + 1) 129 fw mw .null) (hC.sub [2, 3] (by decide) rfl) (hW.has hp (by simp <;> omega)) (by simp <;> omega)) (by omega) (by omega) hww hf (by omega)) (hC.at 2 rfl) rfl rfl (Nat.le_of_ble_eq_true rfl) ⟨(Nat.le_of_ble_eq_true rfl), (Nat.le_of_ble_eq_true rfl)⟩ (Nat.le_of_ble_eq_true rfl) (Nat.le_of_ble_eq_true rfl) (fun A hP => ?_)
  have hW := hW.po hP (Or.inr (by simp)) (Or.inr (by simp))
  have hz := (congrArg Prod.fst hP).trans hz
  have hC := hC.po 2 3 rfl rfl hP
  refine bw_aload_n 26 dX9_plus_25 rfl rfl ?_
  refine bw_get 29 dX9_plus_26 rfl lX9_14 (hC.at 0 rfl) rfl ?_
  refine bw_aload_n 30 dX9_plus_29 rfl rfl ?_
  refine bw_get 33 dX9_plus_30 rfl lX9_43 (hC.at 0 rfl) rfl ?_
  refine bw_aload 35 dX9_plus_33 rfl rfl ?_
  refine bw_iconst (1) 36 dX9_plus_35 (by decide) rfl ?_
  refine bw_eqi (y := nI 1) rfl ?_
  refine bw_cVv 39 dX9_plus_36 rfl vX9_277 (c7_addP g hG (bw_has.ap (ws := ppl g (x + 1) 129 f .null ++ fcl g n p gg (x + 9)) (hC.sub [2, 3, 4, 5] (by decide) rfl) (hW.has hp' (by simp <;> omega)) (by simp <;> omega)) (by omega) (by omega) (hf.mono (by omega)) hf' (by omega) hG.2.2.1.one) (hC.at 2 rfl) rfl rfl (Nat.le_of_ble_eq_true rfl) ⟨(Nat.le_of_ble_eq_true rfl), (Nat.le_of_ble_eq_true rfl)⟩ (Nat.le_of_ble_eq_true rfl) (Nat.le_of_ble_eq_true rfl) (fun A hP => ?_)
  have hW := hW.po hP (Or.inr (by simp)) (Or.inr (by simp))
  have hz := (congrArg Prod.fst hP).trans hz
  have hC := hC.po 2 3 rfl rfl hP
  refine bw_aload_n 40 dX9_plus_39 rfl rfl ?_
  refine bw_aload_n 41 dX9_plus_40 rfl rfl ?_
  refine bw_get 44 dX9_plus_41 rfl lX9_14 (hC.at 0 rfl) rfl ?_
  refine bw_cVm 47 dX9_plus_44 rfl vX9_243 (c9_keepPolynomial g hG.p16 (hC.sub [0, 1, 2, 3] (by decide) rfl) (by omega) (gps_ok hG.2.2.1 (hf.mono (by omega)) (hf'.mono (by omega)) hG.2.2.1.one) (Nat.le_trans (pd_le (gps_ok hG.2.2.1 hf hf' hG.2.2.1.one).1 (by omega)) (Nat.le_refl _)) hm hz) (hC.at 0 rfl) rfl rfl (Nat.le_of_ble_eq_true rfl) ⟨(Nat.le_of_ble_eq_true rfl), (Nat.le_of_ble_eq_true rfl)⟩ (Nat.le_of_ble_eq_true rfl) (Nat.le_of_ble_eq_true rfl) (fun x A hP => ?_)
  refine bw_iret dX9_plus_47 rfl (Nat.le_of_ble_eq_true rfl) (Nat.le_of_ble_eq_true rfl) ?_
  exact ⟨_, rfl, kq_of hP (hC.sub [2, 3] (by decide) rfl) hW (by simp) (by omega)⟩
theorem k9_plusY (g : bw_G) {A : bw_H} {x n rn mn pn sn b b' k k' : Nat} {PA : Nat → Option Nat} (hC : bw_has A [(x, xob x n rn mn pn sn), (x + 7, bw_aq g 4 40 PA)]) (hk : k < pn) (hk' : k' < pn) (hm : pn = 40) (ha : PA k = some b) (ha' : PA k' = some b') : bw_C g (bw_rm 8 20 200) mX9_plus [.ref x, .int (nI k), .int (nI k')] A (bw_pz eUO A) := by
  refine bw_C.of (by decide) (Nat.le_of_ble_eq_true rfl) rfl ?_
  refine bw_aload_n 1 dX9_plus_0 rfl rfl ?_
  refine bw_iload_n 2 dX9_plus_1 rfl rfl ?_
  refine bw_cVr 5 dX9_plus_2 rfl vX9_257 (c9_pa g (hC.sub [0, 1] (by decide) rfl) hk (by omega) ha) (hC.at 0 rfl) rfl rfl (Nat.le_of_ble_eq_true rfl) ⟨(Nat.le_of_ble_eq_true rfl), (Nat.le_of_ble_eq_true rfl)⟩ (Nat.le_of_ble_eq_true rfl) (Nat.le_of_ble_eq_true rfl) ?_
  refine bw_astore_n 6 dX9_plus_5 rfl (by decide) ?_
  refine bw_aload_n 7 dX9_plus_6 rfl rfl ?_
  refine bw_iload_n 8 dX9_plus_7 rfl rfl ?_
  refine bw_cVr 11 dX9_plus_8 rfl vX9_257 (c9_pa g (hC.sub [0, 1] (by decide) rfl) hk' (by omega) ha') (hC.at 0 rfl) rfl rfl (Nat.le_of_ble_eq_true rfl) ⟨(Nat.le_of_ble_eq_true rfl), (Nat.le_of_ble_eq_true rfl)⟩ (Nat.le_of_ble_eq_true rfl) (Nat.le_of_ble_eq_true rfl) ?_
  refine bw_astore 13 dX9_plus_11 rfl (by decide) ?_
  refine bw_aload_n 14 dX9_plus_13 rfl rfl ?_
  refine bw_cVz 17 dX9_plus_14 rfl vX9_237 (c9_npX g (hC.sub [0] (by decide) rfl) hm) (hC.at 0 rfl) rfl rfl (Nat.le_of_ble_eq_true rfl) ⟨(Nat.le_of_ble_eq_true rfl), (Nat.le_of_ble_eq_true rfl)⟩ (Nat.le_of_ble_eq_true rfl) (Nat.le_of_ble_eq_true rfl) rfl ?_
  exact fun m hm => ⟨rfl, m, hm, rfl⟩
theorem k9_plusX (g : bw_G) {A : bw_H} {x n rn mn pn sn : Nat} {a b : Int32} {PA : Nat → Option Nat} (hC : bw_has A [(x, xob x n rn mn pn sn), (x + 7, bw_aq g 4 40 PA)]) (hm : pn ≤ 40) (hs : ∀ k, k < pn → ∃ P, PA k = some P) (h : ¬ (kI pn a ∧ kI pn b)) : bw_C g (bw_rm 8 20 200) mX9_plus [.ref x, .int a, .int b] A (bw_pz eIO A) := by
  refine bw_C.of (by decide) (Nat.le_of_ble_eq_true rfl) rfl ?_
  by_cases ha : kI pn a
  · obtain ⟨k, hk, rfl⟩ := kI_of (by omega) ha
    obtain ⟨P, haL⟩ := hs k hk
    refine bw_aload_n 1 dX9_plus_0 rfl rfl ?_
    refine bw_iload_n 2 dX9_plus_1 rfl rfl ?_
    refine bw_cVr 5 dX9_plus_2 rfl vX9_257 (c9_pa g (hC.sub [0, 1] (by decide) rfl) hk hm haL) (hC.at 0 rfl) rfl rfl (Nat.le_of_ble_eq_true rfl) ⟨(Nat.le_of_ble_eq_true rfl), (Nat.le_of_ble_eq_true rfl)⟩ (Nat.le_of_ble_eq_true rfl) (Nat.le_of_ble_eq_true rfl) ?_
    refine bw_astore_n 6 dX9_plus_5 rfl (by decide) ?_
    refine bw_aload_n 7 dX9_plus_6 rfl rfl ?_
    refine bw_iload_n 8 dX9_plus_7 rfl rfl ?_
    refine bw_cVz 11 dX9_plus_8 rfl vX9_257 (c9_paX g (hC.sub [0] (by decide) rfl) (fun hb => h ⟨ha, hb⟩)) (hC.at 0 rfl) rfl rfl (Nat.le_of_ble_eq_true rfl) ⟨(Nat.le_of_ble_eq_true rfl), (Nat.le_of_ble_eq_true rfl)⟩ (Nat.le_of_ble_eq_true rfl) (Nat.le_of_ble_eq_true rfl) rfl ?_
    exact fun m hm => ⟨rfl, m, hm, rfl⟩
  · skip
    refine bw_aload_n 1 dX9_plus_0 rfl rfl ?_
    refine bw_iload_n 2 dX9_plus_1 rfl rfl ?_
    refine bw_cVz 5 dX9_plus_2 rfl vX9_257 (c9_paX g (hC.sub [0] (by decide) rfl) ha) (hC.at 0 rfl) rfl rfl (Nat.le_of_ble_eq_true rfl) ⟨(Nat.le_of_ble_eq_true rfl), (Nat.le_of_ble_eq_true rfl)⟩ (Nat.le_of_ble_eq_true rfl) (Nat.le_of_ble_eq_true rfl) rfl ?_
    exact fun m hm => ⟨rfl, m, hm, rfl⟩
