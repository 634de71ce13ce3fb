/-! the reference: its constructor, the arrays -/
set_option maxHeartbeats 400000 in
set_option maxRecDepth 100000 in
theorem m_init_167 (g : bw_G) {A0 A : bw_H} {M n gg j0 : Nat} {b s : Int32} (hb8 : ¬ b = 16 → n = 8) (hb16 : b = 16 → n = 16) (hG : GFg n ((s.toBitVec.toNat % 2 ^ n + j0) % 2 ^ n) gg) (hj1 : bpr (2 ^ n ||| ((s.toBitVec.toNat % 2 ^ n + j0) % 2 ^ n)) (n / 2 + 1)) (hj2 : ∀ i, i < j0 → ¬ bpr (2 ^ n ||| ((s.toBitVec.toNat % 2 ^ n + i) % 2 ^ n)) (n / 2 + 1)) (hg2 : ∀ b, 2 ≤ b → b < gg → ¬ ggen n (2 ^ n ||| ((s.toBitVec.toNat % 2 ^ n + j0) % 2 ^ n)) b) (hC : bw_has A [(M, .inr (12, [.int 0, .int 0, .int 0, .int 0, .int 0, .int 0, .ref (M + 1), .int 0, .ref (M + 2), .ref (M + 3), .ref (M + 4), .ref (M + 5), .ref (M + 6), .ref (M + 7), .int 0, .ref (M + 8), .ref (M + 9), .ref (M + 10), .ref (M + 11), .ref (M + 12), .ref (M + 13), .int (tI 0), .int 0, .ref (M + 14), .int (tI 0), .ref (M + 15), .ref (M + 16), .ref (M + 17), .int 0, .ref (M + 18)])), (M + 1, bw_ai g 130 (fun _ => 0)), (M + 2, bw_ai g 40 (fun _ => 0)), (M + 3, bw_ai g 40 (fun _ => 0)), (M + 4, bw_ai g 2560 (fun _ => 0)), (M + 5, bw_ai g 65536 (fun _ => 0)), (M + 6, bw_ai g 72 (fun _ => 0)), (M + 7, bw_ai g 8 (fun _ => 0)), (M + 8, bw_ai g 40 (fun _ => 0)), (M + 9, bw_ai g 2600 (fun _ => 0)), (M + 10, bw_ai g 200 (fun _ => 0)), (M + 11, bw_ai g 200 (fun _ => 0)), (M + 12, bw_ai g 200 (fun _ => 0)), (M + 13, bw_ai g 200 (fun _ => 0)), (M + 14, bw_ai g 64 (fun _ => 0)), (M + 15, bw_ai g 65 (fun _ => 0)), (M + 16, bw_ai g 200 (fun _ => 0)), (M + 17, bw_ai g 200 (fun _ => 0)), (M + 18, bw_ai g 64 (fun _ => 0))]) (hz : A.1 = M + 19) (hW : bw_gw M A0 A) : bw_W g (bw_rm 3 18 72419) mX10_init (bw_pv (minP g n ((s.toBitVec.toNat % 2 ^ n + j0) % 2 ^ n) gg M A0)) 18 72419 167 [(0, .ref M), (1, .int b), (2, .int s)] [] A := by
  by_cases hb : b = 16
  · have hn := hb16 hb
    subst hn
    refine bw_aload_n 168 dX10_init_167 rfl rfl ?_
    refine bw_iload_n 169 dX10_init_168 rfl rfl ?_
    refine bw_bipush (16) 171 dX10_init_169 (by decide) rfl ?_
    refine bw_icmp_ne 179 174 dX10_init_171 rfl rfl (fun c171 => ?_) (fun c171 => ?_)
    · exact absurd hb c171
    · skip
      refine bw_bipush (16) 176 dX10_init_174 (by decide) rfl ?_
      refine bw_eqi (y := nI 16) rfl ?_
      refine bw_goto 181 dX10_init_176 rfl ?_
      refine bw_putU 184 dX10_init_181 rfl pX10_75 (hC.at 0 rfl) rfl rfl (Nat.le_of_ble_eq_true rfl) (fun A hU => ?_)
      have hC := hC.upd 0 rfl hU
      have hz := (congrArg Prod.fst hU).trans hz
      have hW := hW.upd hU (by omega)
      clear hU
      refine bw_aload_n 185 dX10_init_184 rfl rfl ?_
      refine bw_iconst (1) 186 dX10_init_185 (by decide) rfl ?_
      refine bw_eqi (y := nI 1) rfl ?_
      refine bw_aload_n 187 dX10_init_186 rfl rfl ?_
      refine bw_get 190 dX10_init_187 rfl lX10_75 (hC.at 0 rfl) rfl ?_
      refine bw_ishl 191 dX10_init_190 rfl ?_
      refine bw_eqi (show nI 1 <<< (nI 16 &&& 31) = nI (2 ^ 16) from by decide) ?_
      refine bw_putU 194 dX10_init_191 rfl pX10_78 (hC.at 0 rfl) rfl rfl (Nat.le_of_ble_eq_true rfl) (fun A hU => ?_)
      have hC := hC.upd 0 rfl hU
      have hz := (congrArg Prod.fst hU).trans hz
      have hW := hW.upd hU (by omega)
      clear hU
      refine bw_aload_n 195 dX10_init_194 rfl rfl ?_
      refine bw_iload_n 196 dX10_init_195 rfl rfl ?_
      refine bw_aload_n 197 dX10_init_196 rfl rfl ?_
      refine bw_get 200 dX10_init_197 rfl lX10_78 (hC.at 0 rfl) rfl ?_
      refine bw_iconst (1) 201 dX10_init_200 (by decide) rfl ?_
      refine bw_eqi (y := nI 1) rfl ?_
      refine bw_isub 202 dX10_init_201 rfl ?_
      refine bw_eqi (show nI (2 ^ 16) - nI 1 = nI (2 ^ 16 - 1) from by decide) ?_
      refine bw_iand 203 dX10_init_202 rfl ?_
      refine bw_eqi (pk_and s 16 (pk_tn (by decide))) ?_
      refine bw_putU 206 dX10_init_203 rfl pX10_81 (hC.at 0 rfl) rfl rfl (Nat.le_of_ble_eq_true rfl) (fun A hU => ?_)
      have hC := hC.upd 0 rfl hU
      have hz := (congrArg Prod.fst hU).trans hz
      have hW := hW.upd hU (by omega)
      clear hU
      exact bw_loc [(0, .ref M)] ⟨rfl, trivial⟩ (m_init_B g hG hj1 hj2 hg2 hC hz hW (Nat.le_refl _) (Nat.le_refl _))
  · have hn := hb8 hb
    subst hn
    refine bw_aload_n 168 dX10_init_167 rfl rfl ?_
    refine bw_iload_n 169 dX10_init_168 rfl rfl ?_
    refine bw_bipush (16) 171 dX10_init_169 (by decide) rfl ?_
    refine bw_icmp_ne 179 174 dX10_init_171 rfl rfl (fun c171 => ?_) (fun c171 => ?_)
    · skip
      refine bw_bipush (8) 181 dX10_init_179 (by decide) rfl ?_
      refine bw_eqi (y := nI 8) rfl ?_
      refine bw_putU 184 dX10_init_181 rfl pX10_75 (hC.at 0 rfl) rfl rfl (Nat.le_of_ble_eq_true rfl) (fun A hU => ?_)
      have hC := hC.upd 0 rfl hU
      have hz := (congrArg Prod.fst hU).trans hz
      have hW := hW.upd hU (by omega)
      clear hU
      refine bw_aload_n 185 dX10_init_184 rfl rfl ?_
      refine bw_iconst (1) 186 dX10_init_185 (by decide) rfl ?_
      refine bw_eqi (y := nI 1) rfl ?_
      refine bw_aload_n 187 dX10_init_186 rfl rfl ?_
      refine bw_get 190 dX10_init_187 rfl lX10_75 (hC.at 0 rfl) rfl ?_
      refine bw_ishl 191 dX10_init_190 rfl ?_
      refine bw_eqi (show nI 1 <<< (nI 8 &&& 31) = nI (2 ^ 8) from by decide) ?_
      refine bw_putU 194 dX10_init_191 rfl pX10_78 (hC.at 0 rfl) rfl rfl (Nat.le_of_ble_eq_true rfl) (fun A hU => ?_)
      have hC := hC.upd 0 rfl hU
      have hz := (congrArg Prod.fst hU).trans hz
      have hW := hW.upd hU (by omega)
      clear hU
      refine bw_aload_n 195 dX10_init_194 rfl rfl ?_
      refine bw_iload_n 196 dX10_init_195 rfl rfl ?_
      refine bw_aload_n 197 dX10_init_196 rfl rfl ?_
      refine bw_get 200 dX10_init_197 rfl lX10_78 (hC.at 0 rfl) rfl ?_
      refine bw_iconst (1) 201 dX10_init_200 (by decide) rfl ?_
      refine bw_eqi (y := nI 1) rfl ?_
      refine bw_isub 202 dX10_init_201 rfl ?_
      refine bw_eqi (show nI (2 ^ 8) - nI 1 = nI (2 ^ 8 - 1) from by decide) ?_
      refine bw_iand 203 dX10_init_202 rfl ?_
      refine bw_eqi (pk_and s 8 (pk_tn (by decide))) ?_
      refine bw_putU 206 dX10_init_203 rfl pX10_81 (hC.at 0 rfl) rfl rfl (Nat.le_of_ble_eq_true rfl) (fun A hU => ?_)
      have hC := hC.upd 0 rfl hU
      have hz := (congrArg Prod.fst hU).trans hz
      have hW := hW.upd hU (by omega)
      clear hU
      exact bw_loc [(0, .ref M)] ⟨rfl, trivial⟩ (m_init_B g hG hj1 hj2 hg2 hC hz hW (Nat.le_refl _) (Nat.le_refl _))
    · exact absurd c171 hb
set_option maxHeartbeats 400000 in
set_option maxRecDepth 100000 in
theorem m_init_150 (g : bw_G) {A0 A : bw_H} {M n gg j0 : Nat} {b s : Int32} (hb8 : ¬ b = 16 → n = 8) (hb16 : b = 16 → n = 16) (hG : GFg n ((s.toBitVec.toNat % 2 ^ n + j0) % 2 ^ n) gg) (hj1 : bpr (2 ^ n ||| ((s.toBitVec.toNat % 2 ^ n + j0) % 2 ^ n)) (n / 2 + 1)) (hj2 : ∀ i, i < j0 → ¬ bpr (2 ^ n ||| ((s.toBitVec.toNat % 2 ^ n + i) % 2 ^ n)) (n / 2 + 1)) (hg2 : ∀ b, 2 ≤ b → b < gg → ¬ ggen n (2 ^ n ||| ((s.toBitVec.toNat % 2 ^ n + j0) % 2 ^ n)) b) (hC : bw_has A [(M, .inr (12, [.int 0, .int 0, .int 0, .int 0, .int 0, .int 0, .ref (M + 1), .int 0, .ref (M + 2), .ref (M + 3), .ref (M + 4), .ref (M + 5), .ref (M + 6), .ref (M + 7), .int 0, .ref (M + 8), .ref (M + 9), .ref (M + 10), .ref (M + 11), .ref (M + 12), .ref (M + 13), .int (tI 0), .int 0, .ref (M + 14), .int (tI 0), .ref (M + 15), .ref (M + 16), .null, .int 0, .null])), (M + 1, bw_ai g 130 (fun _ => 0)), (M + 2, bw_ai g 40 (fun _ => 0)), (M + 3, bw_ai g 40 (fun _ => 0)), (M + 4, bw_ai g 2560 (fun _ => 0)), (M + 5, bw_ai g 65536 (fun _ => 0)), (M + 6, bw_ai g 72 (fun _ => 0)), (M + 7, bw_ai g 8 (fun _ => 0)), (M + 8, bw_ai g 40 (fun _ => 0)), (M + 9, bw_ai g 2600 (fun _ => 0)), (M + 10, bw_ai g 200 (fun _ => 0)), (M + 11, bw_ai g 200 (fun _ => 0)), (M + 12, bw_ai g 200 (fun _ => 0)), (M + 13, bw_ai g 200 (fun _ => 0)), (M + 14, bw_ai g 64 (fun _ => 0)), (M + 15, bw_ai g 65 (fun _ => 0)), (M + 16, bw_ai g 200 (fun _ => 0))]) (hz : A.1 = M + 17) (hW : bw_gw M A0 A) : bw_W g (bw_rm 3 18 72419) mX10_init (bw_pv (minP g n ((s.toBitVec.toNat % 2 ^ n + j0) % 2 ^ n) gg M A0)) 16 72155 150 [(0, .ref M), (1, .int b), (2, .int s)] [] A := by
  refine bw_aload_n 151 dX10_init_150 rfl rfl ?_
  refine bw_sipush (200) 154 dX10_init_151 (by decide) rfl ?_
  refine bw_eqi (y := nI 200) rfl ?_
  refine bw_ok (fun hok => ?_)
  refine bw_newiU 156 dX10_init_154 rfl bw_wI (by exact nI_pos (by omega)) (by exact nI_clamp (by omega)) (by omega) (Nat.le_of_ble_eq_true rfl) (Nat.le_of_ble_eq_true rfl) hz (fun A hU => ?_)
  have hC := hC.nwda hok hz hU
  have hW := hW.nwd hU hz (by omega)
  have hz := (congrArg Prod.fst hU).trans (congrArg (· + 1) hz)
  clear hU hok
  have hC : bw_has A [(M, .inr (12, [.int 0, .int 0, .int 0, .int 0, .int 0, .int 0, .ref (M + 1), .int 0, .ref (M + 2), .ref (M + 3), .ref (M + 4), .ref (M + 5), .ref (M + 6), .ref (M + 7), .int 0, .ref (M + 8), .ref (M + 9), .ref (M + 10), .ref (M + 11), .ref (M + 12), .ref (M + 13), .int (tI 0), .int 0, .ref (M + 14), .int (tI 0), .ref (M + 15), .ref (M + 16), .null, .int 0, .null])), (M + 1, bw_ai g 130 (fun _ => 0)), (M + 2, bw_ai g 40 (fun _ => 0)), (M + 3, bw_ai g 40 (fun _ => 0)), (M + 4, bw_ai g 2560 (fun _ => 0)), (M + 5, bw_ai g 65536 (fun _ => 0)), (M + 6, bw_ai g 72 (fun _ => 0)), (M + 7, bw_ai g 8 (fun _ => 0)), (M + 8, bw_ai g 40 (fun _ => 0)), (M + 9, bw_ai g 2600 (fun _ => 0)), (M + 10, bw_ai g 200 (fun _ => 0)), (M + 11, bw_ai g 200 (fun _ => 0)), (M + 12, bw_ai g 200 (fun _ => 0)), (M + 13, bw_ai g 200 (fun _ => 0)), (M + 14, bw_ai g 64 (fun _ => 0)), (M + 15, bw_ai g 65 (fun _ => 0)), (M + 16, bw_ai g 200 (fun _ => 0)), (M + 17, bw_ai g 200 (fun _ => 0))] := hC
  have hz : A.1 = M + 18 := hz
  refine bw_putFU 159 dX10_init_156 rfl pX10_69 rfl (hC.at 0 rfl) rfl rfl (Nat.le_of_ble_eq_true rfl) (fun A hU => ?_)
  have hC := hC.upd 0 rfl hU
  have hz := (congrArg Prod.fst hU).trans hz
  have hW := hW.upd hU (by omega)
  clear hU
  have hC : bw_has A [(M, .inr (12, [.int 0, .int 0, .int 0, .int 0, .int 0, .int 0, .ref (M + 1), .int 0, .ref (M + 2), .ref (M + 3), .ref (M + 4), .ref (M + 5), .ref (M + 6), .ref (M + 7), .int 0, .ref (M + 8), .ref (M + 9), .ref (M + 10), .ref (M + 11), .ref (M + 12), .ref (M + 13), .int (tI 0), .int 0, .ref (M + 14), .int (tI 0), .ref (M + 15), .ref (M + 16), .ref (M + 17), .int 0, .null])), (M + 1, bw_ai g 130 (fun _ => 0)), (M + 2, bw_ai g 40 (fun _ => 0)), (M + 3, bw_ai g 40 (fun _ => 0)), (M + 4, bw_ai g 2560 (fun _ => 0)), (M + 5, bw_ai g 65536 (fun _ => 0)), (M + 6, bw_ai g 72 (fun _ => 0)), (M + 7, bw_ai g 8 (fun _ => 0)), (M + 8, bw_ai g 40 (fun _ => 0)), (M + 9, bw_ai g 2600 (fun _ => 0)), (M + 10, bw_ai g 200 (fun _ => 0)), (M + 11, bw_ai g 200 (fun _ => 0)), (M + 12, bw_ai g 200 (fun _ => 0)), (M + 13, bw_ai g 200 (fun _ => 0)), (M + 14, bw_ai g 64 (fun _ => 0)), (M + 15, bw_ai g 65 (fun _ => 0)), (M + 16, bw_ai g 200 (fun _ => 0)), (M + 17, bw_ai g 200 (fun _ => 0))] := hC
  refine bw_aload_n 160 dX10_init_159 rfl rfl ?_
  refine bw_bipush (64) 162 dX10_init_160 (by decide) rfl ?_
  refine bw_eqi (y := nI 64) rfl ?_
  refine bw_ok (fun hok => ?_)
  refine bw_newiU 164 dX10_init_162 rfl bw_wI (by exact nI_pos (by omega)) (by exact nI_clamp (by omega)) (by omega) (Nat.le_of_ble_eq_true rfl) (Nat.le_of_ble_eq_true rfl) hz (fun A hU => ?_)
  have hC := hC.nwda hok hz hU
  have hW := hW.nwd hU hz (by omega)
  have hz := (congrArg Prod.fst hU).trans (congrArg (· + 1) hz)
  clear hU hok
  have hC : bw_has A [(M, .inr (12, [.int 0, .int 0, .int 0, .int 0, .int 0, .int 0, .ref (M + 1), .int 0, .ref (M + 2), .ref (M + 3), .ref (M + 4), .ref (M + 5), .ref (M + 6), .ref (M + 7), .int 0, .ref (M + 8), .ref (M + 9), .ref (M + 10), .ref (M + 11), .ref (M + 12), .ref (M + 13), .int (tI 0), .int 0, .ref (M + 14), .int (tI 0), .ref (M + 15), .ref (M + 16), .ref (M + 17), .int 0, .null])), (M + 1, bw_ai g 130 (fun _ => 0)), (M + 2, bw_ai g 40 (fun _ => 0)), (M + 3, bw_ai g 40 (fun _ => 0)), (M + 4, bw_ai g 2560 (fun _ => 0)), (M + 5, bw_ai g 65536 (fun _ => 0)), (M + 6, bw_ai g 72 (fun _ => 0)), (M + 7, bw_ai g 8 (fun _ => 0)), (M + 8, bw_ai g 40 (fun _ => 0)), (M + 9, bw_ai g 2600 (fun _ => 0)), (M + 10, bw_ai g 200 (fun _ => 0)), (M + 11, bw_ai g 200 (fun _ => 0)), (M + 12, bw_ai g 200 (fun _ => 0)), (M + 13, bw_ai g 200 (fun _ => 0)), (M + 14, bw_ai g 64 (fun _ => 0)), (M + 15, bw_ai g 65 (fun _ => 0)), (M + 16, bw_ai g 200 (fun _ => 0)), (M + 17, bw_ai g 200 (fun _ => 0)), (M + 18, bw_ai g 64 (fun _ => 0))] := hC
  have hz : A.1 = M + 19 := hz
  refine bw_putFU 167 dX10_init_164 rfl pX10_72 rfl (hC.at 0 rfl) rfl rfl (Nat.le_of_ble_eq_true rfl) (fun A hU => ?_)
  have hC := hC.upd 0 rfl hU
  have hz := (congrArg Prod.fst hU).trans hz
  have hW := hW.upd hU (by omega)
  clear hU
  have hC : bw_has A [(M, .inr (12, [.int 0, .int 0, .int 0, .int 0, .int 0, .int 0, .ref (M + 1), .int 0, .ref (M + 2), .ref (M + 3), .ref (M + 4), .ref (M + 5), .ref (M + 6), .ref (M + 7), .int 0, .ref (M + 8), .ref (M + 9), .ref (M + 10), .ref (M + 11), .ref (M + 12), .ref (M + 13), .int (tI 0), .int 0, .ref (M + 14), .int (tI 0), .ref (M + 15), .ref (M + 16), .ref (M + 17), .int 0, .ref (M + 18)])), (M + 1, bw_ai g 130 (fun _ => 0)), (M + 2, bw_ai g 40 (fun _ => 0)), (M + 3, bw_ai g 40 (fun _ => 0)), (M + 4, bw_ai g 2560 (fun _ => 0)), (M + 5, bw_ai g 65536 (fun _ => 0)), (M + 6, bw_ai g 72 (fun _ => 0)), (M + 7, bw_ai g 8 (fun _ => 0)), (M + 8, bw_ai g 40 (fun _ => 0)), (M + 9, bw_ai g 2600 (fun _ => 0)), (M + 10, bw_ai g 200 (fun _ => 0)), (M + 11, bw_ai g 200 (fun _ => 0)), (M + 12, bw_ai g 200 (fun _ => 0)), (M + 13, bw_ai g 200 (fun _ => 0)), (M + 14, bw_ai g 64 (fun _ => 0)), (M + 15, bw_ai g 65 (fun _ => 0)), (M + 16, bw_ai g 200 (fun _ => 0)), (M + 17, bw_ai g 200 (fun _ => 0)), (M + 18, bw_ai g 64 (fun _ => 0))] := hC
  exact m_init_167 g hb8 hb16 hG hj1 hj2 hg2 hC hz hW
set_option maxHeartbeats 400000 in
set_option maxRecDepth 100000 in
theorem m_init_128 (g : bw_G) {A0 A : bw_H} {M n gg j0 : Nat} {b s : Int32} (hb8 : ¬ b = 16 → n = 8) (hb16 : b = 16 → n = 16) (hG : GFg n ((s.toBitVec.toNat % 2 ^ n + j0) % 2 ^ n) gg) (hj1 : bpr (2 ^ n ||| ((s.toBitVec.toNat % 2 ^ n + j0) % 2 ^ n)) (n / 2 + 1)) (hj2 : ∀ i, i < j0 → ¬ bpr (2 ^ n ||| ((s.toBitVec.toNat % 2 ^ n + i) % 2 ^ n)) (n / 2 + 1)) (hg2 : ∀ b, 2 ≤ b → b < gg → ¬ ggen n (2 ^ n ||| ((s.toBitVec.toNat % 2 ^ n + j0) % 2 ^ n)) b) (hC : bw_has A [(M, .inr (12, [.int 0, .int 0, .int 0, .int 0, .int 0, .int 0, .ref (M + 1), .int 0, .ref (M + 2), .ref (M + 3), .ref (M + 4), .ref (M + 5), .ref (M + 6), .ref (M + 7), .int 0, .ref (M + 8), .ref (M + 9), .ref (M + 10), .ref (M + 11), .ref (M + 12), .ref (M + 13), .int (tI 0), .int 0, .ref (M + 14), .int 0, .null, .null, .null, .int 0, .null])), (M + 1, bw_ai g 130 (fun _ => 0)), (M + 2, bw_ai g 40 (fun _ => 0)), (M + 3, bw_ai g 40 (fun _ => 0)), (M + 4, bw_ai g 2560 (fun _ => 0)), (M + 5, bw_ai g 65536 (fun _ => 0)), (M + 6, bw_ai g 72 (fun _ => 0)), (M + 7, bw_ai g 8 (fun _ => 0)), (M + 8, bw_ai g 40 (fun _ => 0)), (M + 9, bw_ai g 2600 (fun _ => 0)), (M + 10, bw_ai g 200 (fun _ => 0)), (M + 11, bw_ai g 200 (fun _ => 0)), (M + 12, bw_ai g 200 (fun _ => 0)), (M + 13, bw_ai g 200 (fun _ => 0)), (M + 14, bw_ai g 64 (fun _ => 0))]) (hz : A.1 = M + 15) (hW : bw_gw M A0 A) : bw_W g (bw_rm 3 18 72419) mX10_init (bw_pv (minP g n ((s.toBitVec.toNat % 2 ^ n + j0) % 2 ^ n) gg M A0)) 14 71890 128 [(0, .ref M), (1, .int b), (2, .int s)] [] A := by
  refine bw_aload_n 129 dX10_init_128 rfl rfl ?_
  refine bw_iconst (-1) 130 dX10_init_129 (by decide) rfl ?_
  refine bw_eqi (tI_0.symm) ?_
  refine bw_putU 133 dX10_init_130 rfl pX10_60 (hC.at 0 rfl) rfl rfl (Nat.le_of_ble_eq_true rfl) (fun A hU => ?_)
  have hC := hC.upd 0 rfl hU
  have hz := (congrArg Prod.fst hU).trans hz
  have hW := hW.upd hU (by omega)
  clear hU
  have hC : bw_has A [(M, .inr (12, [.int 0, .int 0, .int 0, .int 0, .int 0, .int 0, .ref (M + 1), .int 0, .ref (M + 2), .ref (M + 3), .ref (M + 4), .ref (M + 5), .ref (M + 6), .ref (M + 7), .int 0, .ref (M + 8), .ref (M + 9), .ref (M + 10), .ref (M + 11), .ref (M + 12), .ref (M + 13), .int (tI 0), .int 0, .ref (M + 14), .int (tI 0), .null, .null, .null, .int 0, .null])), (M + 1, bw_ai g 130 (fun _ => 0)), (M + 2, bw_ai g 40 (fun _ => 0)), (M + 3, bw_ai g 40 (fun _ => 0)), (M + 4, bw_ai g 2560 (fun _ => 0)), (M + 5, bw_ai g 65536 (fun _ => 0)), (M + 6, bw_ai g 72 (fun _ => 0)), (M + 7, bw_ai g 8 (fun _ => 0)), (M + 8, bw_ai g 40 (fun _ => 0)), (M + 9, bw_ai g 2600 (fun _ => 0)), (M + 10, bw_ai g 200 (fun _ => 0)), (M + 11, bw_ai g 200 (fun _ => 0)), (M + 12, bw_ai g 200 (fun _ => 0)), (M + 13, bw_ai g 200 (fun _ => 0)), (M + 14, bw_ai g 64 (fun _ => 0))] := hC
  refine bw_aload_n 134 dX10_init_133 rfl rfl ?_
  refine bw_bipush (65) 136 dX10_init_134 (by decide) rfl ?_
  refine bw_eqi (y := nI 65) rfl ?_
  refine bw_ok (fun hok => ?_)
  refine bw_newiU 138 dX10_init_136 rfl bw_wI (by exact nI_pos (by omega)) (by exact nI_clamp (by omega)) (by omega) (Nat.le_of_ble_eq_true rfl) (Nat.le_of_ble_eq_true rfl) hz (fun A hU => ?_)
  have hC := hC.nwda hok hz hU
  have hW := hW.nwd hU hz (by omega)
  have hz := (congrArg Prod.fst hU).trans (congrArg (· + 1) hz)
  clear hU hok
  have hC : bw_has A [(M, .inr (12, [.int 0, .int 0, .int 0, .int 0, .int 0, .int 0, .ref (M + 1), .int 0, .ref (M + 2), .ref (M + 3), .ref (M + 4), .ref (M + 5), .ref (M + 6), .ref (M + 7), .int 0, .ref (M + 8), .ref (M + 9), .ref (M + 10), .ref (M + 11), .ref (M + 12), .ref (M + 13), .int (tI 0), .int 0, .ref (M + 14), .int (tI 0), .null, .null, .null, .int 0, .null])), (M + 1, bw_ai g 130 (fun _ => 0)), (M + 2, bw_ai g 40 (fun _ => 0)), (M + 3, bw_ai g 40 (fun _ => 0)), (M + 4, bw_ai g 2560 (fun _ => 0)), (M + 5, bw_ai g 65536 (fun _ => 0)), (M + 6, bw_ai g 72 (fun _ => 0)), (M + 7, bw_ai g 8 (fun _ => 0)), (M + 8, bw_ai g 40 (fun _ => 0)), (M + 9, bw_ai g 2600 (fun _ => 0)), (M + 10, bw_ai g 200 (fun _ => 0)), (M + 11, bw_ai g 200 (fun _ => 0)), (M + 12, bw_ai g 200 (fun _ => 0)), (M + 13, bw_ai g 200 (fun _ => 0)), (M + 14, bw_ai g 64 (fun _ => 0)), (M + 15, bw_ai g 65 (fun _ => 0))] := hC
  have hz : A.1 = M + 16 := hz
  refine bw_putFU 141 dX10_init_138 rfl pX10_63 rfl (hC.at 0 rfl) rfl rfl (Nat.le_of_ble_eq_true rfl) (fun A hU => ?_)
  have hC := hC.upd 0 rfl hU
  have hz := (congrArg Prod.fst hU).trans hz
  have hW := hW.upd hU (by omega)
  clear hU
  have hC : bw_has A [(M, .inr (12, [.int 0, .int 0, .int 0, .int 0, .int 0, .int 0, .ref (M + 1), .int 0, .ref (M + 2), .ref (M + 3), .ref (M + 4), .ref (M + 5), .ref (M + 6), .ref (M + 7), .int 0, .ref (M + 8), .ref (M + 9), .ref (M + 10), .ref (M + 11), .ref (M + 12), .ref (M + 13), .int (tI 0), .int 0, .ref (M + 14), .int (tI 0), .ref (M + 15), .null, .null, .int 0, .null])), (M + 1, bw_ai g 130 (fun _ => 0)), (M + 2, bw_ai g 40 (fun _ => 0)), (M + 3, bw_ai g 40 (fun _ => 0)), (M + 4, bw_ai g 2560 (fun _ => 0)), (M + 5, bw_ai g 65536 (fun _ => 0)), (M + 6, bw_ai g 72 (fun _ => 0)), (M + 7, bw_ai g 8 (fun _ => 0)), (M + 8, bw_ai g 40 (fun _ => 0)), (M + 9, bw_ai g 2600 (fun _ => 0)), (M + 10, bw_ai g 200 (fun _ => 0)), (M + 11, bw_ai g 200 (fun _ => 0)), (M + 12, bw_ai g 200 (fun _ => 0)), (M + 13, bw_ai g 200 (fun _ => 0)), (M + 14, bw_ai g 64 (fun _ => 0)), (M + 15, bw_ai g 65 (fun _ => 0))] := hC
  refine bw_aload_n 142 dX10_init_141 rfl rfl ?_
  refine bw_sipush (200) 145 dX10_init_142 (by decide) rfl ?_
  refine bw_eqi (y := nI 200) rfl ?_
  refine bw_ok (fun hok => ?_)
  refine bw_newiU 147 dX10_init_145 rfl bw_wI (by exact nI_pos (by omega)) (by exact nI_clamp (by omega)) (by omega) (Nat.le_of_ble_eq_true rfl) (Nat.le_of_ble_eq_true rfl) hz (fun A hU => ?_)
  have hC := hC.nwda hok hz hU
  have hW := hW.nwd hU hz (by omega)
  have hz := (congrArg Prod.fst hU).trans (congrArg (· + 1) hz)
  clear hU hok
  have hC : bw_has A [(M, .inr (12, [.int 0, .int 0, .int 0, .int 0, .int 0, .int 0, .ref (M + 1), .int 0, .ref (M + 2), .ref (M + 3), .ref (M + 4), .ref (M + 5), .ref (M + 6), .ref (M + 7), .int 0, .ref (M + 8), .ref (M + 9), .ref (M + 10), .ref (M + 11), .ref (M + 12), .ref (M + 13), .int (tI 0), .int 0, .ref (M + 14), .int (tI 0), .ref (M + 15), .null, .null, .int 0, .null])), (M + 1, bw_ai g 130 (fun _ => 0)), (M + 2, bw_ai g 40 (fun _ => 0)), (M + 3, bw_ai g 40 (fun _ => 0)), (M + 4, bw_ai g 2560 (fun _ => 0)), (M + 5, bw_ai g 65536 (fun _ => 0)), (M + 6, bw_ai g 72 (fun _ => 0)), (M + 7, bw_ai g 8 (fun _ => 0)), (M + 8, bw_ai g 40 (fun _ => 0)), (M + 9, bw_ai g 2600 (fun _ => 0)), (M + 10, bw_ai g 200 (fun _ => 0)), (M + 11, bw_ai g 200 (fun _ => 0)), (M + 12, bw_ai g 200 (fun _ => 0)), (M + 13, bw_ai g 200 (fun _ => 0)), (M + 14, bw_ai g 64 (fun _ => 0)), (M + 15, bw_ai g 65 (fun _ => 0)), (M + 16, bw_ai g 200 (fun _ => 0))] := hC
  have hz : A.1 = M + 17 := hz
  refine bw_putFU 150 dX10_init_147 rfl pX10_66 rfl (hC.at 0 rfl) rfl rfl (Nat.le_of_ble_eq_true rfl) (fun A hU => ?_)
  have hC := hC.upd 0 rfl hU
  have hz := (congrArg Prod.fst hU).trans hz
  have hW := hW.upd hU (by omega)
  clear hU
  have hC : bw_has A [(M, .inr (12, [.int 0, .int 0, .int 0, .int 0, .int 0, .int 0, .ref (M + 1), .int 0, .ref (M + 2), .ref (M + 3), .ref (M + 4), .ref (M + 5), .ref (M + 6), .ref (M + 7), .int 0, .ref (M + 8), .ref (M + 9), .ref (M + 10), .ref (M + 11), .ref (M + 12), .ref (M + 13), .int (tI 0), .int 0, .ref (M + 14), .int (tI 0), .ref (M + 15), .ref (M + 16), .null, .int 0, .null])), (M + 1, bw_ai g 130 (fun _ => 0)), (M + 2, bw_ai g 40 (fun _ => 0)), (M + 3, bw_ai g 40 (fun _ => 0)), (M + 4, bw_ai g 2560 (fun _ => 0)), (M + 5, bw_ai g 65536 (fun _ => 0)), (M + 6, bw_ai g 72 (fun _ => 0)), (M + 7, bw_ai g 8 (fun _ => 0)), (M + 8, bw_ai g 40 (fun _ => 0)), (M + 9, bw_ai g 2600 (fun _ => 0)), (M + 10, bw_ai g 200 (fun _ => 0)), (M + 11, bw_ai g 200 (fun _ => 0)), (M + 12, bw_ai g 200 (fun _ => 0)), (M + 13, bw_ai g 200 (fun _ => 0)), (M + 14, bw_ai g 64 (fun _ => 0)), (M + 15, bw_ai g 65 (fun _ => 0)), (M + 16, bw_ai g 200 (fun _ => 0))] := hC
  exact m_init_150 g hb8 hb16 hG hj1 hj2 hg2 hC hz hW
set_option maxHeartbeats 400000 in
set_option maxRecDepth 100000 in
theorem m_init_106 (g : bw_G) {A0 A : bw_H} {M n gg j0 : Nat} {b s : Int32} (hb8 : ¬ b = 16 → n = 8) (hb16 : b = 16 → n = 16) (hG : GFg n ((s.toBitVec.toNat % 2 ^ n + j0) % 2 ^ n) gg) (hj1 : bpr (2 ^ n ||| ((s.toBitVec.toNat % 2 ^ n + j0) % 2 ^ n)) (n / 2 + 1)) (hj2 : ∀ i, i < j0 → ¬ bpr (2 ^ n ||| ((s.toBitVec.toNat % 2 ^ n + i) % 2 ^ n)) (n / 2 + 1)) (hg2 : ∀ b, 2 ≤ b → b < gg → ¬ ggen n (2 ^ n ||| ((s.toBitVec.toNat % 2 ^ n + j0) % 2 ^ n)) b) (hC : bw_has A [(M, .inr (12, [.int 0, .int 0, .int 0, .int 0, .int 0, .int 0, .ref (M + 1), .int 0, .ref (M + 2), .ref (M + 3), .ref (M + 4), .ref (M + 5), .ref (M + 6), .ref (M + 7), .int 0, .ref (M + 8), .ref (M + 9), .ref (M + 10), .ref (M + 11), .ref (M + 12), .null, .int 0, .int 0, .null, .int 0, .null, .null, .null, .int 0, .null])), (M + 1, bw_ai g 130 (fun _ => 0)), (M + 2, bw_ai g 40 (fun _ => 0)), (M + 3, bw_ai g 40 (fun _ => 0)), (M + 4, bw_ai g 2560 (fun _ => 0)), (M + 5, bw_ai g 65536 (fun _ => 0)), (M + 6, bw_ai g 72 (fun _ => 0)), (M + 7, bw_ai g 8 (fun _ => 0)), (M + 8, bw_ai g 40 (fun _ => 0)), (M + 9, bw_ai g 2600 (fun _ => 0)), (M + 10, bw_ai g 200 (fun _ => 0)), (M + 11, bw_ai g 200 (fun _ => 0)), (M + 12, bw_ai g 200 (fun _ => 0))]) (hz : A.1 = M + 13) (hW : bw_gw M A0 A) : bw_W g (bw_rm 3 18 72419) mX10_init (bw_pv (minP g n ((s.toBitVec.toNat % 2 ^ n + j0) % 2 ^ n) gg M A0)) 12 71626 106 [(0, .ref M), (1, .int b), (2, .int s)] [] A := by
  refine bw_aload_n 107 dX10_init_106 rfl rfl ?_
  refine bw_sipush (200) 110 dX10_init_107 (by decide) rfl ?_
  refine bw_eqi (y := nI 200) rfl ?_
  refine bw_ok (fun hok => ?_)
  refine bw_newiU 112 dX10_init_110 rfl bw_wI (by exact nI_pos (by omega)) (by exact nI_clamp (by omega)) (by omega) (Nat.le_of_ble_eq_true rfl) (Nat.le_of_ble_eq_true rfl) hz (fun A hU => ?_)
  have hC := hC.nwda hok hz hU
  have hW := hW.nwd hU hz (by omega)
  have hz := (congrArg Prod.fst hU).trans (congrArg (· + 1) hz)
  clear hU hok
  have hC : bw_has A [(M, .inr (12, [.int 0, .int 0, .int 0, .int 0, .int 0, .int 0, .ref (M + 1), .int 0, .ref (M + 2), .ref (M + 3), .ref (M + 4), .ref (M + 5), .ref (M + 6), .ref (M + 7), .int 0, .ref (M + 8), .ref (M + 9), .ref (M + 10), .ref (M + 11), .ref (M + 12), .null, .int 0, .int 0, .null, .int 0, .null, .null, .null, .int 0, .null])), (M + 1, bw_ai g 130 (fun _ => 0)), (M + 2, bw_ai g 40 (fun _ => 0)), (M + 3, bw_ai g 40 (fun _ => 0)), (M + 4, bw_ai g 2560 (fun _ => 0)), (M + 5, bw_ai g 65536 (fun _ => 0)), (M + 6, bw_ai g 72 (fun _ => 0)), (M + 7, bw_ai g 8 (fun _ => 0)), (M + 8, bw_ai g 40 (fun _ => 0)), (M + 9, bw_ai g 2600 (fun _ => 0)), (M + 10, bw_ai g 200 (fun _ => 0)), (M + 11, bw_ai g 200 (fun _ => 0)), (M + 12, bw_ai g 200 (fun _ => 0)), (M + 13, bw_ai g 200 (fun _ => 0))] := hC
  have hz : A.1 = M + 14 := hz
  refine bw_putFU 115 dX10_init_112 rfl pX10_51 rfl (hC.at 0 rfl) rfl rfl (Nat.le_of_ble_eq_true rfl) (fun A hU => ?_)
  have hC := hC.upd 0 rfl hU
  have hz := (congrArg Prod.fst hU).trans hz
  have hW := hW.upd hU (by omega)
  clear hU
  have hC : bw_has A [(M, .inr (12, [.int 0, .int 0, .int 0, .int 0, .int 0, .int 0, .ref (M + 1), .int 0, .ref (M + 2), .ref (M + 3), .ref (M + 4), .ref (M + 5), .ref (M + 6), .ref (M + 7), .int 0, .ref (M + 8), .ref (M + 9), .ref (M + 10), .ref (M + 11), .ref (M + 12), .ref (M + 13), .int 0, .int 0, .null, .int 0, .null, .null, .null, .int 0, .null])), (M + 1, bw_ai g 130 (fun _ => 0)), (M + 2, bw_ai g 40 (fun _ => 0)), (M + 3, bw_ai g 40 (fun _ => 0)), (M + 4, bw_ai g 2560 (fun _ => 0)), (M + 5, bw_ai g 65536 (fun _ => 0)), (M + 6, bw_ai g 72 (fun _ => 0)), (M + 7, bw_ai g 8 (fun _ => 0)), (M + 8, bw_ai g 40 (fun _ => 0)), (M + 9, bw_ai g 2600 (fun _ => 0)), (M + 10, bw_ai g 200 (fun _ => 0)), (M + 11, bw_ai g 200 (fun _ => 0)), (M + 12, bw_ai g 200 (fun _ => 0)), (M + 13, bw_ai g 200 (fun _ => 0))] := hC
  refine bw_aload_n 116 dX10_init_115 rfl rfl ?_
  refine bw_iconst (-1) 117 dX10_init_116 (by decide) rfl ?_
  refine bw_eqi (tI_0.symm) ?_
  refine bw_putU 120 dX10_init_117 rfl pX10_54 (hC.at 0 rfl) rfl rfl (Nat.le_of_ble_eq_true rfl) (fun A hU => ?_)
  have hC := hC.upd 0 rfl hU
  have hz := (congrArg Prod.fst hU).trans hz
  have hW := hW.upd hU (by omega)
  clear hU
  have hC : bw_has A [(M, .inr (12, [.int 0, .int 0, .int 0, .int 0, .int 0, .int 0, .ref (M + 1), .int 0, .ref (M + 2), .ref (M + 3), .ref (M + 4), .ref (M + 5), .ref (M + 6), .ref (M + 7), .int 0, .ref (M + 8), .ref (M + 9), .ref (M + 10), .ref (M + 11), .ref (M + 12), .ref (M + 13), .int (tI 0), .int 0, .null, .int 0, .null, .null, .null, .int 0, .null])), (M + 1, bw_ai g 130 (fun _ => 0)), (M + 2, bw_ai g 40 (fun _ => 0)), (M + 3, bw_ai g 40 (fun _ => 0)), (M + 4, bw_ai g 2560 (fun _ => 0)), (M + 5, bw_ai g 65536 (fun _ => 0)), (M + 6, bw_ai g 72 (fun _ => 0)), (M + 7, bw_ai g 8 (fun _ => 0)), (M + 8, bw_ai g 40 (fun _ => 0)), (M + 9, bw_ai g 2600 (fun _ => 0)), (M + 10, bw_ai g 200 (fun _ => 0)), (M + 11, bw_ai g 200 (fun _ => 0)), (M + 12, bw_ai g 200 (fun _ => 0)), (M + 13, bw_ai g 200 (fun _ => 0))] := hC
  refine bw_aload_n 121 dX10_init_120 rfl rfl ?_
  refine bw_bipush (64) 123 dX10_init_121 (by decide) rfl ?_
  refine bw_eqi (y := nI 64) rfl ?_
  refine bw_ok (fun hok => ?_)
  refine bw_newiU 125 dX10_init_123 rfl bw_wI (by exact nI_pos (by omega)) (by exact nI_clamp (by omega)) (by omega) (Nat.le_of_ble_eq_true rfl) (Nat.le_of_ble_eq_true rfl) hz (fun A hU => ?_)
  have hC := hC.nwda hok hz hU
  have hW := hW.nwd hU hz (by omega)
  have hz := (congrArg Prod.fst hU).trans (congrArg (· + 1) hz)
  clear hU hok
  have hC : bw_has A [(M, .inr (12, [.int 0, .int 0, .int 0, .int 0, .int 0, .int 0, .ref (M + 1), .int 0, .ref (M + 2), .ref (M + 3), .ref (M + 4), .ref (M + 5), .ref (M + 6), .ref (M + 7), .int 0, .ref (M + 8), .ref (M + 9), .ref (M + 10), .ref (M + 11), .ref (M + 12), .ref (M + 13), .int (tI 0), .int 0, .null, .int 0, .null, .null, .null, .int 0, .null])), (M + 1, bw_ai g 130 (fun _ => 0)), (M + 2, bw_ai g 40 (fun _ => 0)), (M + 3, bw_ai g 40 (fun _ => 0)), (M + 4, bw_ai g 2560 (fun _ => 0)), (M + 5, bw_ai g 65536 (fun _ => 0)), (M + 6, bw_ai g 72 (fun _ => 0)), (M + 7, bw_ai g 8 (fun _ => 0)), (M + 8, bw_ai g 40 (fun _ => 0)), (M + 9, bw_ai g 2600 (fun _ => 0)), (M + 10, bw_ai g 200 (fun _ => 0)), (M + 11, bw_ai g 200 (fun _ => 0)), (M + 12, bw_ai g 200 (fun _ => 0)), (M + 13, bw_ai g 200 (fun _ => 0)), (M + 14, bw_ai g 64 (fun _ => 0))] := hC
  have hz : A.1 = M + 15 := hz
  refine bw_putFU 128 dX10_init_125 rfl pX10_57 rfl (hC.at 0 rfl) rfl rfl (Nat.le_of_ble_eq_true rfl) (fun A hU => ?_)
  have hC := hC.upd 0 rfl hU
  have hz := (congrArg Prod.fst hU).trans hz
  have hW := hW.upd hU (by omega)
  clear hU
  have hC : bw_has A [(M, .inr (12, [.int 0, .int 0, .int 0, .int 0, .int 0, .int 0, .ref (M + 1), .int 0, .ref (M + 2), .ref (M + 3), .ref (M + 4), .ref (M + 5), .ref (M + 6), .ref (M + 7), .int 0, .ref (M + 8), .ref (M + 9), .ref (M + 10), .ref (M + 11), .ref (M + 12), .ref (M + 13), .int (tI 0), .int 0, .ref (M + 14), .int 0, .null, .null, .null, .int 0, .null])), (M + 1, bw_ai g 130 (fun _ => 0)), (M + 2, bw_ai g 40 (fun _ => 0)), (M + 3, bw_ai g 40 (fun _ => 0)), (M + 4, bw_ai g 2560 (fun _ => 0)), (M + 5, bw_ai g 65536 (fun _ => 0)), (M + 6, bw_ai g 72 (fun _ => 0)), (M + 7, bw_ai g 8 (fun _ => 0)), (M + 8, bw_ai g 40 (fun _ => 0)), (M + 9, bw_ai g 2600 (fun _ => 0)), (M + 10, bw_ai g 200 (fun _ => 0)), (M + 11, bw_ai g 200 (fun _ => 0)), (M + 12, bw_ai g 200 (fun _ => 0)), (M + 13, bw_ai g 200 (fun _ => 0)), (M + 14, bw_ai g 64 (fun _ => 0))] := hC
  exact m_init_128 g hb8 hb16 hG hj1 hj2 hg2 hC hz hW
set_option maxHeartbeats 400000 in
set_option maxRecDepth 100000 in
theorem m_init_79 (g : bw_G) {A0 A : bw_H} {M n gg j0 : Nat} {b s : Int32} (hb8 : ¬ b = 16 → n = 8) (hb16 : b = 16 → n = 16) (hG : GFg n ((s.toBitVec.toNat % 2 ^ n + j0) % 2 ^ n) gg) (hj1 : bpr (2 ^ n ||| ((s.toBitVec.toNat % 2 ^ n + j0) % 2 ^ n)) (n / 2 + 1)) (hj2 : ∀ i, i < j0 → ¬ bpr (2 ^ n ||| ((s.toBitVec.toNat % 2 ^ n + i) % 2 ^ n)) (n / 2 + 1)) (hg2 : ∀ b, 2 ≤ b → b < gg → ¬ ggen n (2 ^ n ||| ((s.toBitVec.toNat % 2 ^ n + j0) % 2 ^ n)) b) (hC : bw_has A [(M, .inr (12, [.int 0, .int 0, .int 0, .int 0, .int 0, .int 0, .ref (M + 1), .int 0, .ref (M + 2), .ref (M + 3), .ref (M + 4), .ref (M + 5), .ref (M + 6), .ref (M + 7), .int 0, .ref (M + 8), .ref (M + 9), .null, .null, .null, .null, .int 0, .int 0, .null, .int 0, .null, .null, .null, .int 0, .null])), (M + 1, bw_ai g 130 (fun _ => 0)), (M + 2, bw_ai g 40 (fun _ => 0)), (M + 3, bw_ai g 40 (fun _ => 0)), (M + 4, bw_ai g 2560 (fun _ => 0)), (M + 5, bw_ai g 65536 (fun _ => 0)), (M + 6, bw_ai g 72 (fun _ => 0)), (M + 7, bw_ai g 8 (fun _ => 0)), (M + 8, bw_ai g 40 (fun _ => 0)), (M + 9, bw_ai g 2600 (fun _ => 0))]) (hz : A.1 = M + 10) (hW : bw_gw M A0 A) : bw_W g (bw_rm 3 18 72419) mX10_init (bw_pv (minP g n ((s.toBitVec.toNat % 2 ^ n + j0) % 2 ^ n) gg M A0)) 9 71026 79 [(0, .ref M), (1, .int b), (2, .int s)] [] A := by
  refine bw_aload_n 80 dX10_init_79 rfl rfl ?_
  refine bw_sipush (200) 83 dX10_init_80 (by decide) rfl ?_
  refine bw_eqi (y := nI 200) rfl ?_
  refine bw_ok (fun hok => ?_)
  refine bw_newiU 85 dX10_init_83 rfl bw_wI (by exact nI_pos (by omega)) (by exact nI_clamp (by omega)) (by omega) (Nat.le_of_ble_eq_true rfl) (Nat.le_of_ble_eq_true rfl) hz (fun A hU => ?_)
  have hC := hC.nwda hok hz hU
  have hW := hW.nwd hU hz (by omega)
  have hz := (congrArg Prod.fst hU).trans (congrArg (· + 1) hz)
  clear hU hok
  have hC : bw_has A [(M, .inr (12, [.int 0, .int 0, .int 0, .int 0, .int 0, .int 0, .ref (M + 1), .int 0, .ref (M + 2), .ref (M + 3), .ref (M + 4), .ref (M + 5), .ref (M + 6), .ref (M + 7), .int 0, .ref (M + 8), .ref (M + 9), .null, .null, .null, .null, .int 0, .int 0, .null, .int 0, .null, .null, .null, .int 0, .null])), (M + 1, bw_ai g 130 (fun _ => 0)), (M + 2, bw_ai g 40 (fun _ => 0)), (M + 3, bw_ai g 40 (fun _ => 0)), (M + 4, bw_ai g 2560 (fun _ => 0)), (M + 5, bw_ai g 65536 (fun _ => 0)), (M + 6, bw_ai g 72 (fun _ => 0)), (M + 7, bw_ai g 8 (fun _ => 0)), (M + 8, bw_ai g 40 (fun _ => 0)), (M + 9, bw_ai g 2600 (fun _ => 0)), (M + 10, bw_ai g 200 (fun _ => 0))] := hC
  have hz : A.1 = M + 11 := hz
  refine bw_putFU 88 dX10_init_85 rfl pX10_42 rfl (hC.at 0 rfl) rfl rfl (Nat.le_of_ble_eq_true rfl) (fun A hU => ?_)
  have hC := hC.upd 0 rfl hU
  have hz := (congrArg Prod.fst hU).trans hz
  have hW := hW.upd hU (by omega)
  clear hU
  have hC : bw_has A [(M, .inr (12, [.int 0, .int 0, .int 0, .int 0, .int 0, .int 0, .ref (M + 1), .int 0, .ref (M + 2), .ref (M + 3), .ref (M + 4), .ref (M + 5), .ref (M + 6), .ref (M + 7), .int 0, .ref (M + 8), .ref (M + 9), .ref (M + 10), .null, .null, .null, .int 0, .int 0, .null, .int 0, .null, .null, .null, .int 0, .null])), (M + 1, bw_ai g 130 (fun _ => 0)), (M + 2, bw_ai g 40 (fun _ => 0)), (M + 3, bw_ai g 40 (fun _ => 0)), (M + 4, bw_ai g 2560 (fun _ => 0)), (M + 5, bw_ai g 65536 (fun _ => 0)), (M + 6, bw_ai g 72 (fun _ => 0)), (M + 7, bw_ai g 8 (fun _ => 0)), (M + 8, bw_ai g 40 (fun _ => 0)), (M + 9, bw_ai g 2600 (fun _ => 0)), (M + 10, bw_ai g 200 (fun _ => 0))] := hC
  refine bw_aload_n 89 dX10_init_88 rfl rfl ?_
  refine bw_sipush (200) 92 dX10_init_89 (by decide) rfl ?_
  refine bw_eqi (y := nI 200) rfl ?_
  refine bw_ok (fun hok => ?_)
  refine bw_newiU 94 dX10_init_92 rfl bw_wI (by exact nI_pos (by omega)) (by exact nI_clamp (by omega)) (by omega) (Nat.le_of_ble_eq_true rfl) (Nat.le_of_ble_eq_true rfl) hz (fun A hU => ?_)
  have hC := hC.nwda hok hz hU
  have hW := hW.nwd hU hz (by omega)
  have hz := (congrArg Prod.fst hU).trans (congrArg (· + 1) hz)
  clear hU hok
  have hC : bw_has A [(M, .inr (12, [.int 0, .int 0, .int 0, .int 0, .int 0, .int 0, .ref (M + 1), .int 0, .ref (M + 2), .ref (M + 3), .ref (M + 4), .ref (M + 5), .ref (M + 6), .ref (M + 7), .int 0, .ref (M + 8), .ref (M + 9), .ref (M + 10), .null, .null, .null, .int 0, .int 0, .null, .int 0, .null, .null, .null, .int 0, .null])), (M + 1, bw_ai g 130 (fun _ => 0)), (M + 2, bw_ai g 40 (fun _ => 0)), (M + 3, bw_ai g 40 (fun _ => 0)), (M + 4, bw_ai g 2560 (fun _ => 0)), (M + 5, bw_ai g 65536 (fun _ => 0)), (M + 6, bw_ai g 72 (fun _ => 0)), (M + 7, bw_ai g 8 (fun _ => 0)), (M + 8, bw_ai g 40 (fun _ => 0)), (M + 9, bw_ai g 2600 (fun _ => 0)), (M + 10, bw_ai g 200 (fun _ => 0)), (M + 11, bw_ai g 200 (fun _ => 0))] := hC
  have hz : A.1 = M + 12 := hz
  refine bw_putFU 97 dX10_init_94 rfl pX10_45 rfl (hC.at 0 rfl) rfl rfl (Nat.le_of_ble_eq_true rfl) (fun A hU => ?_)
  have hC := hC.upd 0 rfl hU
  have hz := (congrArg Prod.fst hU).trans hz
  have hW := hW.upd hU (by omega)
  clear hU
  have hC : bw_has A [(M, .inr (12, [.int 0, .int 0, .int 0, .int 0, .int 0, .int 0, .ref (M + 1), .int 0, .ref (M + 2), .ref (M + 3), .ref (M + 4), .ref (M + 5), .ref (M + 6), .ref (M + 7), .int 0, .ref (M + 8), .ref (M + 9), .ref (M + 10), .ref (M + 11), .null, .null, .int 0, .int 0, .null, .int 0, .null, .null, .null, .int 0, .null])), (M + 1, bw_ai g 130 (fun _ => 0)), (M + 2, bw_ai g 40 (fun _ => 0)), (M + 3, bw_ai g 40 (fun _ => 0)), (M + 4, bw_ai g 2560 (fun _ => 0)), (M + 5, bw_ai g 65536 (fun _ => 0)), (M + 6, bw_ai g 72 (fun _ => 0)), (M + 7, bw_ai g 8 (fun _ => 0)), (M + 8, bw_ai g 40 (fun _ => 0)), (M + 9, bw_ai g 2600 (fun _ => 0)), (M + 10, bw_ai g 200 (fun _ => 0)), (M + 11, bw_ai g 200 (fun _ => 0))] := hC
  refine bw_aload_n 98 dX10_init_97 rfl rfl ?_
  refine bw_sipush (200) 101 dX10_init_98 (by decide) rfl ?_
  refine bw_eqi (y := nI 200) rfl ?_
  refine bw_ok (fun hok => ?_)
  refine bw_newiU 103 dX10_init_101 rfl bw_wI (by exact nI_pos (by omega)) (by exact nI_clamp (by omega)) (by omega) (Nat.le_of_ble_eq_true rfl) (Nat.le_of_ble_eq_true rfl) hz (fun A hU => ?_)
  have hC := hC.nwda hok hz hU
  have hW := hW.nwd hU hz (by omega)
  have hz := (congrArg Prod.fst hU).trans (congrArg (· + 1) hz)
  clear hU hok
  have hC : bw_has A [(M, .inr (12, [.int 0, .int 0, .int 0, .int 0, .int 0, .int 0, .ref (M + 1), .int 0, .ref (M + 2), .ref (M + 3), .ref (M + 4), .ref (M + 5), .ref (M + 6), .ref (M + 7), .int 0, .ref (M + 8), .ref (M + 9), .ref (M + 10), .ref (M + 11), .null, .null, .int 0, .int 0, .null, .int 0, .null, .null, .null, .int 0, .null])), (M + 1, bw_ai g 130 (fun _ => 0)), (M + 2, bw_ai g 40 (fun _ => 0)), (M + 3, bw_ai g 40 (fun _ => 0)), (M + 4, bw_ai g 2560 (fun _ => 0)), (M + 5, bw_ai g 65536 (fun _ => 0)), (M + 6, bw_ai g 72 (fun _ => 0)), (M + 7, bw_ai g 8 (fun _ => 0)), (M + 8, bw_ai g 40 (fun _ => 0)), (M + 9, bw_ai g 2600 (fun _ => 0)), (M + 10, bw_ai g 200 (fun _ => 0)), (M + 11, bw_ai g 200 (fun _ => 0)), (M + 12, bw_ai g 200 (fun _ => 0))] := hC
  have hz : A.1 = M + 13 := hz
  refine bw_putFU 106 dX10_init_103 rfl pX10_48 rfl (hC.at 0 rfl) rfl rfl (Nat.le_of_ble_eq_true rfl) (fun A hU => ?_)
  have hC := hC.upd 0 rfl hU
  have hz := (congrArg Prod.fst hU).trans hz
  have hW := hW.upd hU (by omega)
  clear hU
  have hC : bw_has A [(M, .inr (12, [.int 0, .int 0, .int 0, .int 0, .int 0, .int 0, .ref (M + 1), .int 0, .ref (M + 2), .ref (M + 3), .ref (M + 4), .ref (M + 5), .ref (M + 6), .ref (M + 7), .int 0, .ref (M + 8), .ref (M + 9), .ref (M + 10), .ref (M + 11), .ref (M + 12), .null, .int 0, .int 0, .null, .int 0, .null, .null, .null, .int 0, .null])), (M + 1, bw_ai g 130 (fun _ => 0)), (M + 2, bw_ai g 40 (fun _ => 0)), (M + 3, bw_ai g 40 (fun _ => 0)), (M + 4, bw_ai g 2560 (fun _ => 0)), (M + 5, bw_ai g 65536 (fun _ => 0)), (M + 6, bw_ai g 72 (fun _ => 0)), (M + 7, bw_ai g 8 (fun _ => 0)), (M + 8, bw_ai g 40 (fun _ => 0)), (M + 9, bw_ai g 2600 (fun _ => 0)), (M + 10, bw_ai g 200 (fun _ => 0)), (M + 11, bw_ai g 200 (fun _ => 0)), (M + 12, bw_ai g 200 (fun _ => 0))] := hC
  exact m_init_106 g hb8 hb16 hG hj1 hj2 hg2 hC hz hW
set_option maxHeartbeats 400000 in
set_option maxRecDepth 100000 in
theorem m_init_54 (g : bw_G) {A0 A : bw_H} {M n gg j0 : Nat} {b s : Int32} (hb8 : ¬ b = 16 → n = 8) (hb16 : b = 16 → n = 16) (hG : GFg n ((s.toBitVec.toNat % 2 ^ n + j0) % 2 ^ n) gg) (hj1 : bpr (2 ^ n ||| ((s.toBitVec.toNat % 2 ^ n + j0) % 2 ^ n)) (n / 2 + 1)) (hj2 : ∀ i, i < j0 → ¬ bpr (2 ^ n ||| ((s.toBitVec.toNat % 2 ^ n + i) % 2 ^ n)) (n / 2 + 1)) (hg2 : ∀ b, 2 ≤ b → b < gg → ¬ ggen n (2 ^ n ||| ((s.toBitVec.toNat % 2 ^ n + j0) % 2 ^ n)) b) (hC : bw_has A [(M, .inr (12, [.int 0, .int 0, .int 0, .int 0, .int 0, .int 0, .ref (M + 1), .int 0, .ref (M + 2), .ref (M + 3), .ref (M + 4), .ref (M + 5), .ref (M + 6), .null, .int 0, .null, .null, .null, .null, .null, .null, .int 0, .int 0, .null, .int 0, .null, .null, .null, .int 0, .null])), (M + 1, bw_ai g 130 (fun _ => 0)), (M + 2, bw_ai g 40 (fun _ => 0)), (M + 3, bw_ai g 40 (fun _ => 0)), (M + 4, bw_ai g 2560 (fun _ => 0)), (M + 5, bw_ai g 65536 (fun _ => 0)), (M + 6, bw_ai g 72 (fun _ => 0))]) (hz : A.1 = M + 7) (hW : bw_gw M A0 A) : bw_W g (bw_rm 3 18 72419) mX10_init (bw_pv (minP g n ((s.toBitVec.toNat % 2 ^ n + j0) % 2 ^ n) gg M A0)) 6 68378 54 [(0, .ref M), (1, .int b), (2, .int s)] [] A := by
  refine bw_aload_n 55 dX10_init_54 rfl rfl ?_
  refine bw_bipush (8) 57 dX10_init_55 (by decide) rfl ?_
  refine bw_eqi (y := nI 8) rfl ?_
  refine bw_ok (fun hok => ?_)
  refine bw_newiU 59 dX10_init_57 rfl bw_wI (by exact nI_pos (by omega)) (by exact nI_clamp (by omega)) (by omega) (Nat.le_of_ble_eq_true rfl) (Nat.le_of_ble_eq_true rfl) hz (fun A hU => ?_)
  have hC := hC.nwda hok hz hU
  have hW := hW.nwd hU hz (by omega)
  have hz := (congrArg Prod.fst hU).trans (congrArg (· + 1) hz)
  clear hU hok
  have hC : bw_has A [(M, .inr (12, [.int 0, .int 0, .int 0, .int 0, .int 0, .int 0, .ref (M + 1), .int 0, .ref (M + 2), .ref (M + 3), .ref (M + 4), .ref (M + 5), .ref (M + 6), .null, .int 0, .null, .null, .null, .null, .null, .null, .int 0, .int 0, .null, .int 0, .null, .null, .null, .int 0, .null])), (M + 1, bw_ai g 130 (fun _ => 0)), (M + 2, bw_ai g 40 (fun _ => 0)), (M + 3, bw_ai g 40 (fun _ => 0)), (M + 4, bw_ai g 2560 (fun _ => 0)), (M + 5, bw_ai g 65536 (fun _ => 0)), (M + 6, bw_ai g 72 (fun _ => 0)), (M + 7, bw_ai g 8 (fun _ => 0))] := hC
  have hz : A.1 = M + 8 := hz
  refine bw_putFU 62 dX10_init_59 rfl pX10_33 rfl (hC.at 0 rfl) rfl rfl (Nat.le_of_ble_eq_true rfl) (fun A hU => ?_)
  have hC := hC.upd 0 rfl hU
  have hz := (congrArg Prod.fst hU).trans hz
  have hW := hW.upd hU (by omega)
  clear hU
  have hC : bw_has A [(M, .inr (12, [.int 0, .int 0, .int 0, .int 0, .int 0, .int 0, .ref (M + 1), .int 0, .ref (M + 2), .ref (M + 3), .ref (M + 4), .ref (M + 5), .ref (M + 6), .ref (M + 7), .int 0, .null, .null, .null, .null, .null, .null, .int 0, .int 0, .null, .int 0, .null, .null, .null, .int 0, .null])), (M + 1, bw_ai g 130 (fun _ => 0)), (M + 2, bw_ai g 40 (fun _ => 0)), (M + 3, bw_ai g 40 (fun _ => 0)), (M + 4, bw_ai g 2560 (fun _ => 0)), (M + 5, bw_ai g 65536 (fun _ => 0)), (M + 6, bw_ai g 72 (fun _ => 0)), (M + 7, bw_ai g 8 (fun _ => 0))] := hC
  refine bw_aload_n 63 dX10_init_62 rfl rfl ?_
  refine bw_bipush (40) 65 dX10_init_63 (by decide) rfl ?_
  refine bw_eqi (y := nI 40) rfl ?_
  refine bw_ok (fun hok => ?_)
  refine bw_newiU 67 dX10_init_65 rfl bw_wI (by exact nI_pos (by omega)) (by exact nI_clamp (by omega)) (by omega) (Nat.le_of_ble_eq_true rfl) (Nat.le_of_ble_eq_true rfl) hz (fun A hU => ?_)
  have hC := hC.nwda hok hz hU
  have hW := hW.nwd hU hz (by omega)
  have hz := (congrArg Prod.fst hU).trans (congrArg (· + 1) hz)
  clear hU hok
  have hC : bw_has A [(M, .inr (12, [.int 0, .int 0, .int 0, .int 0, .int 0, .int 0, .ref (M + 1), .int 0, .ref (M + 2), .ref (M + 3), .ref (M + 4), .ref (M + 5), .ref (M + 6), .ref (M + 7), .int 0, .null, .null, .null, .null, .null, .null, .int 0, .int 0, .null, .int 0, .null, .null, .null, .int 0, .null])), (M + 1, bw_ai g 130 (fun _ => 0)), (M + 2, bw_ai g 40 (fun _ => 0)), (M + 3, bw_ai g 40 (fun _ => 0)), (M + 4, bw_ai g 2560 (fun _ => 0)), (M + 5, bw_ai g 65536 (fun _ => 0)), (M + 6, bw_ai g 72 (fun _ => 0)), (M + 7, bw_ai g 8 (fun _ => 0)), (M + 8, bw_ai g 40 (fun _ => 0))] := hC
  have hz : A.1 = M + 9 := hz
  refine bw_putFU 70 dX10_init_67 rfl pX10_36 rfl (hC.at 0 rfl) rfl rfl (Nat.le_of_ble_eq_true rfl) (fun A hU => ?_)
  have hC := hC.upd 0 rfl hU
  have hz := (congrArg Prod.fst hU).trans hz
  have hW := hW.upd hU (by omega)
  clear hU
  have hC : bw_has A [(M, .inr (12, [.int 0, .int 0, .int 0, .int 0, .int 0, .int 0, .ref (M + 1), .int 0, .ref (M + 2), .ref (M + 3), .ref (M + 4), .ref (M + 5), .ref (M + 6), .ref (M + 7), .int 0, .ref (M + 8), .null, .null, .null, .null, .null, .int 0, .int 0, .null, .int 0, .null, .null, .null, .int 0, .null])), (M + 1, bw_ai g 130 (fun _ => 0)), (M + 2, bw_ai g 40 (fun _ => 0)), (M + 3, bw_ai g 40 (fun _ => 0)), (M + 4, bw_ai g 2560 (fun _ => 0)), (M + 5, bw_ai g 65536 (fun _ => 0)), (M + 6, bw_ai g 72 (fun _ => 0)), (M + 7, bw_ai g 8 (fun _ => 0)), (M + 8, bw_ai g 40 (fun _ => 0))] := hC
  refine bw_aload_n 71 dX10_init_70 rfl rfl ?_
  refine bw_sipush (2600) 74 dX10_init_71 (by decide) rfl ?_
  refine bw_eqi (y := nI 2600) rfl ?_
  refine bw_ok (fun hok => ?_)
  refine bw_newiU 76 dX10_init_74 rfl bw_wI (by exact nI_pos (by omega)) (by exact nI_clamp (by omega)) (by omega) (Nat.le_of_ble_eq_true rfl) (Nat.le_of_ble_eq_true rfl) hz (fun A hU => ?_)
  have hC := hC.nwda hok hz hU
  have hW := hW.nwd hU hz (by omega)
  have hz := (congrArg Prod.fst hU).trans (congrArg (· + 1) hz)
  clear hU hok
  have hC : bw_has A [(M, .inr (12, [.int 0, .int 0, .int 0, .int 0, .int 0, .int 0, .ref (M + 1), .int 0, .ref (M + 2), .ref (M + 3), .ref (M + 4), .ref (M + 5), .ref (M + 6), .ref (M + 7), .int 0, .ref (M + 8), .null, .null, .null, .null, .null, .int 0, .int 0, .null, .int 0, .null, .null, .null, .int 0, .null])), (M + 1, bw_ai g 130 (fun _ => 0)), (M + 2, bw_ai g 40 (fun _ => 0)), (M + 3, bw_ai g 40 (fun _ => 0)), (M + 4, bw_ai g 2560 (fun _ => 0)), (M + 5, bw_ai g 65536 (fun _ => 0)), (M + 6, bw_ai g 72 (fun _ => 0)), (M + 7, bw_ai g 8 (fun _ => 0)), (M + 8, bw_ai g 40 (fun _ => 0)), (M + 9, bw_ai g 2600 (fun _ => 0))] := hC
  have hz : A.1 = M + 10 := hz
  refine bw_putFU 79 dX10_init_76 rfl pX10_39 rfl (hC.at 0 rfl) rfl rfl (Nat.le_of_ble_eq_true rfl) (fun A hU => ?_)
  have hC := hC.upd 0 rfl hU
  have hz := (congrArg Prod.fst hU).trans hz
  have hW := hW.upd hU (by omega)
  clear hU
  have hC : bw_has A [(M, .inr (12, [.int 0, .int 0, .int 0, .int 0, .int 0, .int 0, .ref (M + 1), .int 0, .ref (M + 2), .ref (M + 3), .ref (M + 4), .ref (M + 5), .ref (M + 6), .ref (M + 7), .int 0, .ref (M + 8), .ref (M + 9), .null, .null, .null, .null, .int 0, .int 0, .null, .int 0, .null, .null, .null, .int 0, .null])), (M + 1, bw_ai g 130 (fun _ => 0)), (M + 2, bw_ai g 40 (fun _ => 0)), (M + 3, bw_ai g 40 (fun _ => 0)), (M + 4, bw_ai g 2560 (fun _ => 0)), (M + 5, bw_ai g 65536 (fun _ => 0)), (M + 6, bw_ai g 72 (fun _ => 0)), (M + 7, bw_ai g 8 (fun _ => 0)), (M + 8, bw_ai g 40 (fun _ => 0)), (M + 9, bw_ai g 2600 (fun _ => 0))] := hC
  exact m_init_79 g hb8 hb16 hG hj1 hj2 hg2 hC hz hW
set_option maxHeartbeats 400000 in
set_option maxRecDepth 100000 in
theorem m_init_29 (g : bw_G) {A0 A : bw_H} {M n gg j0 : Nat} {b s : Int32} (hb8 : ¬ b = 16 → n = 8) (hb16 : b = 16 → n = 16) (hG : GFg n ((s.toBitVec.toNat % 2 ^ n + j0) % 2 ^ n) gg) (hj1 : bpr (2 ^ n ||| ((s.toBitVec.toNat % 2 ^ n + j0) % 2 ^ n)) (n / 2 + 1)) (hj2 : ∀ i, i < j0 → ¬ bpr (2 ^ n ||| ((s.toBitVec.toNat % 2 ^ n + i) % 2 ^ n)) (n / 2 + 1)) (hg2 : ∀ b, 2 ≤ b → b < gg → ¬ ggen n (2 ^ n ||| ((s.toBitVec.toNat % 2 ^ n + j0) % 2 ^ n)) b) (hC : bw_has A [(M, .inr (12, [.int 0, .int 0, .int 0, .int 0, .int 0, .int 0, .ref (M + 1), .int 0, .ref (M + 2), .ref (M + 3), .null, .null, .null, .null, .int 0, .null, .null, .null, .null, .null, .null, .int 0, .int 0, .null, .int 0, .null, .null, .null, .int 0, .null])), (M + 1, bw_ai g 130 (fun _ => 0)), (M + 2, bw_ai g 40 (fun _ => 0)), (M + 3, bw_ai g 40 (fun _ => 0))]) (hz : A.1 = M + 4) (hW : bw_gw M A0 A) : bw_W g (bw_rm 3 18 72419) mX10_init (bw_pv (minP g n ((s.toBitVec.toNat % 2 ^ n + j0) % 2 ^ n) gg M A0)) 3 210 29 [(0, .ref M), (1, .int b), (2, .int s)] [] A := by
  refine bw_aload_n 30 dX10_init_29 rfl rfl ?_
  refine bw_sipush (2560) 33 dX10_init_30 (by decide) rfl ?_
  refine bw_eqi (y := nI 2560) rfl ?_
  refine bw_ok (fun hok => ?_)
  refine bw_newiU 35 dX10_init_33 rfl bw_wI (by exact nI_pos (by omega)) (by exact nI_clamp (by omega)) (by omega) (Nat.le_of_ble_eq_true rfl) (Nat.le_of_ble_eq_true rfl) hz (fun A hU => ?_)
  have hC := hC.nwda hok hz hU
  have hW := hW.nwd hU hz (by omega)
  have hz := (congrArg Prod.fst hU).trans (congrArg (· + 1) hz)
  clear hU hok
  have hC : bw_has A [(M, .inr (12, [.int 0, .int 0, .int 0, .int 0, .int 0, .int 0, .ref (M + 1), .int 0, .ref (M + 2), .ref (M + 3), .null, .null, .null, .null, .int 0, .null, .null, .null, .null, .null, .null, .int 0, .int 0, .null, .int 0, .null, .null, .null, .int 0, .null])), (M + 1, bw_ai g 130 (fun _ => 0)), (M + 2, bw_ai g 40 (fun _ => 0)), (M + 3, bw_ai g 40 (fun _ => 0)), (M + 4, bw_ai g 2560 (fun _ => 0))] := hC
  have hz : A.1 = M + 5 := hz
  refine bw_putFU 38 dX10_init_35 rfl pX10_23 rfl (hC.at 0 rfl) rfl rfl (Nat.le_of_ble_eq_true rfl) (fun A hU => ?_)
  have hC := hC.upd 0 rfl hU
  have hz := (congrArg Prod.fst hU).trans hz
  have hW := hW.upd hU (by omega)
  clear hU
  have hC : bw_has A [(M, .inr (12, [.int 0, .int 0, .int 0, .int 0, .int 0, .int 0, .ref (M + 1), .int 0, .ref (M + 2), .ref (M + 3), .ref (M + 4), .null, .null, .null, .int 0, .null, .null, .null, .null, .null, .null, .int 0, .int 0, .null, .int 0, .null, .null, .null, .int 0, .null])), (M + 1, bw_ai g 130 (fun _ => 0)), (M + 2, bw_ai g 40 (fun _ => 0)), (M + 3, bw_ai g 40 (fun _ => 0)), (M + 4, bw_ai g 2560 (fun _ => 0))] := hC
  refine bw_aload_n 39 dX10_init_38 rfl rfl ?_
  refine bw_ldc 41 dX10_init_39 kX10_26 rfl ?_
  refine bw_eqi (show (65536 : Int32) = nI 65536 from rfl) ?_
  refine bw_ok (fun hok => ?_)
  refine bw_newiU 43 dX10_init_41 rfl bw_wI (by exact nI_pos (by omega)) (by exact nI_clamp (by omega)) (by omega) (Nat.le_of_ble_eq_true rfl) (Nat.le_of_ble_eq_true rfl) hz (fun A hU => ?_)
  have hC := hC.nwda hok hz hU
  have hW := hW.nwd hU hz (by omega)
  have hz := (congrArg Prod.fst hU).trans (congrArg (· + 1) hz)
  clear hU hok
  have hC : bw_has A [(M, .inr (12, [.int 0, .int 0, .int 0, .int 0, .int 0, .int 0, .ref (M + 1), .int 0, .ref (M + 2), .ref (M + 3), .ref (M + 4), .null, .null, .null, .int 0, .null, .null, .null, .null, .null, .null, .int 0, .int 0, .null, .int 0, .null, .null, .null, .int 0, .null])), (M + 1, bw_ai g 130 (fun _ => 0)), (M + 2, bw_ai g 40 (fun _ => 0)), (M + 3, bw_ai g 40 (fun _ => 0)), (M + 4, bw_ai g 2560 (fun _ => 0)), (M + 5, bw_ai g 65536 (fun _ => 0))] := hC
  have hz : A.1 = M + 6 := hz
  refine bw_putFU 46 dX10_init_43 rfl pX10_27 rfl (hC.at 0 rfl) rfl rfl (Nat.le_of_ble_eq_true rfl) (fun A hU => ?_)
  have hC := hC.upd 0 rfl hU
  have hz := (congrArg Prod.fst hU).trans hz
  have hW := hW.upd hU (by omega)
  clear hU
  have hC : bw_has A [(M, .inr (12, [.int 0, .int 0, .int 0, .int 0, .int 0, .int 0, .ref (M + 1), .int 0, .ref (M + 2), .ref (M + 3), .ref (M + 4), .ref (M + 5), .null, .null, .int 0, .null, .null, .null, .null, .null, .null, .int 0, .int 0, .null, .int 0, .null, .null, .null, .int 0, .null])), (M + 1, bw_ai g 130 (fun _ => 0)), (M + 2, bw_ai g 40 (fun _ => 0)), (M + 3, bw_ai g 40 (fun _ => 0)), (M + 4, bw_ai g 2560 (fun _ => 0)), (M + 5, bw_ai g 65536 (fun _ => 0))] := hC
  refine bw_aload_n 47 dX10_init_46 rfl rfl ?_
  refine bw_bipush (72) 49 dX10_init_47 (by decide) rfl ?_
  refine bw_eqi (y := nI 72) rfl ?_
  refine bw_ok (fun hok => ?_)
  refine bw_newiU 51 dX10_init_49 rfl bw_wI (by exact nI_pos (by omega)) (by exact nI_clamp (by omega)) (by omega) (Nat.le_of_ble_eq_true rfl) (Nat.le_of_ble_eq_true rfl) hz (fun A hU => ?_)
  have hC := hC.nwda hok hz hU
  have hW := hW.nwd hU hz (by omega)
  have hz := (congrArg Prod.fst hU).trans (congrArg (· + 1) hz)
  clear hU hok
  have hC : bw_has A [(M, .inr (12, [.int 0, .int 0, .int 0, .int 0, .int 0, .int 0, .ref (M + 1), .int 0, .ref (M + 2), .ref (M + 3), .ref (M + 4), .ref (M + 5), .null, .null, .int 0, .null, .null, .null, .null, .null, .null, .int 0, .int 0, .null, .int 0, .null, .null, .null, .int 0, .null])), (M + 1, bw_ai g 130 (fun _ => 0)), (M + 2, bw_ai g 40 (fun _ => 0)), (M + 3, bw_ai g 40 (fun _ => 0)), (M + 4, bw_ai g 2560 (fun _ => 0)), (M + 5, bw_ai g 65536 (fun _ => 0)), (M + 6, bw_ai g 72 (fun _ => 0))] := hC
  have hz : A.1 = M + 7 := hz
  refine bw_putFU 54 dX10_init_51 rfl pX10_30 rfl (hC.at 0 rfl) rfl rfl (Nat.le_of_ble_eq_true rfl) (fun A hU => ?_)
  have hC := hC.upd 0 rfl hU
  have hz := (congrArg Prod.fst hU).trans hz
  have hW := hW.upd hU (by omega)
  clear hU
  have hC : bw_has A [(M, .inr (12, [.int 0, .int 0, .int 0, .int 0, .int 0, .int 0, .ref (M + 1), .int 0, .ref (M + 2), .ref (M + 3), .ref (M + 4), .ref (M + 5), .ref (M + 6), .null, .int 0, .null, .null, .null, .null, .null, .null, .int 0, .int 0, .null, .int 0, .null, .null, .null, .int 0, .null])), (M + 1, bw_ai g 130 (fun _ => 0)), (M + 2, bw_ai g 40 (fun _ => 0)), (M + 3, bw_ai g 40 (fun _ => 0)), (M + 4, bw_ai g 2560 (fun _ => 0)), (M + 5, bw_ai g 65536 (fun _ => 0)), (M + 6, bw_ai g 72 (fun _ => 0))] := hC
  exact m_init_54 g hb8 hb16 hG hj1 hj2 hg2 hC hz hW
set_option maxHeartbeats 400000 in
set_option maxRecDepth 100000 in
theorem m_init_0 (g : bw_G) {A0 A : bw_H} {M n gg j0 : Nat} {b s : Int32} (hb8 : ¬ b = 16 → n = 8) (hb16 : b = 16 → n = 16) (hG : GFg n ((s.toBitVec.toNat % 2 ^ n + j0) % 2 ^ n) gg) (hj1 : bpr (2 ^ n ||| ((s.toBitVec.toNat % 2 ^ n + j0) % 2 ^ n)) (n / 2 + 1)) (hj2 : ∀ i, i < j0 → ¬ bpr (2 ^ n ||| ((s.toBitVec.toNat % 2 ^ n + i) % 2 ^ n)) (n / 2 + 1)) (hg2 : ∀ b, 2 ≤ b → b < gg → ¬ ggen n (2 ^ n ||| ((s.toBitVec.toNat % 2 ^ n + j0) % 2 ^ n)) b) (hC : bw_has A [(M, .inr (12, [.int 0, .int 0, .int 0, .int 0, .int 0, .int 0, .null, .int 0, .null, .null, .null, .null, .null, .null, .int 0, .null, .null, .null, .null, .null, .null, .int 0, .int 0, .null, .int 0, .null, .null, .null, .int 0, .null]))]) (hz : A.1 = M + 1) (hW : bw_gw M A0 A) : bw_W g (bw_rm 3 18 72419) mX10_init (bw_pv (minP g n ((s.toBitVec.toNat % 2 ^ n + j0) % 2 ^ n) gg M A0)) 0 0 0 [(0, .ref M), (1, .int b), (2, .int s)] [] A := by
  refine bw_aload_n 1 dX10_init_0 rfl rfl ?_
  refine bw_objInit 4 dX10_init_1 rfl oX10_7 bw_oI bw_oC (Nat.le_of_ble_eq_true rfl) (Nat.le_of_ble_eq_true rfl) ?_
  refine bw_aload_n 5 dX10_init_4 rfl rfl ?_
  refine bw_sipush (130) 8 dX10_init_5 (by decide) rfl ?_
  refine bw_eqi (y := nI 130) rfl ?_
  refine bw_ok (fun hok => ?_)
  refine bw_newiU 10 dX10_init_8 rfl bw_wI (by exact nI_pos (by omega)) (by exact nI_clamp (by omega)) (by omega) (Nat.le_of_ble_eq_true rfl) (Nat.le_of_ble_eq_true rfl) hz (fun A hU => ?_)
  have hC := hC.nwda hok hz hU
  have hW := hW.nwd hU hz (by omega)
  have hz := (congrArg Prod.fst hU).trans (congrArg (· + 1) hz)
  clear hU hok
  have hC : bw_has A [(M, .inr (12, [.int 0, .int 0, .int 0, .int 0, .int 0, .int 0, .null, .int 0, .null, .null, .null, .null, .null, .null, .int 0, .null, .null, .null, .null, .null, .null, .int 0, .int 0, .null, .int 0, .null, .null, .null, .int 0, .null])), (M + 1, bw_ai g 130 (fun _ => 0))] := hC
  have hz : A.1 = M + 2 := hz
  refine bw_putFU 13 dX10_init_10 rfl pX10_13 rfl (hC.at 0 rfl) rfl rfl (Nat.le_of_ble_eq_true rfl) (fun A hU => ?_)
  have hC := hC.upd 0 rfl hU
  have hz := (congrArg Prod.fst hU).trans hz
  have hW := hW.upd hU (by omega)
  clear hU
  have hC : bw_has A [(M, .inr (12, [.int 0, .int 0, .int 0, .int 0, .int 0, .int 0, .ref (M + 1), .int 0, .null, .null, .null, .null, .null, .null, .int 0, .null, .null, .null, .null, .null, .null, .int 0, .int 0, .null, .int 0, .null, .null, .null, .int 0, .null])), (M + 1, bw_ai g 130 (fun _ => 0))] := hC
  refine bw_aload_n 14 dX10_init_13 rfl rfl ?_
  refine bw_bipush (40) 16 dX10_init_14 (by decide) rfl ?_
  refine bw_eqi (y := nI 40) rfl ?_
  refine bw_ok (fun hok => ?_)
  refine bw_newiU 18 dX10_init_16 rfl bw_wI (by exact nI_pos (by omega)) (by exact nI_clamp (by omega)) (by omega) (Nat.le_of_ble_eq_true rfl) (Nat.le_of_ble_eq_true rfl) hz (fun A hU => ?_)
  have hC := hC.nwda hok hz hU
  have hW := hW.nwd hU hz (by omega)
  have hz := (congrArg Prod.fst hU).trans (congrArg (· + 1) hz)
  clear hU hok
  have hC : bw_has A [(M, .inr (12, [.int 0, .int 0, .int 0, .int 0, .int 0, .int 0, .ref (M + 1), .int 0, .null, .null, .null, .null, .null, .null, .int 0, .null, .null, .null, .null, .null, .null, .int 0, .int 0, .null, .int 0, .null, .null, .null, .int 0, .null])), (M + 1, bw_ai g 130 (fun _ => 0)), (M + 2, bw_ai g 40 (fun _ => 0))] := hC
  have hz : A.1 = M + 3 := hz
  refine bw_putFU 21 dX10_init_18 rfl pX10_17 rfl (hC.at 0 rfl) rfl rfl (Nat.le_of_ble_eq_true rfl) (fun A hU => ?_)
  have hC := hC.upd 0 rfl hU
  have hz := (congrArg Prod.fst hU).trans hz
  have hW := hW.upd hU (by omega)
  clear hU
  have hC : bw_has A [(M, .inr (12, [.int 0, .int 0, .int 0, .int 0, .int 0, .int 0, .ref (M + 1), .int 0, .ref (M + 2), .null, .null, .null, .null, .null, .int 0, .null, .null, .null, .null, .null, .null, .int 0, .int 0, .null, .int 0, .null, .null, .null, .int 0, .null])), (M + 1, bw_ai g 130 (fun _ => 0)), (M + 2, bw_ai g 40 (fun _ => 0))] := hC
  refine bw_aload_n 22 dX10_init_21 rfl rfl ?_
  refine bw_bipush (40) 24 dX10_init_22 (by decide) rfl ?_
  refine bw_eqi (y := nI 40) rfl ?_
  refine bw_ok (fun hok => ?_)
  refine bw_newiU 26 dX10_init_24 rfl bw_wI (by exact nI_pos (by omega)) (by exact nI_clamp (by omega)) (by omega) (Nat.le_of_ble_eq_true rfl) (Nat.le_of_ble_eq_true rfl) hz (fun A hU => ?_)
  have hC := hC.nwda hok hz hU
  have hW := hW.nwd hU hz (by omega)
  have hz := (congrArg Prod.fst hU).trans (congrArg (· + 1) hz)
  clear hU hok
  have hC : bw_has A [(M, .inr (12, [.int 0, .int 0, .int 0, .int 0, .int 0, .int 0, .ref (M + 1), .int 0, .ref (M + 2), .null, .null, .null, .null, .null, .int 0, .null, .null, .null, .null, .null, .null, .int 0, .int 0, .null, .int 0, .null, .null, .null, .int 0, .null])), (M + 1, bw_ai g 130 (fun _ => 0)), (M + 2, bw_ai g 40 (fun _ => 0)), (M + 3, bw_ai g 40 (fun _ => 0))] := hC
  have hz : A.1 = M + 4 := hz
  refine bw_putFU 29 dX10_init_26 rfl pX10_20 rfl (hC.at 0 rfl) rfl rfl (Nat.le_of_ble_eq_true rfl) (fun A hU => ?_)
  have hC := hC.upd 0 rfl hU
  have hz := (congrArg Prod.fst hU).trans hz
  have hW := hW.upd hU (by omega)
  clear hU
  have hC : bw_has A [(M, .inr (12, [.int 0, .int 0, .int 0, .int 0, .int 0, .int 0, .ref (M + 1), .int 0, .ref (M + 2), .ref (M + 3), .null, .null, .null, .null, .int 0, .null, .null, .null, .null, .null, .null, .int 0, .int 0, .null, .int 0, .null, .null, .null, .int 0, .null])), (M + 1, bw_ai g 130 (fun _ => 0)), (M + 2, bw_ai g 40 (fun _ => 0)), (M + 3, bw_ai g 40 (fun _ => 0))] := hC
  exact m_init_29 g hb8 hb16 hG hj1 hj2 hg2 hC hz hW
theorem m_init (g : bw_G) {A0 : bw_H} {M n p gg j0 : Nat} {b s : Int32} (hG : GFg n p gg) (hb8 : ¬ b = 16 → n = 8) (hb16 : b = 16 → n = 16) (hj1 : bpr (2 ^ n ||| ((s.toBitVec.toNat % 2 ^ n + j0) % 2 ^ n)) (n / 2 + 1)) (hj2 : ∀ i, i < j0 → ¬ bpr (2 ^ n ||| ((s.toBitVec.toNat % 2 ^ n + i) % 2 ^ n)) (n / 2 + 1)) (hp : (s.toBitVec.toNat % 2 ^ n + j0) % 2 ^ n = p) (hg2 : ∀ b, 2 ≤ b → b < gg → ¬ ggen n (2 ^ n ||| p) b)
    (hC : bw_has A0 [(M, .inr (12, [.int 0, .int 0, .int 0, .int 0, .int 0, .int 0, .null, .int 0, .null, .null, .null, .null, .null, .null, .int 0, .null, .null, .null, .null, .null, .null, .int 0, .int 0, .null, .int 0, .null, .null, .null, .int 0, .null]))]) (hz : A0.1 = M + 1) :
    bw_C g (bw_rm 3 18 72419) mX10_init [.ref M, .int b, .int s] A0 (bw_pv (minP g n p gg M A0)) := by
  subst hp
  exact bw_C.of (by decide) (Nat.le_of_ble_eq_true rfl) rfl (m_init_0 g hb8 hb16 hG hj1 hj2 hg2 hC hz bw_gw.rf)
