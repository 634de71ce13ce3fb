/-! the class itself: its cells, its constructor -/
theorem bw_rw.gw {g : bw_G} {A A' : bw_H} {eb c M y : Nat} {w : Nat → Nat → Nat} (h : bw_rw g A eb c M w) (hW : bw_gw y A A') (hy : eb + c ≤ y) : bw_rw g A' eb c M w := by
  intro i hi
  rw [hW _ (by omega)]
  exact h i hi
theorem bw_rq.gw {g : bw_G} {A A' : bw_H} {rb n y : Nat} {rf : Nat → Nat → Nat} {rm : Nat → Nat} (h : bw_rq g A rb n rf rm) (hW : bw_gw y A A') (hy : rb + (2 * n + 2) ≤ y) : bw_rq g A' rb n rf rm := by
  intro j hj
  refine ⟨fun q hq => ?_, (h j hj).2⟩
  rw [hW q.1 ?_]
  · exact (h j hj).1 q hq
  · simp only [pcl, List.mem_cons, List.not_mem_nil, or_false] at hq
    rcases hq with rfl | rfl <;> · simp only; omega
theorem bw_rq.nwd {g : bw_G} {A A' : bw_H} {rb n a : Nat} {rf : Nat → Nat → Nat} {rm : Nat → Nat} {e : va_E} (h : bw_rq g A rb n rf rm) (hA : A' = bw_nw A e) (hz : A.1 = a) (ha : rb + (2 * n + 2) ≤ a) : bw_rq g A' rb n rf rm := h.gw (bw_gw.nwd bw_gw.rf hA hz ha) (Nat.le_refl _)
abbrev xob (x n rn mn pn sn : Nat) : va_E := .inr (11, [.ref (x + 9), .ref (x + 11), .ref (x + 22), .ref (x + 33), .ref (x + 34), .ref (x + 37), .ref (x + 46 + 2 * (n + 1)), .ref (x + 1), .ref (x + 3), .ref (x + 5), .int (nI rn), .ref (x + 6), .int (nI mn), .ref (x + 7), .int (nI pn), .ref (x + 8), .int (nI sn)])
/-- the cells that the constructor makes, in its order -/
noncomputable abbrev xin (g : bw_G) (n p gg x : Nat) : List (Nat × va_E) := (x, xob x n 0 0 0 0) :: (pcl g (x + 1) 129 (fun _ => 0) 0 .null ++ (pcl g (x + 3) 129 (fun _ => 0) 0 .null ++ ([(x + 5, bw_an g 130 (fun _ => 0)), (x + 6, bw_aq g 3 40 (fun _ => none)), (x + 7, bw_aq g 4 40 (fun _ => none)), (x + 8, bw_an g 64 (fun _ => 0))] ++ (fcl g n p gg (x + 9) ++ ([(x + 11, eob (x + 9) (x + 12) (x + 21) 0 0 0 0), (x + 12, eco g (x + 12) 8), (x + 21, bw_ao g 8 (fun _ => some 0)), (x + 22, nob (x + 9) (x + 23)), (x + 23, eco g (x + 23) 9), (x + 33, dob (x + 9)), (x + 34, iob (x + 9) (x + 35) (x + 36)), (x + 35, bw_an g 65 (fun _ => 0)), (x + 36, bw_an g 65 (fun _ => 0)), (x + 37, rob (x + 9) (x + 33) (x + 44) (x + 45) (x + 38) (x + 40) (x + 42))] ++ (pcl g (x + 38) 129 (fun _ => 0) 0 .null ++ (pcl g (x + 40) 129 (fun _ => 0) 0 .null ++ (pcl g (x + 42) 129 (fun _ => 0) 0 .null ++ ([(x + 44, bw_an g n (gsF n (2 ^ n ||| p) n)), (x + 45, bw_aq g 4 (n + 1) (fun i => if i < n + 1 then some (x + 46 + 2 * i) else none)), (x + 46 + 2 * (n + 1), kob (x + 9) (x + 33) (x + 46 + 2 * (n + 1) + 1) (x + 46 + 2 * (n + 1) + 3) (x + 46 + 2 * (n + 1) + 5) (x + 46 + 2 * (n + 1) + 7))] ++ (pcl g (x + 46 + 2 * (n + 1) + 1) 129 (fun _ => 0) 0 .null ++ (pcl g (x + 46 + 2 * (n + 1) + 3) 129 (fun _ => 0) 0 .null ++ (pcl g (x + 46 + 2 * (n + 1) + 5) 129 (fun _ => 0) 0 .null ++ pcl g (x + 46 + 2 * (n + 1) + 7) 129 (fun _ => 0) 0 .null))))))))))))
def inP (g : bw_G) (n p gg x : Nat) (A0 A' : bw_H) : Prop := A'.1 = x + 57 + 2 * n ∧ bw_gw x A0 A' ∧ bw_has A' (xin g n p gg x) ∧ bw_rw g A' (x + 13) 8 16 (fun _ _ => 0) ∧ bw_rw g A' (x + 24) 9 256 (fun _ _ => 0) ∧ bw_rq g A' (x + 46) n (fun _ _ => 0) (fun _ => 0)
set_option maxHeartbeats 8000000 in
set_option maxRecDepth 100000 in
theorem c9_init_B (g : bw_G) {A0 A : bw_H} {x n p gg j0 : Nat} {s : Int32} (hG : GFg n p gg) (hj0 : j0 < 2 ^ n) (hj1 : bpr (2 ^ n ||| ((s.toBitVec.toNat % 2 ^ n + j0) % 2 ^ n)) (n / 2 + 1)) (hj2 : ∀ i, i < j0 → ¬ bpr (2 ^ n ||| ((s.toBitVec.toNat % 2 ^ n + i) % 2 ^ n)) (n / 2 + 1)) (hp : (s.toBitVec.toNat % 2 ^ n + j0) % 2 ^ n = p) (hg2 : ∀ b, 2 ≤ b → b < gg → ¬ ggen n (2 ^ n ||| p) b)
    (hC : bw_has A (((x, .inr (11, [.null, .null, .null, .null, .null, .null, .null, .ref (x + 1), .ref (x + 3), .ref (x + 5), .int 0, .ref (x + 6), .int 0, .ref (x + 7), .int 0, .ref (x + 8), .int 0])) :: (pcl g (x + 1) 129 (fun _ => 0) 0 .null ++ (pcl g (x + 3) 129 (fun _ => 0) 0 .null ++ ([(x + 5, bw_an g 130 (fun _ => 0)), (x + 6, bw_aq g 3 40 (fun _ => none)), (x + 7, bw_aq g 4 40 (fun _ => none)), (x + 8, bw_an g 64 (fun _ => 0))]))) ++ [(x + 9, .inr (5, [.int 0, .int 0, .int 0, .int 0, .int 0, .null]))]))) (hz : A.1 = x + 10) (hW : bw_gw x A0 A) :
    bw_W g (bw_rm 6 106 71300) mX9_init (bw_pv (inP g n p gg x A0)) 9 544 85 [(0, .ref x), (2, .int s)] [.int (nI n), .ref (x + 9), .ref (x + 9), .ref x] A := by
  refine bw_iload_n 86 dX9_init_85 rfl rfl ?_
  refine bw_ok (fun hok => ?_)
  refine bw_cIv 89 dX9_init_86 rfl iX9_40 (c3_init g hG (hC.sub [9] (by decide) rfl) hz hj0 hj1 hj2 hp hg2) rfl rfl (Nat.le_of_ble_eq_true rfl) ⟨(Nat.le_of_ble_eq_true rfl), (Nat.le_of_ble_eq_true rfl)⟩ (Nat.le_of_ble_eq_true rfl) (Nat.le_of_ble_eq_true rfl) (fun A hP => ?_)
  obtain ⟨h1, h2, h3⟩ := hP
  have hC := hC.gr hok hz rfl h2 h3 (by simp)
  have hW := hW.trans h2 (by omega)
  have hz := h1
  refine bw_putFU 92 dX9_init_89 rfl pX9_43 rfl (hC.at 0 rfl) rfl rfl (Nat.le_of_ble_eq_true rfl) (fun A hU => ?_)
  have hC := hC.upd 0 rfl hU
  have hW := hW.upd hU (by omega)
  have hz := (congrArg Prod.fst hU).trans hz
  try have hE := hE.frm (bw_up_sm hU) (by simp; omega)
  try have hN := hN.frm (bw_up_sm hU) (by simp; omega)
  try have hR := hR.frm (bw_up_sm hU) (by simp; omega)
  refine bw_aload_n 93 dX9_init_92 rfl rfl ?_
  refine bw_ok (fun hok => ?_)
  refine bw_newU 96 dX9_init_93 rfl nX9_47 (Nat.le_of_ble_eq_true rfl) (Nat.le_of_ble_eq_true rfl) hz (fun A hU => ?_)
  have hC := hC.nwda hok hz hU
  have hW := hW.nwd hU hz (by omega)
  try have hE := hE.nwd hU hz (by omega)
  try have hN := hN.nwd hU hz (by omega)
  try have hR := hR.nwd hU hz (by omega)
  have hz := (congrArg Prod.fst hU).trans (congrArg (· + 1) hz)
  clear hU hok
  refine bw_dup 97 dX9_init_96 rfl rfl ?_
  refine bw_aload_n 98 dX9_init_97 rfl rfl ?_
  refine bw_get 101 dX9_init_98 rfl lX9_43 (hC.at 0 rfl) rfl ?_
  refine bw_ok (fun hok => ?_)
  refine bw_cIv 104 dX9_init_101 rfl iX9_49 (c1_init g (hC.sub [11] (by decide) rfl) hz) rfl rfl (Nat.le_of_ble_eq_true rfl) ⟨(Nat.le_of_ble_eq_true rfl), (Nat.le_of_ble_eq_true rfl)⟩ (Nat.le_of_ble_eq_true rfl) (Nat.le_of_ble_eq_true rfl) (fun A hP => ?_)
  obtain ⟨h1, h2, h3, hE⟩ := hP
  have hC := hC.gr hok hz rfl h2 h3 (by simp)
  have hW := hW.trans h2 (by omega)
  have hz := h1
  refine bw_putFU 107 dX9_init_104 rfl pX9_52 rfl (hC.at 0 rfl) rfl rfl (Nat.le_of_ble_eq_true rfl) (fun A hU => ?_)
  have hC := hC.upd 0 rfl hU
  have hW := hW.upd hU (by omega)
  have hz := (congrArg Prod.fst hU).trans hz
  try have hE := hE.frm (bw_up_sm hU) (by simp; omega)
  try have hN := hN.frm (bw_up_sm hU) (by simp; omega)
  try have hR := hR.frm (bw_up_sm hU) (by simp; omega)
  refine bw_aload_n 108 dX9_init_107 rfl rfl ?_
  refine bw_ok (fun hok => ?_)
  refine bw_newU 111 dX9_init_108 rfl nX9_56 (Nat.le_of_ble_eq_true rfl) (Nat.le_of_ble_eq_true rfl) hz (fun A hU => ?_)
  have hC := hC.nwda hok hz hU
  have hW := hW.nwd hU hz (by omega)
  try have hE := hE.nwd hU hz (by omega)
  try have hN := hN.nwd hU hz (by omega)
  try have hR := hR.nwd hU hz (by omega)
  have hz := (congrArg Prod.fst hU).trans (congrArg (· + 1) hz)
  clear hU hok
  refine bw_dup 112 dX9_init_111 rfl rfl ?_
  refine bw_aload_n 113 dX9_init_112 rfl rfl ?_
  refine bw_get 116 dX9_init_113 rfl lX9_43 (hC.at 0 rfl) rfl ?_
  refine bw_ok (fun hok => ?_)
  refine bw_cIv 119 dX9_init_116 rfl iX9_58 (c6_init g (hC.sub [14] (by decide) rfl) hz) rfl rfl (Nat.le_of_ble_eq_true rfl) ⟨(Nat.le_of_ble_eq_true rfl), (Nat.le_of_ble_eq_true rfl)⟩ (Nat.le_of_ble_eq_true rfl) (Nat.le_of_ble_eq_true rfl) (fun A hP => ?_)
  obtain ⟨h1, h2, h3, hN⟩ := hP
  have hC := hC.gr hok hz rfl h2 h3 (by simp)
  have hE := hE.gw h2 (by omega)
  have hW := hW.trans h2 (by omega)
  have hz := h1
  refine bw_putFU 122 dX9_init_119 rfl pX9_59 rfl (hC.at 0 rfl) rfl rfl (Nat.le_of_ble_eq_true rfl) (fun A hU => ?_)
  have hC := hC.upd 0 rfl hU
  have hW := hW.upd hU (by omega)
  have hz := (congrArg Prod.fst hU).trans hz
  try have hE := hE.frm (bw_up_sm hU) (by simp; omega)
  try have hN := hN.frm (bw_up_sm hU) (by simp; omega)
  try have hR := hR.frm (bw_up_sm hU) (by simp; omega)
  refine bw_aload_n 123 dX9_init_122 rfl rfl ?_
  refine bw_ok (fun hok => ?_)
  refine bw_newU 126 dX9_init_123 rfl nX9_63 (Nat.le_of_ble_eq_true rfl) (Nat.le_of_ble_eq_true rfl) hz (fun A hU => ?_)
  have hC := hC.nwda hok hz hU
  have hW := hW.nwd hU hz (by omega)
  try have hE := hE.nwd hU hz (by omega)
  try have hN := hN.nwd hU hz (by omega)
  try have hR := hR.nwd hU hz (by omega)
  have hz := (congrArg Prod.fst hU).trans (congrArg (· + 1) hz)
  clear hU hok
  refine bw_dup 127 dX9_init_126 rfl rfl ?_
  refine bw_aload_n 128 dX9_init_127 rfl rfl ?_
  refine bw_get 131 dX9_init_128 rfl lX9_43 (hC.at 0 rfl) rfl ?_
  refine bw_ok (fun hok => ?_)
  refine bw_cIv 134 dX9_init_131 rfl iX9_65 (c0_init g (hC.sub [16] (by decide) rfl) hz) rfl rfl (Nat.le_of_ble_eq_true rfl) ⟨(Nat.le_of_ble_eq_true rfl), (Nat.le_of_ble_eq_true rfl)⟩ (Nat.le_of_ble_eq_true rfl) (Nat.le_of_ble_eq_true rfl) (fun A hP => ?_)
  obtain ⟨h1, h2, h3⟩ := hP
  have hC := hC.gr hok hz rfl h2 h3 (by simp)
  have hE := hE.gw h2 (by omega)
  have hN := hN.gw h2 (by omega)
  have hW := hW.trans h2 (by omega)
  have hz := h1
  refine bw_putFU 137 dX9_init_134 rfl pX9_66 rfl (hC.at 0 rfl) rfl rfl (Nat.le_of_ble_eq_true rfl) (fun A hU => ?_)
  have hC := hC.upd 0 rfl hU
  have hW := hW.upd hU (by omega)
  have hz := (congrArg Prod.fst hU).trans hz
  try have hE := hE.frm (bw_up_sm hU) (by simp; omega)
  try have hN := hN.frm (bw_up_sm hU) (by simp; omega)
  try have hR := hR.frm (bw_up_sm hU) (by simp; omega)
  refine bw_aload_n 138 dX9_init_137 rfl rfl ?_
  refine bw_ok (fun hok => ?_)
  refine bw_newU 141 dX9_init_138 rfl nX9_70 (Nat.le_of_ble_eq_true rfl) (Nat.le_of_ble_eq_true rfl) hz (fun A hU => ?_)
  have hC := hC.nwda hok hz hU
  have hW := hW.nwd hU hz (by omega)
  try have hE := hE.nwd hU hz (by omega)
  try have hN := hN.nwd hU hz (by omega)
  try have hR := hR.nwd hU hz (by omega)
  have hz := (congrArg Prod.fst hU).trans (congrArg (· + 1) hz)
  clear hU hok
  refine bw_dup 142 dX9_init_141 rfl rfl ?_
  refine bw_aload_n 143 dX9_init_142 rfl rfl ?_
  refine bw_get 146 dX9_init_143 rfl lX9_43 (hC.at 0 rfl) rfl ?_
  refine bw_ok (fun hok => ?_)
  refine bw_cIv 149 dX9_init_146 rfl iX9_72 (c4_init g (hC.sub [17] (by decide) rfl) hz) rfl rfl (Nat.le_of_ble_eq_true rfl) ⟨(Nat.le_of_ble_eq_true rfl), (Nat.le_of_ble_eq_true rfl)⟩ (Nat.le_of_ble_eq_true rfl) (Nat.le_of_ble_eq_true rfl) (fun A hP => ?_)
  obtain ⟨h1, h2, h3⟩ := hP
  have hC := hC.gr hok hz rfl h2 h3 (by simp <;> omega)
  have hE := hE.gw h2 (by omega)
  have hN := hN.gw h2 (by omega)
  have hW := hW.trans h2 (by omega)
  have hz := h1
  refine bw_putFU 152 dX9_init_149 rfl pX9_73 rfl (hC.at 0 rfl) rfl rfl (Nat.le_of_ble_eq_true rfl) (fun A hU => ?_)
  have hC := hC.upd 0 rfl hU
  have hW := hW.upd hU (by omega)
  have hz := (congrArg Prod.fst hU).trans hz
  try have hE := hE.frm (bw_up_sm hU) (by simp; omega)
  try have hN := hN.frm (bw_up_sm hU) (by simp; omega)
  try have hR := hR.frm (bw_up_sm hU) (by simp; omega)
  refine bw_aload_n 153 dX9_init_152 rfl rfl ?_
  refine bw_ok (fun hok => ?_)
  refine bw_newU 156 dX9_init_153 rfl nX9_77 (Nat.le_of_ble_eq_true rfl) (Nat.le_of_ble_eq_true rfl) hz (fun A hU => ?_)
  have hC := hC.nwda hok hz hU
  have hW := hW.nwd hU hz (by omega)
  try have hE := hE.nwd hU hz (by omega)
  try have hN := hN.nwd hU hz (by omega)
  try have hR := hR.nwd hU hz (by omega)
  have hz := (congrArg Prod.fst hU).trans (congrArg (· + 1) hz)
  clear hU hok
  refine bw_dup 157 dX9_init_156 rfl rfl ?_
  refine bw_aload_n 158 dX9_init_157 rfl rfl ?_
  refine bw_get 161 dX9_init_158 rfl lX9_43 (hC.at 0 rfl) rfl ?_
  refine bw_aload_n 162 dX9_init_161 rfl rfl ?_
  refine bw_get 165 dX9_init_162 rfl lX9_66 (hC.at 0 rfl) rfl ?_
  refine bw_ok (fun hok => ?_)
  refine bw_cIv 168 dX9_init_165 rfl iX9_79 (c8_init g hG (hC.sub [9, 10, 20] (by decide) rfl) hz) rfl rfl (Nat.le_of_ble_eq_true rfl) ⟨(Nat.le_of_ble_eq_true rfl), (Nat.le_of_ble_eq_true rfl)⟩ (Nat.le_of_ble_eq_true rfl) (Nat.le_of_ble_eq_true rfl) (fun A hP => ?_)
  obtain ⟨h1, h2, h3, hR⟩ := hP
  have h3 := h3.sub [2, 3, 4, 5, 6, 7, 8, 9, 10] (by decide) rfl
  have hC := hC.gr hok hz rfl h2 h3 (by simp <;> omega)
  have hE := hE.gw h2 (by omega)
  have hN := hN.gw h2 (by omega)
  have hW := hW.trans h2 (by omega)
  have hz := h1
  refine bw_putFU 171 dX9_init_168 rfl pX9_82 rfl (hC.at 0 rfl) rfl rfl (Nat.le_of_ble_eq_true rfl) (fun A hU => ?_)
  have hC := hC.upd 0 rfl hU
  have hW := hW.upd hU (by omega)
  have hz := (congrArg Prod.fst hU).trans hz
  try have hE := hE.frm (bw_up_sm hU) (by simp; omega)
  try have hN := hN.frm (bw_up_sm hU) (by simp; omega)
  try have hR := hR.frm (bw_up_sm hU) (by simp; omega)
  refine bw_aload_n 172 dX9_init_171 rfl rfl ?_
  refine bw_ok (fun hok => ?_)
  refine bw_newU 175 dX9_init_172 rfl nX9_86 (Nat.le_of_ble_eq_true rfl) (Nat.le_of_ble_eq_true rfl) hz (fun A hU => ?_)
  have hC := hC.nwda hok hz hU
  have hW := hW.nwd hU hz (by omega)
  try have hE := hE.nwd hU hz (by omega)
  try have hN := hN.nwd hU hz (by omega)
  try have hR := hR.nwd hU hz (by omega)
  have hz := (congrArg Prod.fst hU).trans (congrArg (· + 1) hz)
  clear hU hok
  refine bw_dup 176 dX9_init_175 rfl rfl ?_
  refine bw_aload_n 177 dX9_init_176 rfl rfl ?_
  refine bw_get 180 dX9_init_177 rfl lX9_43 (hC.at 0 rfl) rfl ?_
  refine bw_aload_n 181 dX9_init_180 rfl rfl ?_
  refine bw_get 184 dX9_init_181 rfl lX9_66 (hC.at 0 rfl) rfl ?_
  refine bw_ok (fun hok => ?_)
  refine bw_cIv 187 dX9_init_184 rfl iX9_88 (c2_init g (hC.sub [29] (by decide) rfl) hz) rfl rfl (Nat.le_of_ble_eq_true rfl) ⟨(Nat.le_of_ble_eq_true rfl), (Nat.le_of_ble_eq_true rfl)⟩ (Nat.le_of_ble_eq_true rfl) (Nat.le_of_ble_eq_true rfl) (fun A hP => ?_)
  obtain ⟨h1, h2, h3⟩ := hP
  have hC := hC.gr hok hz rfl h2 h3 (by simp <;> omega)
  have hE := hE.gw h2 (by omega)
  have hN := hN.gw h2 (by omega)
  have hR := hR.gw h2 (by omega)
  have hW := hW.trans h2 (by omega)
  have hz := h1
  refine bw_putFU 190 dX9_init_187 rfl pX9_89 rfl (hC.at 0 rfl) rfl rfl (Nat.le_of_ble_eq_true rfl) (fun A hU => ?_)
  have hC := hC.upd 0 rfl hU
  have hW := hW.upd hU (by omega)
  have hz := (congrArg Prod.fst hU).trans hz
  try have hE := hE.frm (bw_up_sm hU) (by simp; omega)
  try have hN := hN.frm (bw_up_sm hU) (by simp; omega)
  try have hR := hR.frm (bw_up_sm hU) (by simp; omega)
  refine bw_vret dX9_init_190 rfl (Nat.le_of_ble_eq_true rfl) (Nat.le_of_ble_eq_true rfl) ?_
  exact ⟨rfl, hz.trans (by omega), hW, hC, hE, hN, hR⟩
set_option maxHeartbeats 8000000 in
set_option maxRecDepth 100000 in
theorem c9_init (g : bw_G) {A0 : bw_H} {x n p gg j0 : Nat} {b s : Int32} (hG : GFg n p gg) (hb8 : ¬ b = 16 → n = 8) (hb16 : b = 16 → n = 16) (hj0 : j0 < 2 ^ n) (hj1 : bpr (2 ^ n ||| ((s.toBitVec.toNat % 2 ^ n + j0) % 2 ^ n)) (n / 2 + 1)) (hj2 : ∀ i, i < j0 → ¬ bpr (2 ^ n ||| ((s.toBitVec.toNat % 2 ^ n + i) % 2 ^ n)) (n / 2 + 1)) (hp : (s.toBitVec.toNat % 2 ^ n + j0) % 2 ^ n = p) (hg2 : ∀ b, 2 ≤ b → b < gg → ¬ ggen n (2 ^ n ||| p) b)
    (hC : bw_has A0 [(x, .inr (11, [.null, .null, .null, .null, .null, .null, .null, .null, .null, .null, .int 0, .null, .int 0, .null, .int 0, .null, .int 0]))]) (hz : A0.1 = x + 1) :
    bw_C g (bw_rm 6 106 71300) mX9_init [.ref x, .int b, .int s] A0 (bw_pv (inP g n p gg x A0)) := by
  have hW : bw_gw x A0 A0 := bw_gw.rf
  refine bw_C.of (by decide) (Nat.le_of_ble_eq_true rfl) rfl ?_
  refine bw_aload_n 1 dX9_init_0 rfl rfl ?_
  refine bw_objInit 4 dX9_init_1 rfl oX9_3 bw_oI bw_oC (Nat.le_of_ble_eq_true rfl) (Nat.le_of_ble_eq_true rfl) ?_
  refine bw_aload_n 5 dX9_init_4 rfl rfl ?_
  refine bw_ok (fun hok => ?_)
  refine bw_newU 8 dX9_init_5 rfl nX9_9 (Nat.le_of_ble_eq_true rfl) (Nat.le_of_ble_eq_true rfl) hz (fun A hU => ?_)
  have hC := hC.nwda hok hz hU
  have hW := hW.nwd hU hz (by omega)
  try have hE := hE.nwd hU hz (by omega)
  try have hN := hN.nwd hU hz (by omega)
  try have hR := hR.nwd hU hz (by omega)
  have hz := (congrArg Prod.fst hU).trans (congrArg (· + 1) hz)
  clear hU hok
  refine bw_dup 9 dX9_init_8 rfl rfl ?_
  refine bw_sipush (129) 12 dX9_init_9 (by decide) rfl ?_
  refine bw_eqi (y := nI 129) rfl ?_
  refine bw_ok (fun hok => ?_)
  refine bw_cIv 15 dX9_init_12 rfl iX9_11 (c7_init g (hC.sub [1] (by decide) rfl) hz (by omega)) rfl rfl (Nat.le_of_ble_eq_true rfl) ⟨(Nat.le_of_ble_eq_true rfl), (Nat.le_of_ble_eq_true rfl)⟩ (Nat.le_of_ble_eq_true rfl) (Nat.le_of_ble_eq_true rfl) (fun A hP => ?_)
  obtain ⟨h1, h2, h3⟩ := hP
  have hC := hC.gr hok hz rfl h2 h3 (by simp)
  have hW := hW.trans h2 (by omega)
  have hz := h1
  refine bw_putFU 18 dX9_init_15 rfl pX9_14 rfl (hC.at 0 rfl) rfl rfl (Nat.le_of_ble_eq_true rfl) (fun A hU => ?_)
  have hC := hC.upd 0 rfl hU
  have hW := hW.upd hU (by omega)
  have hz := (congrArg Prod.fst hU).trans hz
  try have hE := hE.frm (bw_up_sm hU) (by simp; omega)
  try have hN := hN.frm (bw_up_sm hU) (by simp; omega)
  try have hR := hR.frm (bw_up_sm hU) (by simp; omega)
  refine bw_aload_n 19 dX9_init_18 rfl rfl ?_
  refine bw_ok (fun hok => ?_)
  refine bw_newU 22 dX9_init_19 rfl nX9_9 (Nat.le_of_ble_eq_true rfl) (Nat.le_of_ble_eq_true rfl) hz (fun A hU => ?_)
  have hC := hC.nwda hok hz hU
  have hW := hW.nwd hU hz (by omega)
  try have hE := hE.nwd hU hz (by omega)
  try have hN := hN.nwd hU hz (by omega)
  try have hR := hR.nwd hU hz (by omega)
  have hz := (congrArg Prod.fst hU).trans (congrArg (· + 1) hz)
  clear hU hok
  refine bw_dup 23 dX9_init_22 rfl rfl ?_
  refine bw_sipush (129) 26 dX9_init_23 (by decide) rfl ?_
  refine bw_eqi (y := nI 129) rfl ?_
  refine bw_ok (fun hok => ?_)
  refine bw_cIv 29 dX9_init_26 rfl iX9_11 (c7_init g (hC.sub [3] (by decide) rfl) hz (by omega)) rfl rfl (Nat.le_of_ble_eq_true rfl) ⟨(Nat.le_of_ble_eq_true rfl), (Nat.le_of_ble_eq_true rfl)⟩ (Nat.le_of_ble_eq_true rfl) (Nat.le_of_ble_eq_true rfl) (fun A hP => ?_)
  obtain ⟨h1, h2, h3⟩ := hP
  have hC := hC.gr hok hz rfl h2 h3 (by simp)
  have hW := hW.trans h2 (by omega)
  have hz := h1
  refine bw_putFU 32 dX9_init_29 rfl pX9_18 rfl (hC.at 0 rfl) rfl rfl (Nat.le_of_ble_eq_true rfl) (fun A hU => ?_)
  have hC := hC.upd 0 rfl hU
  have hW := hW.upd hU (by omega)
  have hz := (congrArg Prod.fst hU).trans hz
  try have hE := hE.frm (bw_up_sm hU) (by simp; omega)
  try have hN := hN.frm (bw_up_sm hU) (by simp; omega)
  try have hR := hR.frm (bw_up_sm hU) (by simp; omega)
  refine bw_aload_n 33 dX9_init_32 rfl rfl ?_
  refine bw_sipush (130) 36 dX9_init_33 (by decide) rfl ?_
  refine bw_eqi (y := nI 130) rfl ?_
  refine bw_ok (fun hok => ?_)
  refine bw_newiU 38 dX9_init_36 rfl bw_wI (by exact nI_pos (by omega)) (by exact nI_clamp (by omega)) (by omega) (Nat.le_of_ble_eq_true rfl) (Nat.le_of_ble_eq_true rfl) hz (fun A hU => ?_)
  have hC := hC.nwda hok hz hU
  have hW := hW.nwd hU hz (by omega)
  try have hE := hE.nwd hU hz (by omega)
  try have hN := hN.nwd hU hz (by omega)
  try have hR := hR.nwd hU hz (by omega)
  have hz := (congrArg Prod.fst hU).trans (congrArg (· + 1) hz)
  clear hU hok
  refine bw_putFU 41 dX9_init_38 rfl pX9_21 rfl (hC.at 0 rfl) rfl rfl (Nat.le_of_ble_eq_true rfl) (fun A hU => ?_)
  have hC := hC.upd 0 rfl hU
  have hW := hW.upd hU (by omega)
  have hz := (congrArg Prod.fst hU).trans hz
  try have hE := hE.frm (bw_up_sm hU) (by simp; omega)
  try have hN := hN.frm (bw_up_sm hU) (by simp; omega)
  try have hR := hR.frm (bw_up_sm hU) (by simp; omega)
  refine bw_aload_n 42 dX9_init_41 rfl rfl ?_
  refine bw_bipush (40) 44 dX9_init_42 (by decide) rfl ?_
  refine bw_eqi (y := nI 40) rfl ?_
  refine bw_ok (fun hok => ?_)
  refine bw_newqU (t := 3) 47 dX9_init_44 rfl rfl (by decide) cX9_25 (by exact nI_pos (by omega)) (by exact nI_clamp (by omega)) (by omega) (Nat.le_of_ble_eq_true rfl) (Nat.le_of_ble_eq_true rfl) hz (fun A hU => ?_)
  have hC := hC.nwda hok hz hU
  have hW := hW.nwd hU hz (by omega)
  try have hE := hE.nwd hU hz (by omega)
  try have hN := hN.nwd hU hz (by omega)
  try have hR := hR.nwd hU hz (by omega)
  have hz := (congrArg Prod.fst hU).trans (congrArg (· + 1) hz)
  clear hU hok
  refine bw_putFU 50 dX9_init_47 rfl pX9_27 rfl (hC.at 0 rfl) rfl rfl (Nat.le_of_ble_eq_true rfl) (fun A hU => ?_)
  have hC := hC.upd 0 rfl hU
  have hW := hW.upd hU (by omega)
  have hz := (congrArg Prod.fst hU).trans hz
  try have hE := hE.frm (bw_up_sm hU) (by simp; omega)
  try have hN := hN.frm (bw_up_sm hU) (by simp; omega)
  try have hR := hR.frm (bw_up_sm hU) (by simp; omega)
  refine bw_aload_n 51 dX9_init_50 rfl rfl ?_
  refine bw_bipush (40) 53 dX9_init_51 (by decide) rfl ?_
  refine bw_eqi (y := nI 40) rfl ?_
  refine bw_ok (fun hok => ?_)
  refine bw_newqU (t := 4) 56 dX9_init_53 rfl rfl (by decide) cX9_9 (by exact nI_pos (by omega)) (by exact nI_clamp (by omega)) (by omega) (Nat.le_of_ble_eq_true rfl) (Nat.le_of_ble_eq_true rfl) hz (fun A hU => ?_)
  have hC := hC.nwda hok hz hU
  have hW := hW.nwd hU hz (by omega)
  try have hE := hE.nwd hU hz (by omega)
  try have hN := hN.nwd hU hz (by omega)
  try have hR := hR.nwd hU hz (by omega)
  have hz := (congrArg Prod.fst hU).trans (congrArg (· + 1) hz)
  clear hU hok
  refine bw_putFU 59 dX9_init_56 rfl pX9_31 rfl (hC.at 0 rfl) rfl rfl (Nat.le_of_ble_eq_true rfl) (fun A hU => ?_)
  have hC := hC.upd 0 rfl hU
  have hW := hW.upd hU (by omega)
  have hz := (congrArg Prod.fst hU).trans hz
  try have hE := hE.frm (bw_up_sm hU) (by simp; omega)
  try have hN := hN.frm (bw_up_sm hU) (by simp; omega)
  try have hR := hR.frm (bw_up_sm hU) (by simp; omega)
  refine bw_aload_n 60 dX9_init_59 rfl rfl ?_
  refine bw_bipush (64) 62 dX9_init_60 (by decide) rfl ?_
  refine bw_eqi (y := nI 64) rfl ?_
  refine bw_ok (fun hok => ?_)
  refine bw_newiU 64 dX9_init_62 rfl bw_wI (by exact nI_pos (by omega)) (by exact nI_clamp (by omega)) (by omega) (Nat.le_of_ble_eq_true rfl) (Nat.le_of_ble_eq_true rfl) hz (fun A hU => ?_)
  have hC := hC.nwda hok hz hU
  have hW := hW.nwd hU hz (by omega)
  try have hE := hE.nwd hU hz (by omega)
  try have hN := hN.nwd hU hz (by omega)
  try have hR := hR.nwd hU hz (by omega)
  have hz := (congrArg Prod.fst hU).trans (congrArg (· + 1) hz)
  clear hU hok
  refine bw_putFU 67 dX9_init_64 rfl pX9_35 rfl (hC.at 0 rfl) rfl rfl (Nat.le_of_ble_eq_true rfl) (fun A hU => ?_)
  have hC := hC.upd 0 rfl hU
  have hW := hW.upd hU (by omega)
  have hz := (congrArg Prod.fst hU).trans hz
  try have hE := hE.frm (bw_up_sm hU) (by simp; omega)
  try have hN := hN.frm (bw_up_sm hU) (by simp; omega)
  try have hR := hR.frm (bw_up_sm hU) (by simp; omega)
  refine bw_aload_n 68 dX9_init_67 rfl rfl ?_
  refine bw_ok (fun hok => ?_)
  refine bw_newU 71 dX9_init_68 rfl nX9_38 (Nat.le_of_ble_eq_true rfl) (Nat.le_of_ble_eq_true rfl) hz (fun A hU => ?_)
  have hC := hC.nwda hok hz hU
  have hW := hW.nwd hU hz (by omega)
  try have hE := hE.nwd hU hz (by omega)
  try have hN := hN.nwd hU hz (by omega)
  try have hR := hR.nwd hU hz (by omega)
  have hz := (congrArg Prod.fst hU).trans (congrArg (· + 1) hz)
  clear hU hok
  refine bw_dup 72 dX9_init_71 rfl rfl ?_
  refine bw_iload_n 73 dX9_init_72 rfl rfl ?_
  refine bw_bipush (16) 75 dX9_init_73 (by decide) rfl ?_
  refine bw_icmp_ne 83 78 dX9_init_75 rfl rfl (fun c75 => ?_) (fun c75 => ?_)
  · have hn : n = 8 := hb8 c75
    subst hn
    refine bw_bipush (8) 85 dX9_init_83 (by decide) rfl ?_
    refine bw_eqi (y := nI 8) rfl ?_
    exact bw_loc [(0, .ref x), (2, .int s)] ⟨rfl, rfl, trivial⟩ (c9_init_B g hG hj0 hj1 hj2 hp hg2 hC hz hW)
  · have hn : n = 16 := hb16 c75
    subst hn
    refine bw_bipush (16) 80 dX9_init_78 (by decide) rfl ?_
    refine bw_eqi (y := nI 16) rfl ?_
    refine bw_goto 85 dX9_init_80 rfl ?_
    exact bw_loc [(0, .ref x), (2, .int s)] ⟨rfl, rfl, trivial⟩ (c9_init_B g hG hj0 hj1 hj2 hp hg2 hC hz hW)
