/-! the class's calls: matrices -/
theorem k9_size0 (g : bw_G) {A : bw_H} {x n rn mn pn sn M r c k : Nat} {MA : Nat → Option Nat} {f : Nat → Nat} (hC : bw_has A ((x, xob x n rn mn pn sn) :: (x + 6, bw_aq g 3 40 MA) :: mcl g M r c f)) (hk : k < mn) (hm : mn ≤ 40) (ha : MA k = some M) : bw_C g (bw_rm 8 20 200) mX9_size [.ref x, .int (nI k), .int (nI 0)] A (bw_pi (nI r) A) := by
  refine bw_C.of (by decide) (Nat.le_of_ble_eq_true rfl) rfl ?_
  refine bw_aload_n 1 dX9_size_0 rfl rfl ?_
  refine bw_iload_n 2 dX9_size_1 rfl rfl ?_
  refine bw_cVr 5 dX9_size_2 rfl vX9_176 (c9_ma g (hC.sub [0, 1] (by decide) rfl) hk hm ha) (hC.at 0 rfl) rfl rfl (Nat.le_of_ble_eq_true rfl) ⟨(Nat.le_of_ble_eq_true rfl), (Nat.le_of_ble_eq_true rfl)⟩ (Nat.le_of_ble_eq_true rfl) (Nat.le_of_ble_eq_true rfl) ?_
  refine bw_astore_n 6 dX9_size_5 rfl (by decide) ?_
  refine bw_iload_n 7 dX9_size_6 rfl rfl ?_
  refine bw_if_eq 25 10 dX9_size_7 rfl rfl (fun c7 => ?_) (fun c7 => ?_)
  · refine bw_iload_n 26 dX9_size_25 rfl rfl ?_
    refine bw_if_ne 36 29 dX9_size_26 rfl rfl (fun c26 => ?_) (fun c26 => ?_)
    · exact absurd rfl c26
    · refine bw_aload_n 30 dX9_size_29 rfl rfl ?_
      refine bw_get 33 dX9_size_30 rfl lX9_185 (hC.at 2 rfl) rfl ?_
      refine bw_goto 40 dX9_size_33 rfl ?_
      refine bw_iret dX9_size_40 rfl (Nat.le_of_ble_eq_true rfl) (Nat.le_of_ble_eq_true rfl) ?_
      exact ⟨rfl, rfl⟩
  · exact absurd rfl c7
theorem k9_size1 (g : bw_G) {A : bw_H} {x n rn mn pn sn M r c k : Nat} {MA : Nat → Option Nat} {f : Nat → Nat} (hC : bw_has A ((x, xob x n rn mn pn sn) :: (x + 6, bw_aq g 3 40 MA) :: mcl g M r c f)) (hk : k < mn) (hm : mn ≤ 40) (ha : MA k = some M) : bw_C g (bw_rm 8 20 200) mX9_size [.ref x, .int (nI k), .int (nI 1)] A (bw_pi (nI c) A) := by
  refine bw_C.of (by decide) (Nat.le_of_ble_eq_true rfl) rfl ?_
  refine bw_aload_n 1 dX9_size_0 rfl rfl ?_
  refine bw_iload_n 2 dX9_size_1 rfl rfl ?_
  refine bw_cVr 5 dX9_size_2 rfl vX9_176 (c9_ma g (hC.sub [0, 1] (by decide) rfl) hk hm ha) (hC.at 0 rfl) rfl rfl (Nat.le_of_ble_eq_true rfl) ⟨(Nat.le_of_ble_eq_true rfl), (Nat.le_of_ble_eq_true rfl)⟩ (Nat.le_of_ble_eq_true rfl) (Nat.le_of_ble_eq_true rfl) ?_
  refine bw_astore_n 6 dX9_size_5 rfl (by decide) ?_
  refine bw_iload_n 7 dX9_size_6 rfl rfl ?_
  refine bw_if_eq 25 10 dX9_size_7 rfl rfl (fun c7 => ?_) (fun c7 => ?_)
  · exact absurd c7 (by decide)
  · skip
    refine bw_iload_n 11 dX9_size_10 rfl rfl ?_
    refine bw_iconst (1) 12 dX9_size_11 (by decide) rfl ?_
    refine bw_eqi (y := nI 1) rfl ?_
    refine bw_icmp_eq 25 15 dX9_size_12 rfl rfl (fun c12 => ?_) (fun c12 => ?_)
    · refine bw_iload_n 26 dX9_size_25 rfl rfl ?_
      refine bw_if_ne 36 29 dX9_size_26 rfl rfl (fun c26 => ?_) (fun c26 => ?_)
      · skip
        refine bw_aload_n 37 dX9_size_36 rfl rfl ?_
        refine bw_get 40 dX9_size_37 rfl lX9_188 (hC.at 2 rfl) rfl ?_
        refine bw_iret dX9_size_40 rfl (Nat.le_of_ble_eq_true rfl) (Nat.le_of_ble_eq_true rfl) ?_
        exact ⟨rfl, rfl⟩
      · exact absurd c26 (by decide)
    · exact absurd rfl c12
theorem k9_sizeY (g : bw_G) {A : bw_H} {x n rn mn pn sn M r c k : Nat} {MA : Nat → Option Nat} {f : Nat → Nat} {w : Int32} (hC : bw_has A ((x, xob x n rn mn pn sn) :: (x + 6, bw_aq g 3 40 MA) :: mcl g M r c f)) (hk : k < mn) (hm : mn ≤ 40) (ha : MA k = some M) (h0 : ¬ w = 0) (h1 : ¬ w = nI 1) : bw_C g (bw_rm 8 20 200) mX9_size [.ref x, .int (nI k), .int w] A (bw_pz eIA A) := by
  refine bw_C.of (by decide) (Nat.le_of_ble_eq_true rfl) rfl ?_
  refine bw_aload_n 1 dX9_size_0 rfl rfl ?_
  refine bw_iload_n 2 dX9_size_1 rfl rfl ?_
  refine bw_cVr 5 dX9_size_2 rfl vX9_176 (c9_ma g (hC.sub [0, 1] (by decide) rfl) hk hm ha) (hC.at 0 rfl) rfl rfl (Nat.le_of_ble_eq_true rfl) ⟨(Nat.le_of_ble_eq_true rfl), (Nat.le_of_ble_eq_true rfl)⟩ (Nat.le_of_ble_eq_true rfl) (Nat.le_of_ble_eq_true rfl) ?_
  refine bw_astore_n 6 dX9_size_5 rfl (by decide) ?_
  refine bw_iload_n 7 dX9_size_6 rfl rfl ?_
  refine bw_if_eq 25 10 dX9_size_7 rfl rfl (fun c7 => ?_) (fun c7 => ?_)
  · exact absurd c7 h0
  · skip
    refine bw_iload_n 11 dX9_size_10 rfl rfl ?_
    refine bw_iconst (1) 12 dX9_size_11 (by decide) rfl ?_
    refine bw_eqi (y := nI 1) rfl ?_
    refine bw_icmp_eq 25 15 dX9_size_12 rfl rfl (fun c12 => ?_) (fun c12 => ?_)
    · exact absurd c12 h1
    · skip
      refine bw_throw "0 asks for the rows, 1 for the columns" dX9_size_15 dX9_size_18 dX9_size_19 dX9_size_21 dX9_size_24 tX9_180 (by decide +kernel) rfl (Nat.le_of_ble_eq_true rfl) (Nat.le_of_ble_eq_true rfl) (Nat.le_of_ble_eq_true rfl) (Nat.le_of_ble_eq_true rfl) ?_
      exact fun m hm => ⟨rfl, m, hm, rfl⟩
theorem k9_sizeX (g : bw_G) {A : bw_H} {x n rn mn pn sn : Nat} {a w : Int32} (hC : bw_has A [(x, xob x n rn mn pn sn)]) (h : ¬ kI mn a) : bw_C g (bw_rm 8 20 200) mX9_size [.ref x, .int a, .int w] A (bw_pz eIO A) := by
  refine bw_C.of (by decide) (Nat.le_of_ble_eq_true rfl) rfl ?_
  refine bw_aload_n 1 dX9_size_0 rfl rfl ?_
  refine bw_iload_n 2 dX9_size_1 rfl rfl ?_
  refine bw_cVz 5 dX9_size_2 rfl vX9_176 (c9_maX g hC h) (hC.at 0 rfl) rfl rfl (Nat.le_of_ble_eq_true rfl) ⟨(Nat.le_of_ble_eq_true rfl), (Nat.le_of_ble_eq_true rfl)⟩ (Nat.le_of_ble_eq_true rfl) (Nat.le_of_ble_eq_true rfl) rfl ?_
  exact fun m hm => ⟨rfl, m, hm, rfl⟩
theorem k9_cell (g : bw_G) {A : bw_H} {x n rn mn pn sn M r c k i j : Nat} {MA : Nat → Option Nat} {f : Nat → Nat} (hC : bw_has A ((x, xob x n rn mn pn sn) :: (x + 6, bw_aq g 3 40 MA) :: mcl g M r c f)) (hk : k < mn) (hm : mn ≤ 40) (ha : MA k = some M) (hr : r ≤ 8) (hc : c ≤ 8) (hi : i < r) (hj : j < c) : bw_C g (bw_rm 8 20 200) mX9_cell [.ref x, .int (nI k), .int (nI i), .int (nI j)] A (bw_pi (nI (f (i * c + j))) A) := by
  have hrc : r * c ≤ 64 := Nat.mul_le_mul hr hc
  have hic := row_end (c := c) hi
  refine bw_C.of (by decide) (Nat.le_of_ble_eq_true rfl) rfl ?_
  refine bw_aload_n 1 dX9_cell_0 rfl rfl ?_
  refine bw_iload_n 2 dX9_cell_1 rfl rfl ?_
  refine bw_cVr 5 dX9_cell_2 rfl vX9_176 (c9_ma g (hC.sub [0, 1] (by decide) rfl) hk hm ha) (hC.at 0 rfl) rfl rfl (Nat.le_of_ble_eq_true rfl) ⟨(Nat.le_of_ble_eq_true rfl), (Nat.le_of_ble_eq_true rfl)⟩ (Nat.le_of_ble_eq_true rfl) (Nat.le_of_ble_eq_true rfl) ?_
  refine bw_astore 7 dX9_cell_5 rfl (by decide) ?_
  refine bw_aload 9 dX9_cell_7 rfl rfl ?_
  refine bw_get 12 dX9_cell_9 rfl lX9_168 (hC.at 2 rfl) rfl ?_
  refine bw_aload 14 dX9_cell_12 rfl rfl ?_
  refine bw_iload_n 15 dX9_cell_14 rfl rfl ?_
  refine bw_iload_n 16 dX9_cell_15 rfl rfl ?_
  refine bw_cSi 19 dX9_cell_16 rfl sX9_191 (c9_pl g (hC.sub [2] (by decide) rfl) hr hc hi hj) rfl rfl (Nat.le_of_ble_eq_true rfl) ⟨(Nat.le_of_ble_eq_true rfl), (Nat.le_of_ble_eq_true rfl)⟩ (Nat.le_of_ble_eq_true rfl) (Nat.le_of_ble_eq_true rfl) ?_
  refine bw_ialdN 20 dX9_cell_19 rfl (hC.at 3 rfl) (by omega) (by omega) ?_
  refine bw_iret dX9_cell_20 rfl (Nat.le_of_ble_eq_true rfl) (Nat.le_of_ble_eq_true rfl) ?_
  exact ⟨rfl, rfl⟩
theorem k9_cellY (g : bw_G) {A : bw_H} {x n rn mn pn sn M r c k : Nat} {a b : Int32} {MA : Nat → Option Nat} {f : Nat → Nat} (hC : bw_has A ((x, xob x n rn mn pn sn) :: (x + 6, bw_aq g 3 40 MA) :: mcl g M r c f)) (hk : k < mn) (hm : mn ≤ 40) (ha : MA k = some M) (h : ¬ (kI r a ∧ kI c b)) : bw_C g (bw_rm 8 20 200) mX9_cell [.ref x, .int (nI k), .int a, .int b] A (bw_pz eIO A) := by
  refine bw_C.of (by decide) (Nat.le_of_ble_eq_true rfl) rfl ?_
  refine bw_aload_n 1 dX9_cell_0 rfl rfl ?_
  refine bw_iload_n 2 dX9_cell_1 rfl rfl ?_
  refine bw_cVr 5 dX9_cell_2 rfl vX9_176 (c9_ma g (hC.sub [0, 1] (by decide) rfl) hk hm ha) (hC.at 0 rfl) rfl rfl (Nat.le_of_ble_eq_true rfl) ⟨(Nat.le_of_ble_eq_true rfl), (Nat.le_of_ble_eq_true rfl)⟩ (Nat.le_of_ble_eq_true rfl) (Nat.le_of_ble_eq_true rfl) ?_
  refine bw_astore 7 dX9_cell_5 rfl (by decide) ?_
  refine bw_aload 9 dX9_cell_7 rfl rfl ?_
  refine bw_get 12 dX9_cell_9 rfl lX9_168 (hC.at 2 rfl) rfl ?_
  refine bw_aload 14 dX9_cell_12 rfl rfl ?_
  refine bw_iload_n 15 dX9_cell_14 rfl rfl ?_
  refine bw_iload_n 16 dX9_cell_15 rfl rfl ?_
  refine bw_cSz 19 dX9_cell_16 rfl sX9_191 (c9_plX g (hC.sub [2] (by decide) rfl) h) rfl rfl (Nat.le_of_ble_eq_true rfl) ⟨(Nat.le_of_ble_eq_true rfl), (Nat.le_of_ble_eq_true rfl)⟩ (Nat.le_of_ble_eq_true rfl) (Nat.le_of_ble_eq_true rfl) rfl ?_
  exact fun m hm => ⟨rfl, m, hm, rfl⟩
theorem k9_cellX (g : bw_G) {A : bw_H} {x n rn mn pn sn : Nat} {a b d : Int32} (hC : bw_has A [(x, xob x n rn mn pn sn)]) (h : ¬ kI mn a) : bw_C g (bw_rm 8 20 200) mX9_cell [.ref x, .int a, .int b, .int d] A (bw_pz eIO A) := by
  refine bw_C.of (by decide) (Nat.le_of_ble_eq_true rfl) rfl ?_
  refine bw_aload_n 1 dX9_cell_0 rfl rfl ?_
  refine bw_iload_n 2 dX9_cell_1 rfl rfl ?_
  refine bw_cVz 5 dX9_cell_2 rfl vX9_176 (c9_maX g hC h) (hC.at 0 rfl) rfl rfl (Nat.le_of_ble_eq_true rfl) ⟨(Nat.le_of_ble_eq_true rfl), (Nat.le_of_ble_eq_true rfl)⟩ (Nat.le_of_ble_eq_true rfl) (Nat.le_of_ble_eq_true rfl) rfl ?_
  exact fun m hm => ⟨rfl, m, hm, rfl⟩
theorem k9_set (g : bw_G) {A : bw_H} {x n p gg rn mn pn sn M r c k i j v : Nat} {MA : Nat → Option Nat} {f : Nat → Nat} (hn : 2 ^ n ≤ 65536) (hC : bw_has A ((x, xob x n rn mn pn sn) :: (x + 6, bw_aq g 3 40 MA) :: (mcl g M r c f ++ [(x + 9, fob n p gg (x + 9))]))) (hk : k < mn) (hm : mn ≤ 40) (ha : MA k = some M) (hr : r ≤ 8) (hc : c ≤ 8) (hi : i < r) (hj : j < c) (hv : v < 2 ^ n) : bw_C g (bw_rm 8 20 200) mX9_set [.ref x, .int (nI k), .int (nI i), .int (nI j), .int (nI v)] A (bw_pm (fun y A' => y = nI (f (i * c + j)) ∧ A' = bw_up A (M + 1) (bw_an g (r * c) (fun t => if t = i * c + j then v else f t)))) := by
  have hrc : r * c ≤ 64 := Nat.mul_le_mul hr hc
  have hic := row_end (c := c) hi
  refine bw_C.of (by decide) (Nat.le_of_ble_eq_true rfl) rfl ?_
  refine bw_aload_n 1 dX9_set_0 rfl rfl ?_
  refine bw_iload_n 2 dX9_set_1 rfl rfl ?_
  refine bw_cVr 5 dX9_set_2 rfl vX9_176 (c9_ma g (hC.sub [0, 1] (by decide) rfl) hk hm ha) (hC.at 0 rfl) rfl rfl (Nat.le_of_ble_eq_true rfl) ⟨(Nat.le_of_ble_eq_true rfl), (Nat.le_of_ble_eq_true rfl)⟩ (Nat.le_of_ble_eq_true rfl) (Nat.le_of_ble_eq_true rfl) ?_
  refine bw_astore 7 dX9_set_5 rfl (by decide) ?_
  refine bw_aload 9 dX9_set_7 rfl rfl ?_
  refine bw_iload_n 10 dX9_set_9 rfl rfl ?_
  refine bw_iload_n 11 dX9_set_10 rfl rfl ?_
  refine bw_cSi 14 dX9_set_11 rfl sX9_191 (c9_pl g (hC.sub [2] (by decide) rfl) hr hc hi hj) rfl rfl (Nat.le_of_ble_eq_true rfl) ⟨(Nat.le_of_ble_eq_true rfl), (Nat.le_of_ble_eq_true rfl)⟩ (Nat.le_of_ble_eq_true rfl) (Nat.le_of_ble_eq_true rfl) ?_
  refine bw_istore 16 dX9_set_14 rfl (by decide) ?_
  refine bw_aload_n 17 dX9_set_16 rfl rfl ?_
  refine bw_iload 19 dX9_set_17 rfl rfl ?_
  refine bw_cVv 22 dX9_set_19 rfl vX9_100 (c9_nm g (hC.sub [0, 4] (by decide) rfl) (mI_nI hn hv)) (hC.at 0 rfl) rfl rfl (Nat.le_of_ble_eq_true rfl) ⟨(Nat.le_of_ble_eq_true rfl), (Nat.le_of_ble_eq_true rfl)⟩ (Nat.le_of_ble_eq_true rfl) (Nat.le_of_ble_eq_true rfl) (fun A hP => ?_)
  subst hP
  refine bw_aload 24 dX9_set_22 rfl rfl ?_
  refine bw_get 27 dX9_set_24 rfl lX9_168 (hC.at 2 rfl) rfl ?_
  refine bw_iload 29 dX9_set_27 rfl rfl ?_
  refine bw_ialdN 30 dX9_set_29 rfl (hC.at 3 rfl) (by omega) (by omega) ?_
  refine bw_istore 32 dX9_set_30 rfl (by decide) ?_
  refine bw_aload 34 dX9_set_32 rfl rfl ?_
  refine bw_get 37 dX9_set_34 rfl lX9_168 (hC.at 2 rfl) rfl ?_
  refine bw_iload 39 dX9_set_37 rfl rfl ?_
  refine bw_iload 41 dX9_set_39 rfl rfl ?_
  refine bw_iastN 42 dX9_set_41 rfl (hC.at 3 rfl) (by omega) (by omega) (G := _) (rfl) (fun A hU => ?_)
  skip
  refine bw_iload 44 dX9_set_42 rfl rfl ?_
  refine bw_iret dX9_set_44 rfl (Nat.le_of_ble_eq_true rfl) (Nat.le_of_ble_eq_true rfl) ?_
  exact ⟨_, rfl, rfl, hU⟩
theorem k9_setZ (g : bw_G) {A : bw_H} {x n p gg rn mn pn sn M r c k i j : Nat} {v : Int32} {MA : Nat → Option Nat} {f : Nat → Nat} (hC : bw_has A ((x, xob x n rn mn pn sn) :: (x + 6, bw_aq g 3 40 MA) :: (mcl g M r c f ++ [(x + 9, fob n p gg (x + 9))]))) (hk : k < mn) (hm : mn ≤ 40) (ha : MA k = some M) (hr : r ≤ 8) (hc : c ≤ 8) (hi : i < r) (hj : j < c) (h : ¬ mI n v) : bw_C g (bw_rm 8 20 200) mX9_set [.ref x, .int (nI k), .int (nI i), .int (nI j), .int v] A (bw_pz eIA A) := by
  refine bw_C.of (by decide) (Nat.le_of_ble_eq_true rfl) rfl ?_
  refine bw_aload_n 1 dX9_set_0 rfl rfl ?_
  refine bw_iload_n 2 dX9_set_1 rfl rfl ?_
  refine bw_cVr 5 dX9_set_2 rfl vX9_176 (c9_ma g (hC.sub [0, 1] (by decide) rfl) hk hm ha) (hC.at 0 rfl) rfl rfl (Nat.le_of_ble_eq_true rfl) ⟨(Nat.le_of_ble_eq_true rfl), (Nat.le_of_ble_eq_true rfl)⟩ (Nat.le_of_ble_eq_true rfl) (Nat.le_of_ble_eq_true rfl) ?_
  refine bw_astore 7 dX9_set_5 rfl (by decide) ?_
  refine bw_aload 9 dX9_set_7 rfl rfl ?_
  refine bw_iload_n 10 dX9_set_9 rfl rfl ?_
  refine bw_iload_n 11 dX9_set_10 rfl rfl ?_
  refine bw_cSi 14 dX9_set_11 rfl sX9_191 (c9_pl g (hC.sub [2] (by decide) rfl) hr hc hi hj) rfl rfl (Nat.le_of_ble_eq_true rfl) ⟨(Nat.le_of_ble_eq_true rfl), (Nat.le_of_ble_eq_true rfl)⟩ (Nat.le_of_ble_eq_true rfl) (Nat.le_of_ble_eq_true rfl) ?_
  refine bw_istore 16 dX9_set_14 rfl (by decide) ?_
  refine bw_aload_n 17 dX9_set_16 rfl rfl ?_
  refine bw_iload 19 dX9_set_17 rfl rfl ?_
  refine bw_cVz 22 dX9_set_19 rfl vX9_100 (c9_nmX g (hC.sub [0, 4] (by decide) rfl) h) (hC.at 0 rfl) rfl rfl (Nat.le_of_ble_eq_true rfl) ⟨(Nat.le_of_ble_eq_true rfl), (Nat.le_of_ble_eq_true rfl)⟩ (Nat.le_of_ble_eq_true rfl) (Nat.le_of_ble_eq_true rfl) rfl ?_
  exact fun m hm => ⟨rfl, m, hm, rfl⟩
theorem k9_setY (g : bw_G) {A : bw_H} {x n rn mn pn sn M r c k : Nat} {a b v : Int32} {MA : Nat → Option Nat} {f : Nat → Nat} (hC : bw_has A ((x, xob x n rn mn pn sn) :: (x + 6, bw_aq g 3 40 MA) :: mcl g M r c f)) (hk : k < mn) (hm : mn ≤ 40) (ha : MA k = some M) (h : ¬ (kI r a ∧ kI c b)) : bw_C g (bw_rm 8 20 200) mX9_set [.ref x, .int (nI k), .int a, .int b, .int v] A (bw_pz eIO A) := by
  refine bw_C.of (by decide) (Nat.le_of_ble_eq_true rfl) rfl ?_
  refine bw_aload_n 1 dX9_set_0 rfl rfl ?_
  refine bw_iload_n 2 dX9_set_1 rfl rfl ?_
  refine bw_cVr 5 dX9_set_2 rfl vX9_176 (c9_ma g (hC.sub [0, 1] (by decide) rfl) hk hm ha) (hC.at 0 rfl) rfl rfl (Nat.le_of_ble_eq_true rfl) ⟨(Nat.le_of_ble_eq_true rfl), (Nat.le_of_ble_eq_true rfl)⟩ (Nat.le_of_ble_eq_true rfl) (Nat.le_of_ble_eq_true rfl) ?_
  refine bw_astore 7 dX9_set_5 rfl (by decide) ?_
  refine bw_aload 9 dX9_set_7 rfl rfl ?_
  refine bw_iload_n 10 dX9_set_9 rfl rfl ?_
  refine bw_iload_n 11 dX9_set_10 rfl rfl ?_
  refine bw_cSz 14 dX9_set_11 rfl sX9_191 (c9_plX g (hC.sub [2] (by decide) rfl) h) rfl rfl (Nat.le_of_ble_eq_true rfl) ⟨(Nat.le_of_ble_eq_true rfl), (Nat.le_of_ble_eq_true rfl)⟩ (Nat.le_of_ble_eq_true rfl) (Nat.le_of_ble_eq_true rfl) rfl ?_
  exact fun m hm => ⟨rfl, m, hm, rfl⟩
theorem k9_setX (g : bw_G) {A : bw_H} {x n rn mn pn sn : Nat} {a b d v : Int32} (hC : bw_has A [(x, xob x n rn mn pn sn)]) (h : ¬ kI mn a) : bw_C g (bw_rm 8 20 200) mX9_set [.ref x, .int a, .int b, .int d, .int v] A (bw_pz eIO A) := by
  refine bw_C.of (by decide) (Nat.le_of_ble_eq_true rfl) rfl ?_
  refine bw_aload_n 1 dX9_set_0 rfl rfl ?_
  refine bw_iload_n 2 dX9_set_1 rfl rfl ?_
  refine bw_cVz 5 dX9_set_2 rfl vX9_176 (c9_maX g hC h) (hC.at 0 rfl) rfl rfl (Nat.le_of_ble_eq_true rfl) ⟨(Nat.le_of_ble_eq_true rfl), (Nat.le_of_ble_eq_true rfl)⟩ (Nat.le_of_ble_eq_true rfl) (Nat.le_of_ble_eq_true rfl) rfl ?_
  exact fun m hm => ⟨rfl, m, hm, rfl⟩
/-- below a nothing changes but L -/
def bw_ff (a : Nat) (L : List Nat) (A0 A : bw_H) : Prop := ∀ b : Nat, b < a → b ∉ L → A.2 b = A0.2 b
theorem bw_ff.rf {a : Nat} {L : List Nat} {A : bw_H} : bw_ff a L A A := fun _ _ _ => rfl
theorem bw_ff.upd {a : Nat} {L : List Nat} {A0 A A' : bw_H} {c : Nat} {e : va_E} (h : bw_ff a L A0 A) (hA : A' = bw_up A c e) (hc : a ≤ c ∨ c ∈ L) : bw_ff a L A0 A' := by
  subst hA
  intro b h1 h2
  rw [bw_up_ne (fun e => by subst e; rcases hc with h | h; exact absurd h (by omega); exact h2 h)]
  exact h b h1 h2
theorem bw_ff.nwd {a : Nat} {L : List Nat} {A0 A A' : bw_H} {c : Nat} {e : va_E} (h : bw_ff a L A0 A) (hA : A' = bw_nw A e) (hz : A.1 = c) (hc : a ≤ c) : bw_ff a L A0 A' := by
  subst hA
  intro b h1 h2
  rw [bw_nw_ne (by omega)]
  exact h b h1 h2
theorem bw_ff.gwt {a y : Nat} {L : List Nat} {A0 A A' : bw_H} (h : bw_ff a L A0 A) (h' : bw_gw y A A') (hy : a ≤ y) : bw_ff a L A0 A' := fun b h1 h2 => (h' b (by omega)).trans (h b h1 h2)
theorem bw_ff.sm {a : Nat} {L L' : List Nat} {A0 A A' : bw_H} (h : bw_ff a L A0 A) (h' : bw_sm L' A A') (hs : ∀ b ∈ L', a ≤ b ∨ b ∈ L) : bw_ff a L A0 A' := fun b h1 h2 => (h'.2 b (fun hb => by
  rcases hs b hb with h | h
  · omega
  · exact h2 h)).trans (h b h1 h2)
theorem bw_ff.mono {a : Nat} {L L' : List Nat} {A0 A : bw_H} (h : bw_ff a L A0 A) (hs : ∀ b ∈ L, b ∈ L') : bw_ff a L' A0 A := fun b h1 h2 => h b h1 (fun hb => h2 (hs b hb))
theorem bw_fz.ff {a u v : Nat} {A0 A : bw_H} (h : bw_fz a u v A0 A) : bw_ff a [u, v] A0 A := fun b h1 h2 => h b h1 (fun e => h2 (by simp [e])) (fun e => h2 (by simp [e]))
set_option maxHeartbeats 4000000 in
set_option maxRecDepth 100000 in
theorem c5_initB (g : bw_G) {A0 : bw_H} {x r c : Nat} (hC : bw_has A0 [(x, .inr (7, [.int 0, .int 0, .null]))]) (hz : A0.1 = x + 1) (hr : r ≤ 8) (hc : c ≤ 8) :
    bw_C g (bw_rm 1 1 64) mX5_init [.ref x, .int (nI r), .int (nI c)] A0 (bw_pv (bw_pn x 1 (mcl g x r c (fun _ => 0)) A0)) := by
  have hrc : r * c ≤ 64 := Nat.mul_le_mul hr hc
  have hW : bw_gw x A0 A0 := bw_gw.rf
  refine bw_C.of (by decide) (Nat.le_of_ble_eq_true rfl) rfl ?_
  refine bw_aload_n 1 dX5_init_0 rfl rfl ?_
  refine bw_objInit 4 dX5_init_1 rfl oX5_1 bw_oI bw_oC (Nat.le_of_ble_eq_true rfl) (Nat.le_of_ble_eq_true rfl) ?_
  refine bw_aload_n 5 dX5_init_4 rfl rfl ?_
  refine bw_iload_n 6 dX5_init_5 rfl rfl ?_
  refine bw_putFU 9 dX5_init_6 rfl pX5_7 rfl (hC.at 0 rfl) rfl rfl (Nat.le_of_ble_eq_true rfl) (fun A hU => ?_)
  have hC := hC.upd 0 rfl hU
  have hz := (congrArg Prod.fst hU).trans hz
  have hW := hW.upd hU (by omega)
  clear hU
  refine bw_aload_n 10 dX5_init_9 rfl rfl ?_
  refine bw_iload_n 11 dX5_init_10 rfl rfl ?_
  refine bw_putFU 14 dX5_init_11 rfl pX5_13 rfl (hC.at 0 rfl) rfl rfl (Nat.le_of_ble_eq_true rfl) (fun A hU => ?_)
  have hC := hC.upd 0 rfl hU
  have hz := (congrArg Prod.fst hU).trans hz
  have hW := hW.upd hU (by omega)
  clear hU
  refine bw_aload_n 15 dX5_init_14 rfl rfl ?_
  refine bw_iload_n 16 dX5_init_15 rfl rfl ?_
  refine bw_iload_n 17 dX5_init_16 rfl rfl ?_
  refine bw_imul 18 dX5_init_17 rfl ?_
  refine bw_eqi (pk_mul r c) ?_
  refine bw_ok (fun hok => ?_)
  refine bw_newiU 20 dX5_init_18 rfl bw_wI (by exact nI_pos (by omega)) (by exact nI_clamp (by omega)) (by omega) (Nat.le_of_ble_eq_true rfl) (show 0 + r * c ≤ 64 by omega) hz (fun A hU => ?_)
  have hC := hC.nwda hok hz hU
  have hW := hW.nwd hU hz (by omega)
  have hz := (congrArg Prod.fst hU).trans (congrArg (· + 1) hz)
  clear hU hok
  refine bw_putFU 23 dX5_init_20 rfl pX5_16 rfl (hC.at 0 rfl) rfl rfl (Nat.le_of_ble_eq_true rfl) (fun A hU => ?_)
  have hC := hC.upd 0 rfl hU
  have hz := (congrArg Prod.fst hU).trans hz
  have hW := hW.upd hU (by omega)
  clear hU
  refine bw_vret dX5_init_23 rfl (Nat.le_of_ble_eq_true rfl) (show 0 + r * c ≤ 64 by omega) ?_
  exact ⟨rfl, hz, hW, hC⟩
/-- a matrix more is kept -/
def maP (g : bw_G) (x n rn mn pn sn a r c : Nat) (MA : Nat → Option Nat) (f : Nat → Nat) (L : List Nat) (A0 : bw_H) (y : Int32) (A' : bw_H) : Prop := y = nI mn ∧ A'.1 = a + 2 ∧ bw_has A' ((x, xob x n rn (mn + 1) pn sn) :: (x + 6, bw_aq g 3 40 (fun i => if i = mn then some a else MA i)) :: mcl g a r c f) ∧ bw_ff a L A0 A'
theorem sI_nI {k : Nat} (h1 : 1 ≤ k) (h : k ≤ 8) : sI (nI k) := by
  have : ∀ k, k ≤ 8 → 1 ≤ k → (¬ nI k < 1 ∧ nI k ≤ 8) := by decide
  exact this k h h1
set_option maxHeartbeats 4000000 in
set_option maxRecDepth 100000 in
theorem k9_matrix (g : bw_G) {A0 : bw_H} {x n rn mn pn sn r c a : Nat} {MA : Nat → Option Nat} (hC : bw_has A0 [(x, xob x n rn mn pn sn), (x + 6, bw_aq g 3 40 MA)]) (hz : A0.1 = a) (hr1 : 1 ≤ r) (hr : r ≤ 8) (hc1 : 1 ≤ c) (hc : c ≤ 8) (hm : mn < 40) : bw_C g (bw_rm 8 20 200) mX9_matrix [.ref x, .int (nI r), .int (nI c)] A0 (bw_pm (maP g x n rn mn pn sn a r c MA (fun _ => 0) [x, x + 6] A0)) := by
  have hW : bw_ff a [x, x + 6] A0 A0 := bw_ff.rf
  refine bw_C.of (by decide) (Nat.le_of_ble_eq_true rfl) rfl ?_
  refine bw_iload_n 1 dX9_matrix_0 rfl rfl ?_
  refine bw_iload_n 2 dX9_matrix_1 rfl rfl ?_
  refine bw_cSv 5 dX9_matrix_2 rfl sX9_148 (c9_ns g (sI_nI hr1 hr) (sI_nI hc1 hc)) rfl rfl (Nat.le_of_ble_eq_true rfl) ⟨(Nat.le_of_ble_eq_true rfl), (Nat.le_of_ble_eq_true rfl)⟩ (Nat.le_of_ble_eq_true rfl) (Nat.le_of_ble_eq_true rfl) (fun A hP => ?_)
  subst hP
  refine bw_aload_n 6 dX9_matrix_5 rfl rfl ?_
  refine bw_cVv 9 dX9_matrix_6 rfl vX9_151 (c9_nr g (hC.sub [0] (by decide) rfl) hm) (hC.at 0 rfl) rfl rfl (Nat.le_of_ble_eq_true rfl) ⟨(Nat.le_of_ble_eq_true rfl), (Nat.le_of_ble_eq_true rfl)⟩ (Nat.le_of_ble_eq_true rfl) (Nat.le_of_ble_eq_true rfl) (fun A hP => ?_)
  subst hP
  refine bw_aload_n 10 dX9_matrix_9 rfl rfl ?_
  refine bw_ok (fun hok => ?_)
  refine bw_newU 13 dX9_matrix_10 rfl nX9_25 (Nat.le_of_ble_eq_true rfl) (Nat.le_of_ble_eq_true rfl) hz (fun A hU => ?_)
  have hC := hC.nwda hok hz hU
  have hW := hW.nwd hU hz (by omega)
  have hz := (congrArg Prod.fst hU).trans (congrArg (· + 1) hz)
  clear hU hok
  refine bw_dup 14 dX9_matrix_13 rfl rfl ?_
  refine bw_iload_n 15 dX9_matrix_14 rfl rfl ?_
  refine bw_iload_n 16 dX9_matrix_15 rfl rfl ?_
  refine bw_ok (fun hok => ?_)
  refine bw_cIv 19 dX9_matrix_16 rfl iX9_154 (c5_initB g (hC.sub [2] (by decide) rfl) hz hr hc) rfl rfl (Nat.le_of_ble_eq_true rfl) ⟨(Nat.le_of_ble_eq_true rfl), (Nat.le_of_ble_eq_true rfl)⟩ (Nat.le_of_ble_eq_true rfl) (Nat.le_of_ble_eq_true rfl) (fun A hP => ?_)
  obtain ⟨h1, h2, h3⟩ := hP
  have hC := hC.gr hok hz rfl h2 h3 (by simp)
  have hW := hW.gwt h2 (by omega)
  have hz := h1
  refine bw_cVm 22 dX9_matrix_19 rfl vX9_155 (c9_keepMatrix g (hC.sub [0, 1, 2] (by decide) rfl) hm) (hC.at 0 rfl) rfl rfl (Nat.le_of_ble_eq_true rfl) ⟨(Nat.le_of_ble_eq_true rfl), (Nat.le_of_ble_eq_true rfl)⟩ (Nat.le_of_ble_eq_true rfl) (Nat.le_of_ble_eq_true rfl) (fun x A hP => ?_)
  obtain ⟨h4, h5⟩ := hP
  subst h4
  have hC := (hC.upd 1 rfl rfl).upd 0 rfl h5
  have hW := (hW.upd rfl (Or.inr (by simp))).upd h5 (Or.inr (by simp))
  have hz := (congrArg Prod.fst h5).trans hz
  refine bw_iret dX9_matrix_22 rfl (Nat.le_of_ble_eq_true rfl) (Nat.le_of_ble_eq_true rfl) ?_
  exact ⟨_, rfl, rfl, hz, hC, hW⟩
theorem k9_matrixY (g : bw_G) {A : bw_H} {x n rn mn pn sn : Nat} {a b : Int32} (hC : bw_has A [(x, xob x n rn mn pn sn)]) (h1 : sI a) (h2 : sI b) (hm : mn = 40) : bw_C g (bw_rm 8 20 200) mX9_matrix [.ref x, .int a, .int b] A (bw_pz eUO A) := by
  refine bw_C.of (by decide) (Nat.le_of_ble_eq_true rfl) rfl ?_
  refine bw_iload_n 1 dX9_matrix_0 rfl rfl ?_
  refine bw_iload_n 2 dX9_matrix_1 rfl rfl ?_
  refine bw_cSv 5 dX9_matrix_2 rfl sX9_148 (c9_ns g h1 h2) rfl rfl (Nat.le_of_ble_eq_true rfl) ⟨(Nat.le_of_ble_eq_true rfl), (Nat.le_of_ble_eq_true rfl)⟩ (Nat.le_of_ble_eq_true rfl) (Nat.le_of_ble_eq_true rfl) (fun A hP => ?_)
  subst hP
  refine bw_aload_n 6 dX9_matrix_5 rfl rfl ?_
  refine bw_cVz 9 dX9_matrix_6 rfl vX9_151 (c9_nrX g hC hm) (hC.at 0 rfl) rfl rfl (Nat.le_of_ble_eq_true rfl) ⟨(Nat.le_of_ble_eq_true rfl), (Nat.le_of_ble_eq_true rfl)⟩ (Nat.le_of_ble_eq_true rfl) (Nat.le_of_ble_eq_true rfl) rfl ?_
  exact fun m hm => ⟨rfl, m, hm, rfl⟩
theorem k9_matrixX (g : bw_G) {A : bw_H} {x : Nat} {a b : Int32} (h : ¬ (sI a ∧ sI b)) : bw_C g (bw_rm 8 20 200) mX9_matrix [.ref x, .int a, .int b] A (bw_pz eIA A) := by
  refine bw_C.of (by decide) (Nat.le_of_ble_eq_true rfl) rfl ?_
  refine bw_iload_n 1 dX9_matrix_0 rfl rfl ?_
  refine bw_iload_n 2 dX9_matrix_1 rfl rfl ?_
  refine bw_cSz 5 dX9_matrix_2 rfl sX9_148 (c9_nsX g h) rfl rfl (Nat.le_of_ble_eq_true rfl) ⟨(Nat.le_of_ble_eq_true rfl), (Nat.le_of_ble_eq_true rfl)⟩ (Nat.le_of_ble_eq_true rfl) (Nat.le_of_ble_eq_true rfl) rfl ?_
  exact fun m hm => ⟨rfl, m, hm, rfl⟩
theorem gel_lt {n c : Nat} {m : Nat → Nat} {W : Nat → Nat → Nat} (hm : ∀ i, m i < 2 ^ n) (hW : ∀ i j, W i j < 2 ^ n) (k i j : Nat) : gel c m W k i j < 2 ^ n := by
  unfold gel
  split
  · exact hm _
  · exact hW i j
theorem gai_lt {n wd h : Nat} {W : Nat → Nat → Nat} (h1 : 1 < 2 ^ n) (hW : ∀ i j, W i j < 2 ^ n) (i j a b : Nat) : gai W wd h i j a b < 2 ^ n := by
  unfold gai
  split
  · split
    · exact h1
    · omega
  · exact hW a b
theorem gac_lt {n wd k : Nat} {f : Nat → Nat} {W : Nat → Nat → Nat} (hf : ∀ i, f i < 2 ^ n) (hW : ∀ i j, W i j < 2 ^ n) (a b : Nat) : gac W wd f k a b < 2 ^ n := by
  unfold gac
  split
  · exact hf a
  · exact hW a b
theorem el_call {g : bw_G} {A A' : bw_H} {ws : List (Nat × va_E)} {n p gg E F ec pr h0 wd0 rk0 pp0 h wd rk pp : Nat} {pv0 pv : Nat → Option Nat} {W : Nat → Nat → Nat} (hC : bw_has A (ws ++ evl g n p gg E F ec pr h0 wd0 rk0 pp0 pv0)) (hP : elP g n p gg E F ec pr h wd rk pp pv W A A') (hsep : ∀ q ∈ ws, q.1 < ec + 1 ∨ ec + 1 + 8 ≤ q.1) : bw_has A' (ws ++ evl g n p gg E F ec pr h wd rk pp pv) := by
  obtain ⟨h1, h2, h3⟩ := hC.spl
  refine bw_has.app (h1.frm hP.1 (fun q hq hm => ?_)) hP.2.1 (fun q hq q' hq' e => ?_)
  · have hs := hsep q hq
    rcases List.mem_cons.mp hm with e | hm
    · exact h3 q hq (E, eob F ec pr h0 wd0 rk0 pp0) (by simp) e
    · rcases List.mem_cons.mp hm with e | hm
      · exact h3 q hq (pr, bw_ao g 8 pv0) (by simp) e
      · have := List.mem_range'_1.mp hm
        omega
  · have hx : q'.1 ∈ (evl g n p gg E F ec pr h wd rk pp pv).map Prod.fst := List.mem_map_of_mem (f := Prod.fst) hq'
    have : q'.1 ∈ (evl g n p gg E F ec pr h0 wd0 rk0 pp0 pv0).map Prod.fst := hx
    obtain ⟨q2, m2, e2⟩ := List.mem_map.mp this
    exact h3 q hq q2 m2 (e.trans e2.symm)
theorem elP.tr {g : bw_G} {A0 A A' : bw_H} {n p gg E F ec pr h0 wd0 rk0 pp0 h wd rk pp : Nat} {pv0 pv : Nat → Option Nat} {W0 W : Nat → Nat → Nat} (h1 : elP g n p gg E F ec pr h0 wd0 rk0 pp0 pv0 W0 A0 A) (h2 : elP g n p gg E F ec pr h wd rk pp pv W A A') : elP g n p gg E F ec pr h wd rk pp pv W A0 A' := ⟨h1.1.trans h2.1 (fun _ h => h), h2.2⟩
set_option maxHeartbeats 4000000 in
set_option maxRecDepth 100000 in
theorem k9_rank (g : bw_G) {A : bw_H} {x n p gg rn mn pn sn M r c k h wd rk pp : Nat} {MA pv : Nat → Option Nat} {f : Nat → Nat} {W : Nat → Nat → Nat} (hG : GFg n p gg) (hC : bw_has A ((x, xob x n rn mn pn sn) :: (x + 6, bw_aq g 3 40 MA) :: (mcl g M r c f ++ evl g n p gg (x + 11) (x + 9) (x + 12) (x + 21) h wd rk pp pv))) (hR : bw_rw g A (x + 12 + 1) 8 16 W) (hM : x + 22 ≤ M) (hf : ∀ i, f i < 2 ^ n) (hW : ∀ i j, W i j < 2 ^ n) (hk : k < mn) (hm : mn ≤ 40) (ha : MA k = some M) (hr : r ≤ 8) (hc : c ≤ 8) : bw_C g (bw_rm 8 20 200) mX9_rank [.ref x, .int (nI k)] A (bw_pm (fun y A' => y = nI (gre n (2 ^ n ||| p) r c c 0 (gel c f W r) 0 1 pv).2.1 ∧ elP g n p gg (x + 11) (x + 9) (x + 12) (x + 21) r c (gre n (2 ^ n ||| p) r c c 0 (gel c f W r) 0 1 pv).2.1 (gre n (2 ^ n ||| p) r c c 0 (gel c f W r) 0 1 pv).2.2.1 (gre n (2 ^ n ||| p) r c c 0 (gel c f W r) 0 1 pv).2.2.2 (gre n (2 ^ n ||| p) r c c 0 (gel c f W r) 0 1 pv).1 A A')) := by
  refine bw_C.of (by decide) (Nat.le_of_ble_eq_true rfl) rfl ?_
  refine bw_aload_n 1 dX9_rank_0 rfl rfl ?_
  refine bw_iload_n 2 dX9_rank_1 rfl rfl ?_
  refine bw_cVr 5 dX9_rank_2 rfl vX9_176 (c9_ma g (hC.sub [0, 1] (by decide) rfl) hk hm ha) (hC.at 0 rfl) rfl rfl (Nat.le_of_ble_eq_true rfl) ⟨(Nat.le_of_ble_eq_true rfl), (Nat.le_of_ble_eq_true rfl)⟩ (Nat.le_of_ble_eq_true rfl) (Nat.le_of_ble_eq_true rfl) ?_
  refine bw_astore_n 6 dX9_rank_5 rfl (by decide) ?_
  refine bw_aload_n 7 dX9_rank_6 rfl rfl ?_
  refine bw_get 10 dX9_rank_7 rfl lX9_52 (hC.at 0 rfl) rfl ?_
  refine bw_aload_n 11 dX9_rank_10 rfl rfl ?_
  refine bw_cVv 14 dX9_rank_11 rfl vX9_205 (c1_load g (by simp <;> omega) hr hc (hC.sub [4, 5, 6, 7, 8, 2, 3] (by decide) rfl) hR) (hC.at 4 rfl) rfl rfl (Nat.le_of_ble_eq_true rfl) ⟨(Nat.le_of_ble_eq_true rfl), (Nat.le_of_ble_eq_true rfl)⟩ (Nat.le_of_ble_eq_true rfl) (Nat.le_of_ble_eq_true rfl) (fun A hP => ?_)
  have hC := el_call (ws := (x, xob x n rn mn pn sn) :: (x + 6, bw_aq g 3 40 MA) :: mcl g M r c f) hC hP (by simp <;> omega)
  have hE := hP
  refine bw_aload_n 15 dX9_rank_14 rfl rfl ?_
  refine bw_get 18 dX9_rank_15 rfl lX9_52 (hC.at 0 rfl) rfl ?_
  refine bw_aload_n 19 dX9_rank_18 rfl rfl ?_
  refine bw_get 22 dX9_rank_19 rfl lX9_188 (hC.at 2 rfl) rfl ?_
  refine bw_cVm 25 dX9_rank_22 rfl vX9_211 (c1_reduce g hG (by simp <;> omega) hr (by omega) hc (gel_lt hf hW r) (hC.sub [4, 5, 6, 7, 8] (by decide) rfl) hE.2.2) (hC.at 4 rfl) rfl rfl (Nat.le_of_ble_eq_true rfl) ⟨(Nat.le_of_ble_eq_true rfl), (Nat.le_of_ble_eq_true rfl)⟩ (Nat.le_of_ble_eq_true rfl) (Nat.le_of_ble_eq_true rfl) (fun x A hP => ?_)
  obtain ⟨h4, h5⟩ := hP
  subst h4
  refine bw_iret dX9_rank_25 rfl (Nat.le_of_ble_eq_true rfl) (Nat.le_of_ble_eq_true rfl) ?_
  exact ⟨_, rfl, rfl, hE.tr h5⟩
theorem k9_rankX (g : bw_G) {A : bw_H} {x n rn mn pn sn : Nat} {a : Int32} (hC : bw_has A [(x, xob x n rn mn pn sn)]) (h : ¬ kI mn a) : bw_C g (bw_rm 8 20 200) mX9_rank [.ref x, .int a] A (bw_pz eIO A) := by
  refine bw_C.of (by decide) (Nat.le_of_ble_eq_true rfl) rfl ?_
  refine bw_aload_n 1 dX9_rank_0 rfl rfl ?_
  refine bw_iload_n 2 dX9_rank_1 rfl rfl ?_
  refine bw_cVz 5 dX9_rank_2 rfl vX9_176 (c9_maX g hC h) (hC.at 0 rfl) rfl rfl (Nat.le_of_ble_eq_true rfl) ⟨(Nat.le_of_ble_eq_true rfl), (Nat.le_of_ble_eq_true rfl)⟩ (Nat.le_of_ble_eq_true rfl) (Nat.le_of_ble_eq_true rfl) rfl ?_
  exact fun m hm => ⟨rfl, m, hm, rfl⟩
set_option maxHeartbeats 4000000 in
set_option maxRecDepth 100000 in
theorem k9_determinant (g : bw_G) {A : bw_H} {x n p gg rn mn pn sn M r k h wd rk pp : Nat} {MA pv : Nat → Option Nat} {f : Nat → Nat} {W : Nat → Nat → Nat} (hG : GFg n p gg) (hC : bw_has A ((x, xob x n rn mn pn sn) :: (x + 6, bw_aq g 3 40 MA) :: (mcl g M r r f ++ evl g n p gg (x + 11) (x + 9) (x + 12) (x + 21) h wd rk pp pv))) (hR : bw_rw g A (x + 12 + 1) 8 16 W) (hM : x + 22 ≤ M) (hf : ∀ i, f i < 2 ^ n) (hW : ∀ i j, W i j < 2 ^ n) (hk : k < mn) (hm : mn ≤ 40) (ha : MA k = some M) (hr : r ≤ 8) (hrk : (gre n (2 ^ n ||| p) r r r 0 (gel r f W r) 0 1 pv).2.1 < 2 ^ 31) : bw_C g (bw_rm 8 20 200) mX9_determinant [.ref x, .int (nI k)] A (bw_pm (fun y A' => y = nI (if (gre n (2 ^ n ||| p) r r r 0 (gel r f W r) 0 1 pv).2.1 < r then 0 else (gre n (2 ^ n ||| p) r r r 0 (gel r f W r) 0 1 pv).2.2.1) ∧ elP g n p gg (x + 11) (x + 9) (x + 12) (x + 21) r r (gre n (2 ^ n ||| p) r r r 0 (gel r f W r) 0 1 pv).2.1 (gre n (2 ^ n ||| p) r r r 0 (gel r f W r) 0 1 pv).2.2.1 (gre n (2 ^ n ||| p) r r r 0 (gel r f W r) 0 1 pv).2.2.2 (gre n (2 ^ n ||| p) r r r 0 (gel r f W r) 0 1 pv).1 A A')) := by
  refine bw_C.of (by decide) (Nat.le_of_ble_eq_true rfl) rfl ?_
  refine bw_aload_n 1 dX9_determinant_0 rfl rfl ?_
  refine bw_iload_n 2 dX9_determinant_1 rfl rfl ?_
  refine bw_cVr 5 dX9_determinant_2 rfl vX9_176 (c9_ma g (hC.sub [0, 1] (by decide) rfl) hk hm ha) (hC.at 0 rfl) rfl rfl (Nat.le_of_ble_eq_true rfl) ⟨(Nat.le_of_ble_eq_true rfl), (Nat.le_of_ble_eq_true rfl)⟩ (Nat.le_of_ble_eq_true rfl) (Nat.le_of_ble_eq_true rfl) ?_
  refine bw_astore_n 6 dX9_determinant_5 rfl (by decide) ?_
  refine bw_aload_n 7 dX9_determinant_6 rfl rfl ?_
  refine bw_cSv 10 dX9_determinant_7 rfl sX9_201 (c9_nq g (hC.sub [2] (by decide) rfl) rfl) rfl rfl (Nat.le_of_ble_eq_true rfl) ⟨(Nat.le_of_ble_eq_true rfl), (Nat.le_of_ble_eq_true rfl)⟩ (Nat.le_of_ble_eq_true rfl) (Nat.le_of_ble_eq_true rfl) (fun A hP => ?_)
  subst hP
  refine bw_aload_n 11 dX9_determinant_10 rfl rfl ?_
  refine bw_get 14 dX9_determinant_11 rfl lX9_52 (hC.at 0 rfl) rfl ?_
  refine bw_aload_n 15 dX9_determinant_14 rfl rfl ?_
  refine bw_cVv 18 dX9_determinant_15 rfl vX9_205 (c1_load g (by simp <;> omega) hr hr (hC.sub [4, 5, 6, 7, 8, 2, 3] (by decide) rfl) hR) (hC.at 4 rfl) rfl rfl (Nat.le_of_ble_eq_true rfl) ⟨(Nat.le_of_ble_eq_true rfl), (Nat.le_of_ble_eq_true rfl)⟩ (Nat.le_of_ble_eq_true rfl) (Nat.le_of_ble_eq_true rfl) (fun A hP => ?_)
  have hC := el_call (ws := (x, xob x n rn mn pn sn) :: (x + 6, bw_aq g 3 40 MA) :: mcl g M r r f) hC hP (by simp <;> omega)
  have hE := hP
  refine bw_aload_n 19 dX9_determinant_18 rfl rfl ?_
  refine bw_get 22 dX9_determinant_19 rfl lX9_52 (hC.at 0 rfl) rfl ?_
  refine bw_aload_n 23 dX9_determinant_22 rfl rfl ?_
  refine bw_get 26 dX9_determinant_23 rfl lX9_188 (hC.at 2 rfl) rfl ?_
  refine bw_cVm 29 dX9_determinant_26 rfl vX9_211 (c1_reduce g hG (by simp <;> omega) hr (by omega) hr (gel_lt hf hW r) (hC.sub [4, 5, 6, 7, 8] (by decide) rfl) hE.2.2) (hC.at 4 rfl) rfl rfl (Nat.le_of_ble_eq_true rfl) ⟨(Nat.le_of_ble_eq_true rfl), (Nat.le_of_ble_eq_true rfl)⟩ (Nat.le_of_ble_eq_true rfl) (Nat.le_of_ble_eq_true rfl) (fun x A hP => ?_)
  obtain ⟨h4, h5⟩ := hP
  subst h4
  have hC := el_call (ws := (x, xob x n rn mn pn sn) :: (x + 6, bw_aq g 3 40 MA) :: mcl g M r r f) hC h5 (by simp <;> omega)
  refine bw_aload_n 30 dX9_determinant_29 rfl rfl ?_
  refine bw_get 33 dX9_determinant_30 rfl lX9_185 (hC.at 2 rfl) rfl ?_
  refine bw_icmp_ge 40 36 dX9_determinant_33 rfl rfl (fun c33 => ?_) (fun c33 => ?_)
  · have hge : r ≤ (gre n (2 ^ n ||| p) r r r 0 (gel r f W r) 0 1 pv).2.1 := (nI_leI (by omega) hrk).mp c33
    have hy : nI (gre n (2 ^ n ||| p) r r r 0 (gel r f W r) 0 1 pv).2.2.1 = nI (if (gre n (2 ^ n ||| p) r r r 0 (gel r f W r) 0 1 pv).2.1 < r then 0 else (gre n (2 ^ n ||| p) r r r 0 (gel r f W r) 0 1 pv).2.2.1) := by rw [if_neg (by omega)]
    refine bw_aload_n 41 dX9_determinant_40 rfl rfl ?_
    refine bw_get 44 dX9_determinant_41 rfl lX9_52 (hC.at 0 rfl) rfl ?_
    refine bw_get 47 dX9_determinant_44 rfl lX9_217 (hC.at 4 rfl) rfl ?_
    refine bw_iret dX9_determinant_47 rfl (Nat.le_of_ble_eq_true rfl) (Nat.le_of_ble_eq_true rfl) ?_
    exact ⟨_, rfl, hy, hE.tr h5⟩
  · have hlt : (gre n (2 ^ n ||| p) r r r 0 (gel r f W r) 0 1 pv).2.1 < r := Nat.not_le.mp (fun h => c33 (nI_le h (by omega)))
    have hy : nI 0 = nI (if (gre n (2 ^ n ||| p) r r r 0 (gel r f W r) 0 1 pv).2.1 < r then 0 else (gre n (2 ^ n ||| p) r r r 0 (gel r f W r) 0 1 pv).2.2.1) := by rw [if_pos hlt]
    refine bw_iconst (0) 37 dX9_determinant_36 (by decide) rfl ?_
    refine bw_eqi (y := nI 0) rfl ?_
    refine bw_goto 47 dX9_determinant_37 rfl ?_
    refine bw_iret dX9_determinant_47 rfl (Nat.le_of_ble_eq_true rfl) (Nat.le_of_ble_eq_true rfl) ?_
    exact ⟨_, rfl, hy, hE.tr h5⟩
theorem k9_determinantY (g : bw_G) {A : bw_H} {x n rn mn pn sn M r c k : Nat} {MA : Nat → Option Nat} {f : Nat → Nat} (hC : bw_has A ((x, xob x n rn mn pn sn) :: (x + 6, bw_aq g 3 40 MA) :: mcl g M r c f)) (hk : k < mn) (hm : mn ≤ 40) (ha : MA k = some M) (hr : r ≤ 8) (hc : c ≤ 8) (h : r ≠ c) : bw_C g (bw_rm 8 20 200) mX9_determinant [.ref x, .int (nI k)] A (bw_pz eIS A) := by
  refine bw_C.of (by decide) (Nat.le_of_ble_eq_true rfl) rfl ?_
  refine bw_aload_n 1 dX9_determinant_0 rfl rfl ?_
  refine bw_iload_n 2 dX9_determinant_1 rfl rfl ?_
  refine bw_cVr 5 dX9_determinant_2 rfl vX9_176 (c9_ma g (hC.sub [0, 1] (by decide) rfl) hk hm ha) (hC.at 0 rfl) rfl rfl (Nat.le_of_ble_eq_true rfl) ⟨(Nat.le_of_ble_eq_true rfl), (Nat.le_of_ble_eq_true rfl)⟩ (Nat.le_of_ble_eq_true rfl) (Nat.le_of_ble_eq_true rfl) ?_
  refine bw_astore_n 6 dX9_determinant_5 rfl (by decide) ?_
  refine bw_aload_n 7 dX9_determinant_6 rfl rfl ?_
  refine bw_cSz 10 dX9_determinant_7 rfl sX9_201 (c9_nqX g (hC.sub [2] (by decide) rfl) hr hc h) rfl rfl (Nat.le_of_ble_eq_true rfl) ⟨(Nat.le_of_ble_eq_true rfl), (Nat.le_of_ble_eq_true rfl)⟩ (Nat.le_of_ble_eq_true rfl) (Nat.le_of_ble_eq_true rfl) rfl ?_
  exact fun m hm => ⟨rfl, m, hm, rfl⟩
theorem k9_determinantX (g : bw_G) {A : bw_H} {x n rn mn pn sn : Nat} {a : Int32} (hC : bw_has A [(x, xob x n rn mn pn sn)]) (h : ¬ kI mn a) : bw_C g (bw_rm 8 20 200) mX9_determinant [.ref x, .int a] A (bw_pz eIO A) := by
  refine bw_C.of (by decide) (Nat.le_of_ble_eq_true rfl) rfl ?_
  refine bw_aload_n 1 dX9_determinant_0 rfl rfl ?_
  refine bw_iload_n 2 dX9_determinant_1 rfl rfl ?_
  refine bw_cVz 5 dX9_determinant_2 rfl vX9_176 (c9_maX g hC h) (hC.at 0 rfl) rfl rfl (Nat.le_of_ble_eq_true rfl) ⟨(Nat.le_of_ble_eq_true rfl), (Nat.le_of_ble_eq_true rfl)⟩ (Nat.le_of_ble_eq_true rfl) (Nat.le_of_ble_eq_true rfl) rfl ?_
  exact fun m hm => ⟨rfl, m, hm, rfl⟩
set_option maxHeartbeats 4000000 in
set_option maxRecDepth 100000 in
theorem k9_singular (g : bw_G) {A : bw_H} {x n p gg rn mn pn sn M r c k : Nat} {MA : Nat → Option Nat} {f : Nat → Nat} {V : Nat → Nat → Nat} (hG : GFg n p gg) (hC : bw_has A ((x, xob x n rn mn pn sn) :: (x + 6, bw_aq g 3 40 MA) :: nvl g n p gg (x + 22) (x + 9) (x + 23) M r c f)) (hR : bw_rw g A (x + 23 + 1) 9 256 V) (hM : x + 33 ≤ M) (hf : ∀ i, f i < 2 ^ n) (hV : ∀ i j, V i j < 2 ^ n) (hk : k < mn) (hm : mn ≤ 40) (ha : MA k = some M) (hr : r ≤ 8) (hc : c ≤ 8) : bw_C g (bw_rm 8 20 200) mX9_singular [.ref x, .int (nI k)] A (bw_pm (fun y A' => y = nI (gczZ n (2 ^ n ||| p) f c (gv1 V) (2 ^ r)) ∧ bw_sm (mnL (x + 23)) A A' ∧ bw_has A' (nvl g n p gg (x + 22) (x + 9) (x + 23) M r c f) ∧ bw_rw g A' (x + 23 + 1) 9 256 (gczV n (2 ^ n ||| p) f c (gv1 V) (2 ^ r)))) := by
  refine bw_C.of (by decide) (Nat.le_of_ble_eq_true rfl) rfl ?_
  refine bw_aload_n 1 dX9_singular_0 rfl rfl ?_
  refine bw_get 4 dX9_singular_1 rfl lX9_59 (hC.at 0 rfl) rfl ?_
  refine bw_aload_n 5 dX9_singular_4 rfl rfl ?_
  refine bw_iload_n 6 dX9_singular_5 rfl rfl ?_
  refine bw_cVr 9 dX9_singular_6 rfl vX9_176 (c9_ma g (hC.sub [0, 1] (by decide) rfl) hk hm ha) (hC.at 0 rfl) rfl rfl (Nat.le_of_ble_eq_true rfl) ⟨(Nat.le_of_ble_eq_true rfl), (Nat.le_of_ble_eq_true rfl)⟩ (Nat.le_of_ble_eq_true rfl) (Nat.le_of_ble_eq_true rfl) ?_
  refine bw_cVm 12 dX9_singular_9 rfl vX9_220 (c6_countZeros g hG (by simp <;> omega) hr hc hf hV (hC.sub [2, 3, 4, 5, 6, 7] (by decide) rfl) hR) (hC.at 2 rfl) rfl rfl (Nat.le_of_ble_eq_true rfl) ⟨(Nat.le_of_ble_eq_true rfl), (Nat.le_of_ble_eq_true rfl)⟩ (Nat.le_of_ble_eq_true rfl) (Nat.le_of_ble_eq_true rfl) (fun x A hP => ?_)
  obtain ⟨h4, h5⟩ := hP
  subst h4
  refine bw_iret dX9_singular_12 rfl (Nat.le_of_ble_eq_true rfl) (Nat.le_of_ble_eq_true rfl) ?_
  exact ⟨_, rfl, rfl, h5⟩
theorem k9_singularX (g : bw_G) {A : bw_H} {x n rn mn pn sn : Nat} {a : Int32} (hC : bw_has A [(x, xob x n rn mn pn sn)]) (h : ¬ kI mn a) : bw_C g (bw_rm 8 20 200) mX9_singular [.ref x, .int a] A (bw_pz eIO A) := by
  refine bw_C.of (by decide) (Nat.le_of_ble_eq_true rfl) rfl ?_
  refine bw_aload_n 1 dX9_singular_0 rfl rfl ?_
  refine bw_get 4 dX9_singular_1 rfl lX9_59 (hC.at 0 rfl) rfl ?_
  refine bw_aload_n 5 dX9_singular_4 rfl rfl ?_
  refine bw_iload_n 6 dX9_singular_5 rfl rfl ?_
  refine bw_cVz 9 dX9_singular_6 rfl vX9_176 (c9_maX g (hC.sub [0] (by decide) rfl) h) (hC.at 0 rfl) rfl rfl (Nat.le_of_ble_eq_true rfl) ⟨(Nat.le_of_ble_eq_true rfl), (Nat.le_of_ble_eq_true rfl)⟩ (Nat.le_of_ble_eq_true rfl) (Nat.le_of_ble_eq_true rfl) rfl ?_
  exact fun m hm => ⟨rfl, m, hm, rfl⟩
/-- what invert leaves -/
def ivP (g : bw_G) (n p gg x rn mn pn sn a r : Nat) (MA pv : Nat → Option Nat) (U : Nat → Nat → Nat) (A0 : bw_H) (y : Int32) (A' : bw_H) : Prop :=
  ((gre n (2 ^ n ||| p) r (r + r) r 0 U 0 1 pv).2.1 < r ∧ y = -1 ∧ elP g n p gg (x + 11) (x + 9) (x + 12) (x + 21) r (r + r) (gre n (2 ^ n ||| p) r (r + r) r 0 U 0 1 pv).2.1 (gre n (2 ^ n ||| p) r (r + r) r 0 U 0 1 pv).2.2.1 (gre n (2 ^ n ||| p) r (r + r) r 0 U 0 1 pv).2.2.2 (gre n (2 ^ n ||| p) r (r + r) r 0 U 0 1 pv).1 A0 A') ∨
  (¬ (gre n (2 ^ n ||| p) r (r + r) r 0 U 0 1 pv).2.1 < r ∧ maP g x n rn mn pn sn a r r MA (gcp r (gre n (2 ^ n ||| p) r (r + r) r 0 U 0 1 pv).1 (fun _ => 0) r) (x :: (x + 6) :: elL (x + 11) (x + 12) (x + 21)) A0 y A' ∧ bw_has A' (evl g n p gg (x + 11) (x + 9) (x + 12) (x + 21) r (r + r) (gre n (2 ^ n ||| p) r (r + r) r 0 U 0 1 pv).2.1 (gre n (2 ^ n ||| p) r (r + r) r 0 U 0 1 pv).2.2.1 (gre n (2 ^ n ||| p) r (r + r) r 0 U 0 1 pv).2.2.2) ∧ bw_rw g A' (x + 12 + 1) 8 16 (gre n (2 ^ n ||| p) r (r + r) r 0 U 0 1 pv).1)
set_option maxHeartbeats 4000000 in
set_option maxRecDepth 100000 in
theorem k9_invert (g : bw_G) {A0 : bw_H} {x n p gg rn mn pn sn M r k h wd rk pp a : Nat} {MA pv : Nat → Option Nat} {f : Nat → Nat} {W : Nat → Nat → Nat} (hG : GFg n p gg) (hC : bw_has A0 ((x, xob x n rn mn pn sn) :: (x + 6, bw_aq g 3 40 MA) :: (mcl g M r r f ++ evl g n p gg (x + 11) (x + 9) (x + 12) (x + 21) h wd rk pp pv))) (hR : bw_rw g A0 (x + 12 + 1) 8 16 W) (hz0 : A0.1 = a) (ha22 : x + 22 ≤ a) (hM : x + 22 ≤ M) (hf : ∀ i, f i < 2 ^ n) (hWl : ∀ i j, W i j < 2 ^ n) (hk : k < mn) (hm : mn < 40) (ha : MA k = some M) (hr : r ≤ 8) (hrk : (gre n (2 ^ n ||| p) r (r + r) r 0 (gai (gel r f W r) r r r 0) 0 1 pv).2.1 < 2 ^ 31) : bw_C g (bw_rm 8 20 200) mX9_invert [.ref x, .int (nI k)] A0 (bw_pm (ivP g n p gg x rn mn pn sn a r MA pv (gai (gel r f W r) r r r 0) A0)) := by
  have hW : bw_ff a (x :: (x + 6) :: elL (x + 11) (x + 12) (x + 21)) A0 A0 := bw_ff.rf
  have hz := hz0
  refine bw_C.of (by decide) (Nat.le_of_ble_eq_true rfl) rfl ?_
  refine bw_aload_n 1 dX9_invert_0 rfl rfl ?_
  refine bw_iload_n 2 dX9_invert_1 rfl rfl ?_
  refine bw_cVr 5 dX9_invert_2 rfl vX9_176 (c9_ma g (hC.sub [0, 1] (by decide) rfl) hk (by omega) ha) (hC.at 0 rfl) rfl rfl (Nat.le_of_ble_eq_true rfl) ⟨(Nat.le_of_ble_eq_true rfl), (Nat.le_of_ble_eq_true rfl)⟩ (Nat.le_of_ble_eq_true rfl) (Nat.le_of_ble_eq_true rfl) ?_
  refine bw_astore_n 6 dX9_invert_5 rfl (by decide) ?_
  refine bw_aload_n 7 dX9_invert_6 rfl rfl ?_
  refine bw_cSv 10 dX9_invert_7 rfl sX9_201 (c9_nq g (hC.sub [2] (by decide) rfl) rfl) rfl rfl (Nat.le_of_ble_eq_true rfl) ⟨(Nat.le_of_ble_eq_true rfl), (Nat.le_of_ble_eq_true rfl)⟩ (Nat.le_of_ble_eq_true rfl) (Nat.le_of_ble_eq_true rfl) (fun A hP => ?_)
  subst hP
  refine bw_aload_n 11 dX9_invert_10 rfl rfl ?_
  refine bw_cVv 14 dX9_invert_11 rfl vX9_151 (c9_nr g (hC.sub [0] (by decide) rfl) hm) (hC.at 0 rfl) rfl rfl (Nat.le_of_ble_eq_true rfl) ⟨(Nat.le_of_ble_eq_true rfl), (Nat.le_of_ble_eq_true rfl)⟩ (Nat.le_of_ble_eq_true rfl) (Nat.le_of_ble_eq_true rfl) (fun A hP => ?_)
  subst hP
  refine bw_aload_n 15 dX9_invert_14 rfl rfl ?_
  refine bw_get 18 dX9_invert_15 rfl lX9_52 (hC.at 0 rfl) rfl ?_
  refine bw_aload_n 19 dX9_invert_18 rfl rfl ?_
  refine bw_cVv 22 dX9_invert_19 rfl vX9_205 (c1_load g (by simp <;> omega) hr hr (hC.sub [4, 5, 6, 7, 8, 2, 3] (by decide) rfl) hR) (hC.at 4 rfl) rfl rfl (Nat.le_of_ble_eq_true rfl) ⟨(Nat.le_of_ble_eq_true rfl), (Nat.le_of_ble_eq_true rfl)⟩ (Nat.le_of_ble_eq_true rfl) (Nat.le_of_ble_eq_true rfl) (fun A hP => ?_)
  have hC := el_call (ws := (x, xob x n rn mn pn sn) :: (x + 6, bw_aq g 3 40 MA) :: mcl g M r r f) hC hP (by simp <;> omega)
  have hE := hP
  refine bw_aload_n 23 dX9_invert_22 rfl rfl ?_
  refine bw_get 26 dX9_invert_23 rfl lX9_52 (hC.at 0 rfl) rfl ?_
  refine bw_cVv 29 dX9_invert_26 rfl vX9_208 (c1_appendIdentity g (by simp <;> omega) hr (by omega) (hC.sub [4, 5, 6, 7, 8] (by decide) rfl) hE.2.2) (hC.at 4 rfl) rfl rfl (Nat.le_of_ble_eq_true rfl) ⟨(Nat.le_of_ble_eq_true rfl), (Nat.le_of_ble_eq_true rfl)⟩ (Nat.le_of_ble_eq_true rfl) (Nat.le_of_ble_eq_true rfl) (fun A hP => ?_)
  have hC := el_call (ws := (x, xob x n rn mn pn sn) :: (x + 6, bw_aq g 3 40 MA) :: mcl g M r r f) hC hP (by simp <;> omega)
  have hE := hE.tr hP
  refine bw_aload_n 30 dX9_invert_29 rfl rfl ?_
  refine bw_get 33 dX9_invert_30 rfl lX9_52 (hC.at 0 rfl) rfl ?_
  refine bw_aload_n 34 dX9_invert_33 rfl rfl ?_
  refine bw_get 37 dX9_invert_34 rfl lX9_188 (hC.at 2 rfl) rfl ?_
  refine bw_cVm 40 dX9_invert_37 rfl vX9_211 (c1_reduce g hG (by simp <;> omega) hr (by omega) hr (gai_lt hG.2.2.1.one (gel_lt hf hWl r) r 0) (hC.sub [4, 5, 6, 7, 8] (by decide) rfl) hE.2.2) (hC.at 4 rfl) rfl rfl (Nat.le_of_ble_eq_true rfl) ⟨(Nat.le_of_ble_eq_true rfl), (Nat.le_of_ble_eq_true rfl)⟩ (Nat.le_of_ble_eq_true rfl) (Nat.le_of_ble_eq_true rfl) (fun x A hP => ?_)
  obtain ⟨h4, h5⟩ := hP
  subst h4
  have hC := el_call (ws := (x, xob x n rn mn pn sn) :: (x + 6, bw_aq g 3 40 MA) :: mcl g M r r f) hC h5 (by simp <;> omega)
  have hE := hE.tr h5
  have hz := hE.1.1.trans hz0
  have hW := hW.sm hE.1 (fun b hb => Or.inr (List.mem_cons_of_mem _ (List.mem_cons_of_mem _ hb)))
  refine bw_aload_n 41 dX9_invert_40 rfl rfl ?_
  refine bw_get 44 dX9_invert_41 rfl lX9_185 (hC.at 2 rfl) rfl ?_
  refine bw_icmp_ge 49 47 dX9_invert_44 rfl rfl (fun c44 => ?_) (fun c44 => ?_)
  · have hge : ¬ (gre n (2 ^ n ||| p) r (r + r) r 0 (gai (gel r f W r) r r r 0) 0 1 pv).2.1 < r := Nat.not_lt.mpr ((nI_leI (by omega) hrk).mp c44)
    refine bw_ok (fun hok => ?_)
    refine bw_newU 52 dX9_invert_49 rfl nX9_25 (Nat.le_of_ble_eq_true rfl) (Nat.le_of_ble_eq_true rfl) hz (fun A hU => ?_)
    have hC := hC.nwda hok hz hU
    have hW := hW.nwd hU hz (by omega)
    have hgw : bw_gw (x + 22) _ A := bw_gw.rf.nwd hU hz (by omega)
    have hz := (congrArg Prod.fst hU).trans (congrArg (· + 1) hz)
    clear hU hok
    refine bw_dup 53 dX9_invert_52 rfl rfl ?_
    refine bw_aload_n 54 dX9_invert_53 rfl rfl ?_
    refine bw_get 57 dX9_invert_54 rfl lX9_185 (hC.at 2 rfl) rfl ?_
    refine bw_aload_n 58 dX9_invert_57 rfl rfl ?_
    refine bw_get 61 dX9_invert_58 rfl lX9_188 (hC.at 2 rfl) rfl ?_
    refine bw_ok (fun hok => ?_)
    refine bw_cIv 64 dX9_invert_61 rfl iX9_154 (c5_initB g (hC.sub [9] (by decide) rfl) hz hr hr) rfl rfl (Nat.le_of_ble_eq_true rfl) ⟨(Nat.le_of_ble_eq_true rfl), (Nat.le_of_ble_eq_true rfl)⟩ (Nat.le_of_ble_eq_true rfl) (Nat.le_of_ble_eq_true rfl) (fun A hP => ?_)
    obtain ⟨h1, h2, h3⟩ := hP
    have hC := hC.gr hok hz rfl h2 h3 (by simp)
    have hW := hW.gwt h2 (by omega)
    have hz := h1
    have hRr := hE.2.2.gw (bw_gw.trans (x := x + 22) hgw h2 (by omega)) (by omega)
    refine bw_astore_n 65 dX9_invert_64 rfl (by decide) ?_
    refine bw_aload_n 66 dX9_invert_65 rfl rfl ?_
    refine bw_get 69 dX9_invert_66 rfl lX9_52 (hC.at 0 rfl) rfl ?_
    refine bw_aload_n 70 dX9_invert_69 rfl rfl ?_
    refine bw_cVv 73 dX9_invert_70 rfl vX9_214 (c1_copyAppended g (hC.sub [4, 5, 6, 7, 8, 9, 10] (by decide) rfl) hRr (by simp <;> omega) hr hr) (hC.at 4 rfl) rfl rfl (Nat.le_of_ble_eq_true rfl) ⟨(Nat.le_of_ble_eq_true rfl), (Nat.le_of_ble_eq_true rfl)⟩ (Nat.le_of_ble_eq_true rfl) (Nat.le_of_ble_eq_true rfl) (fun A hP => ?_)
    have hC := hC.upd 10 rfl hP
    have hW := hW.upd hP (Or.inl (by omega))
    have hz := (congrArg Prod.fst hP).trans hz
    have hRr := hRr.frm (L := [a + 1]) (bw_sm.rf.upd hP (by simp)) (by simp <;> omega)
    refine bw_aload_n 74 dX9_invert_73 rfl rfl ?_
    refine bw_aload_n 75 dX9_invert_74 rfl rfl ?_
    refine bw_cVm 78 dX9_invert_75 rfl vX9_155 (c9_keepMatrix g (hC.sub [0, 1, 9] (by decide) rfl) hm) (hC.at 0 rfl) rfl rfl (Nat.le_of_ble_eq_true rfl) ⟨(Nat.le_of_ble_eq_true rfl), (Nat.le_of_ble_eq_true rfl)⟩ (Nat.le_of_ble_eq_true rfl) (Nat.le_of_ble_eq_true rfl) (fun x A hP => ?_)
    obtain ⟨h4, h5⟩ := hP
    subst h4
    have hC := (hC.upd 1 rfl rfl).upd 0 rfl h5
    have hW := (hW.upd rfl (Or.inr (by simp))).upd h5 (Or.inr (by simp))
    have hz := (congrArg Prod.fst h5).trans hz
    have hRr := (hRr.frm (L := [x + 6]) (bw_sm.rf.upd rfl (by simp)) (by simp <;> omega)).frm (L := [x]) (bw_sm.rf.upd h5 (by simp)) (by simp <;> omega)
    refine bw_iret dX9_invert_78 rfl (Nat.le_of_ble_eq_true rfl) (Nat.le_of_ble_eq_true rfl) ?_
    exact ⟨_, rfl, Or.inr ⟨hge, ⟨rfl, hz, hC.sub [0, 1, 9, 10] (by decide) rfl, hW⟩, hC.sub [4, 5, 6, 7, 8] (by decide) rfl, hRr⟩⟩
  · have hlt : (gre n (2 ^ n ||| p) r (r + r) r 0 (gai (gel r f W r) r r r 0) 0 1 pv).2.1 < r := Nat.not_le.mp (fun h => c44 (nI_le h (by omega)))
    refine bw_iconst (-1) 48 dX9_invert_47 (by decide) rfl ?_
    refine bw_iret dX9_invert_48 rfl (Nat.le_of_ble_eq_true rfl) (Nat.le_of_ble_eq_true rfl) ?_
    exact ⟨_, rfl, Or.inl ⟨hlt, rfl, hE⟩⟩
theorem k9_invertZ (g : bw_G) {A : bw_H} {x n rn mn pn sn M r k : Nat} {MA : Nat → Option Nat} {f : Nat → Nat} (hC : bw_has A ((x, xob x n rn mn pn sn) :: (x + 6, bw_aq g 3 40 MA) :: mcl g M r r f)) (hk : k < mn) (hm : mn = 40) (ha : MA k = some M) : bw_C g (bw_rm 8 20 200) mX9_invert [.ref x, .int (nI k)] A (bw_pz eUO A) := by
  refine bw_C.of (by decide) (Nat.le_of_ble_eq_true rfl) rfl ?_
  refine bw_aload_n 1 dX9_invert_0 rfl rfl ?_
  refine bw_iload_n 2 dX9_invert_1 rfl rfl ?_
  refine bw_cVr 5 dX9_invert_2 rfl vX9_176 (c9_ma g (hC.sub [0, 1] (by decide) rfl) hk (by omega) ha) (hC.at 0 rfl) rfl rfl (Nat.le_of_ble_eq_true rfl) ⟨(Nat.le_of_ble_eq_true rfl), (Nat.le_of_ble_eq_true rfl)⟩ (Nat.le_of_ble_eq_true rfl) (Nat.le_of_ble_eq_true rfl) ?_
  refine bw_astore_n 6 dX9_invert_5 rfl (by decide) ?_
  refine bw_aload_n 7 dX9_invert_6 rfl rfl ?_
  refine bw_cSv 10 dX9_invert_7 rfl sX9_201 (c9_nq g (hC.sub [2] (by decide) rfl) rfl) rfl rfl (Nat.le_of_ble_eq_true rfl) ⟨(Nat.le_of_ble_eq_true rfl), (Nat.le_of_ble_eq_true rfl)⟩ (Nat.le_of_ble_eq_true rfl) (Nat.le_of_ble_eq_true rfl) (fun A hP => ?_)
  subst hP
  refine bw_aload_n 11 dX9_invert_10 rfl rfl ?_
  refine bw_cVz 14 dX9_invert_11 rfl vX9_151 (c9_nrX g (hC.sub [0] (by decide) rfl) hm) (hC.at 0 rfl) rfl rfl (Nat.le_of_ble_eq_true rfl) ⟨(Nat.le_of_ble_eq_true rfl), (Nat.le_of_ble_eq_true rfl)⟩ (Nat.le_of_ble_eq_true rfl) (Nat.le_of_ble_eq_true rfl) rfl ?_
  exact fun m hm => ⟨rfl, m, hm, rfl⟩
theorem k9_invertY (g : bw_G) {A : bw_H} {x n rn mn pn sn M r c k : Nat} {MA : Nat → Option Nat} {f : Nat → Nat} (hC : bw_has A ((x, xob x n rn mn pn sn) :: (x + 6, bw_aq g 3 40 MA) :: mcl g M r c f)) (hk : k < mn) (hm : mn ≤ 40) (ha : MA k = some M) (hr : r ≤ 8) (hc : c ≤ 8) (h : r ≠ c) : bw_C g (bw_rm 8 20 200) mX9_invert [.ref x, .int (nI k)] A (bw_pz eIS A) := by
  refine bw_C.of (by decide) (Nat.le_of_ble_eq_true rfl) rfl ?_
  refine bw_aload_n 1 dX9_invert_0 rfl rfl ?_
  refine bw_iload_n 2 dX9_invert_1 rfl rfl ?_
  refine bw_cVr 5 dX9_invert_2 rfl vX9_176 (c9_ma g (hC.sub [0, 1] (by decide) rfl) hk (by omega) ha) (hC.at 0 rfl) rfl rfl (Nat.le_of_ble_eq_true rfl) ⟨(Nat.le_of_ble_eq_true rfl), (Nat.le_of_ble_eq_true rfl)⟩ (Nat.le_of_ble_eq_true rfl) (Nat.le_of_ble_eq_true rfl) ?_
  refine bw_astore_n 6 dX9_invert_5 rfl (by decide) ?_
  refine bw_aload_n 7 dX9_invert_6 rfl rfl ?_
  refine bw_cSz 10 dX9_invert_7 rfl sX9_201 (c9_nqX g (hC.sub [2] (by decide) rfl) hr hc h) rfl rfl (Nat.le_of_ble_eq_true rfl) ⟨(Nat.le_of_ble_eq_true rfl), (Nat.le_of_ble_eq_true rfl)⟩ (Nat.le_of_ble_eq_true rfl) (Nat.le_of_ble_eq_true rfl) rfl ?_
  exact fun m hm => ⟨rfl, m, hm, rfl⟩
theorem k9_invertX (g : bw_G) {A : bw_H} {x n rn mn pn sn : Nat} {a : Int32} (hC : bw_has A [(x, xob x n rn mn pn sn)]) (h : ¬ kI mn a) : bw_C g (bw_rm 8 20 200) mX9_invert [.ref x, .int a] A (bw_pz eIO A) := by
  refine bw_C.of (by decide) (Nat.le_of_ble_eq_true rfl) rfl ?_
  refine bw_aload_n 1 dX9_invert_0 rfl rfl ?_
  refine bw_iload_n 2 dX9_invert_1 rfl rfl ?_
  refine bw_cVz 5 dX9_invert_2 rfl vX9_176 (c9_maX g hC h) (hC.at 0 rfl) rfl rfl (Nat.le_of_ble_eq_true rfl) ⟨(Nat.le_of_ble_eq_true rfl), (Nat.le_of_ble_eq_true rfl)⟩ (Nat.le_of_ble_eq_true rfl) (Nat.le_of_ble_eq_true rfl) rfl ?_
  exact fun m hm => ⟨rfl, m, hm, rfl⟩
