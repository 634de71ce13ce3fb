/-! the class's calls: parts -/
theorem k9_partsC (g : bw_G) {A : bw_H} {x n rn mn pn sn b k d wa : Nat} {PA : Nat → Option Nat} {f C : Nat → Nat} (hC : bw_has A [(x, xob x n rn mn pn sn), (x + 7, bw_aq g 4 40 PA)]) (hp : bw_has A (ppl g b 65 f (.ref wa))) (hct : A.2 wa = some (bw_an g 65 C)) (hf : pok n 65 f) (h0 : pd f ≠ 0) (hk : k < pn) (hm : pn ≤ 40) (ha : PA k = some b) (hd1 : 1 ≤ d) (hd : d ≤ 64) : bw_C g (bw_rm 8 20 200) mX9_parts [.ref x, .int (nI k), .int (nI d)] A (bw_pi (nI (C d)) A) := by
  have h1 := hf.le (by omega)
  refine bw_C.of (by decide) (Nat.le_of_ble_eq_true rfl) rfl ?_
  refine bw_aload_n 1 dX9_parts_0 rfl rfl ?_
  refine bw_iload_n 2 dX9_parts_1 rfl rfl ?_
  refine bw_cVr 5 dX9_parts_2 rfl vX9_257 (c9_pa g (hC.sub [0, 1] (by decide) rfl) hk hm ha) (hC.at 0 rfl) rfl rfl (Nat.le_of_ble_eq_true rfl) ⟨(Nat.le_of_ble_eq_true rfl), (Nat.le_of_ble_eq_true rfl)⟩ (Nat.le_of_ble_eq_true rfl) (Nat.le_of_ble_eq_true rfl) ?_
  refine bw_astore_n 6 dX9_parts_5 rfl (by decide) ?_
  refine bw_iload_n 7 dX9_parts_6 rfl rfl ?_
  refine bw_iconst (1) 8 dX9_parts_7 (by decide) rfl ?_
  refine bw_eqi (y := nI 1) rfl ?_
  refine bw_icmp_lt 17 11 dX9_parts_8 rfl rfl (fun c8 => ?_) (fun c8 => ?_)
  · exact absurd c8 (Int32.not_lt.mpr (nI_le (a := 1) hd1 (by omega)))
  · refine bw_iload_n 12 dX9_parts_11 rfl rfl ?_
    refine bw_bipush (64) 14 dX9_parts_12 (by decide) rfl ?_
    refine bw_eqi (y := nI 64) rfl ?_
    refine bw_icmp_le 28 17 dX9_parts_14 rfl rfl (fun c14 => ?_) (fun c14 => ?_)
    · refine bw_aload_n 29 dX9_parts_28 rfl rfl ?_
      refine bw_get 32 dX9_parts_29 rfl lX9_261 ((hp.at 0 rfl)) rfl ?_
      refine bw_if_ge 37 35 dX9_parts_32 rfl rfl (fun c32 => ?_) (fun c32 => ?_)
      · refine bw_aload_n 38 dX9_parts_37 rfl rfl ?_
        refine bw_get 41 dX9_parts_38 rfl lX9_313 ((hp.at 0 rfl)) rfl ?_
        refine bw_astore 43 dX9_parts_41 rfl (by decide) ?_
        refine bw_aload 45 dX9_parts_43 rfl rfl ?_
        refine bw_ifnonnull 70 dX9_parts_45 rfl ?_
        refine bw_aload 72 dX9_parts_70 rfl rfl ?_
        refine bw_iload_n 73 dX9_parts_72 rfl rfl ?_
        refine bw_ialdN 74 dX9_parts_73 rfl (hct) (by omega) (by omega) ?_
        refine bw_iret dX9_parts_74 rfl (Nat.le_of_ble_eq_true rfl) (Nat.le_of_ble_eq_true rfl) ?_
        exact ⟨rfl, rfl⟩
      · exact absurd (Int32.not_lt.mp (fun hx => h0 ((tI_lt0 (by omega)).mp hx))) c32
    · exact absurd (nI_le (b := 64) hd (by omega)) c14
/-- the four that are worked in -/
abbrev ktC (g : bw_G) (K : Nat) (fa fb fc fd : Nat → Nat) (ma mb mc md : Nat) : List (Nat × va_E) := pcl g (K + 1) 129 fa ma .null ++ (pcl g (K + 3) 129 fb mb .null ++ (pcl g (K + 5) 129 fc mc .null ++ pcl g (K + 7) 129 fd md .null))
/-- the counts of the parts -/
def gcnt (n q : Nat) (f : Nat → Nat) : Nat → Nat := gcn n q 32 1 f (grs n q gX f) (fun _ => 0)
set_option maxHeartbeats 4000000 in
set_option maxRecDepth 100000 in
theorem k9_parts (g : bw_G) {A0 : bw_H} {x n p gg rn mn pn sn b k d a K ma mb mc md : Nat} {PA : Nat → Option Nat} {f fa fb fc fd : Nat → Nat} (hG : GFg n p gg) (hK : K = x + 46 + 2 * (n + 1)) (hC : bw_has A0 ((x, xob x n rn mn pn sn) :: (x + 7, bw_aq g 4 40 PA) :: (K, kob (x + 9) (x + 33) (K + 1) (K + 3) (K + 5) (K + 7)) :: (dvl g n p gg (x + 33) (x + 9) ++ (ktC g K fa fb fc fd ma mb mc md ++ ppl g b 65 f .null)))) (hwa : pwk 129 fa ma) (hwb : pwk 129 fb mb) (hwc : pwk 129 fc mc) (hwd : pwk 129 fd md) (hz : A0.1 = a) (hba : b + 1 < a) (hKa : K + 9 ≤ a) (hf : pok n 65 f) (h0 : pd f ≠ 0) (hk : k < pn) (hm : pn ≤ 40) (ha : PA k = some b) (hd1 : 1 ≤ d) (hd : d ≤ 64) : bw_C g (bw_rm 8 20 200) mX9_parts [.ref x, .int (nI k), .int (nI d)] A0 (bw_pm (fun y A' => y = nI (gcnt n (2 ^ n ||| p) f d) ∧ A'.1 = a + 1 ∧ bw_has A' (ppl g b 65 f (.ref a) ++ [(a, bw_an g 65 (gcnt n (2 ^ n ||| p) f))]) ∧ ktW g (K + 1) (K + 3) (K + 5) (K + 7) A' ∧ bw_ff a (b :: ktL (K + 1) (K + 3) (K + 5) (K + 7)) A0 A')) := by
  subst hK
  have h1 := hf.le (by omega)
  have hW : bw_ff a (b :: ktL (x + 46 + 2 * (n + 1) + 1) (x + 46 + 2 * (n + 1) + 3) (x + 46 + 2 * (n + 1) + 5) (x + 46 + 2 * (n + 1) + 7)) A0 A0 := bw_ff.rf
  refine bw_C.of (by decide) (Nat.le_of_ble_eq_true rfl) rfl ?_
  refine bw_aload_n 1 dX9_parts_0 rfl rfl ?_
  refine bw_iload_n 2 dX9_parts_1 rfl rfl ?_
  refine bw_cVr 5 dX9_parts_2 rfl vX9_257 (c9_pa g (hC.sub [0, 1] (by decide) rfl) hk hm ha) (hC.at 0 rfl) rfl rfl (Nat.le_of_ble_eq_true rfl) ⟨(Nat.le_of_ble_eq_true rfl), (Nat.le_of_ble_eq_true rfl)⟩ (Nat.le_of_ble_eq_true rfl) (Nat.le_of_ble_eq_true rfl) ?_
  refine bw_astore_n 6 dX9_parts_5 rfl (by decide) ?_
  refine bw_iload_n 7 dX9_parts_6 rfl rfl ?_
  refine bw_iconst (1) 8 dX9_parts_7 (by decide) rfl ?_
  refine bw_eqi (y := nI 1) rfl ?_
  refine bw_icmp_lt 17 11 dX9_parts_8 rfl rfl (fun c8 => ?_) (fun c8 => ?_)
  · exact absurd c8 (Int32.not_lt.mpr (nI_le (a := 1) hd1 (by omega)))
  · refine bw_iload_n 12 dX9_parts_11 rfl rfl ?_
    refine bw_bipush (64) 14 dX9_parts_12 (by decide) rfl ?_
    refine bw_eqi (y := nI 64) rfl ?_
    refine bw_icmp_le 28 17 dX9_parts_14 rfl rfl (fun c14 => ?_) (fun c14 => ?_)
    · refine bw_aload_n 29 dX9_parts_28 rfl rfl ?_
      refine bw_get 32 dX9_parts_29 rfl lX9_261 (hC.at 14 rfl) rfl ?_
      refine bw_if_ge 37 35 dX9_parts_32 rfl rfl (fun c32 => ?_) (fun c32 => ?_)
      · refine bw_aload_n 38 dX9_parts_37 rfl rfl ?_
        refine bw_get 41 dX9_parts_38 rfl lX9_313 (hC.at 14 rfl) rfl ?_
        refine bw_astoreN 43 dX9_parts_41 rfl (by decide) ?_
        refine bw_aloadN 45 dX9_parts_43 rfl rfl ?_
        refine bw_ifnonnullN 48 dX9_parts_45 rfl ?_
        refine bw_bipush (65) 50 dX9_parts_48 (by decide) rfl ?_
        refine bw_eqi (y := nI 65) rfl ?_
        refine bw_ok (fun hok => ?_)
        refine bw_newiU 52 dX9_parts_50 rfl bw_wI (by exact nI_pos (by omega)) (by exact nI_clamp (by omega)) (by omega) (Nat.le_of_ble_eq_true rfl) (Nat.le_of_ble_eq_true rfl) hz (fun A hU => ?_)
        have hC := hC.nwda hok hz hU
        have hW := hW.nwd hU hz (by omega)
        have hz := (congrArg Prod.fst hU).trans (congrArg (· + 1) hz)
        clear hU hok
        refine bw_astore 54 dX9_parts_52 rfl (by decide) ?_
        refine bw_aload_n 55 dX9_parts_54 rfl rfl ?_
        refine bw_get 58 dX9_parts_55 rfl lX9_89 (hC.at 0 rfl) rfl ?_
        refine bw_aload_n 59 dX9_parts_58 rfl rfl ?_
        refine bw_aload 61 dX9_parts_59 rfl rfl ?_
        refine bw_cVv 64 dX9_parts_61 rfl vX9_316 (c2_count g hG (hC.sub [2, 3, 4, 5, 16, 6, 7, 8, 9, 10, 11, 12, 13, 14, 15] (by decide) rfl) hf h0 hwa hwb hwc hwd) (hC.at 2 rfl) rfl rfl (Nat.le_of_ble_eq_true rfl) ⟨(Nat.le_of_ble_eq_true rfl), (Nat.le_of_ble_eq_true rfl)⟩ (Nat.le_of_ble_eq_true rfl) (Nat.le_of_ble_eq_true rfl) (fun A hP => ?_)
        obtain ⟨hs1, hs2, ga, gb, gc, gd, na, nb, nc, nd, q1, q2, q3, q4, hs3⟩ := hP
        have hC := hC.call [16, 6, 7, 8, 9, 10, 11, 12, 13] ((a, bw_an g 65 (gcnt n (2 ^ n ||| p) f)) :: ktC g (x + 46 + 2 * (n + 1)) ga gb gc gd na nb nc nd) (by simp) rfl hs1 (fun q hq => by rcases List.mem_cons.mp hq with e | e; exact hs2.1 q (by rw [e]; exact List.mem_singleton.mpr rfl); exact hs3.1 q e)
        have hW := hW.sm hs1 (by simp <;> omega)
        have hz := hs1.1.trans hz
        refine bw_aload_n 65 dX9_parts_64 rfl rfl ?_
        refine bw_aload 67 dX9_parts_65 rfl rfl ?_
        refine bw_putU 70 dX9_parts_67 rfl pX9_313 (hC.at 14 rfl) rfl rfl (Nat.le_of_ble_eq_true rfl) (fun A hU => ?_)
        have hC := hC.upd 14 rfl hU
        have hW := hW.upd hU (Or.inr (by simp))
        have hz := (congrArg Prod.fst hU).trans hz
        clear hU
        refine bw_aload 72 dX9_parts_70 rfl rfl ?_
        refine bw_iload_n 73 dX9_parts_72 rfl rfl ?_
        refine bw_ialdN 74 dX9_parts_73 rfl (hC.at 16 rfl) (by omega) (by omega) ?_
        refine bw_iret dX9_parts_74 rfl (Nat.le_of_ble_eq_true rfl) (Nat.le_of_ble_eq_true rfl) ?_
        exact ⟨_, rfl, rfl, hz, hC.sub [14, 15, 16] (by decide) rfl, ⟨ga, gb, gc, gd, na, nb, nc, nd, q1, q2, q3, q4, hC.sub [6, 7, 8, 9, 10, 11, 12, 13] (by decide) rfl⟩, hW⟩
      · exact absurd (Int32.not_lt.mp (fun hx => h0 ((tI_lt0 (by omega)).mp hx))) c32
    · exact absurd (nI_le (b := 64) hd (by omega)) c14
theorem k9_parts0 (g : bw_G) {A : bw_H} {x n rn mn pn sn b k d : Nat} {PA : Nat → Option Nat} {f : Nat → Nat} {w : Value} (hC : bw_has A [(x, xob x n rn mn pn sn), (x + 7, bw_aq g 4 40 PA)]) (hp : bw_has A (ppl g b 65 f w)) (h0 : pd f = 0) (hk : k < pn) (hm : pn ≤ 40) (ha : PA k = some b) (hd1 : 1 ≤ d) (hd : d ≤ 64) : bw_C g (bw_rm 8 20 200) mX9_parts [.ref x, .int (nI k), .int (nI d)] A (bw_pi (-1) A) := by
  refine bw_C.of (by decide) (Nat.le_of_ble_eq_true rfl) rfl ?_
  refine bw_aload_n 1 dX9_parts_0 rfl rfl ?_
  refine bw_iload_n 2 dX9_parts_1 rfl rfl ?_
  refine bw_cVr 5 dX9_parts_2 rfl vX9_257 (c9_pa g (hC.sub [0, 1] (by decide) rfl) hk hm ha) (hC.at 0 rfl) rfl rfl (Nat.le_of_ble_eq_true rfl) ⟨(Nat.le_of_ble_eq_true rfl), (Nat.le_of_ble_eq_true rfl)⟩ (Nat.le_of_ble_eq_true rfl) (Nat.le_of_ble_eq_true rfl) ?_
  refine bw_astore_n 6 dX9_parts_5 rfl (by decide) ?_
  refine bw_iload_n 7 dX9_parts_6 rfl rfl ?_
  refine bw_iconst (1) 8 dX9_parts_7 (by decide) rfl ?_
  refine bw_eqi (y := nI 1) rfl ?_
  refine bw_icmp_lt 17 11 dX9_parts_8 rfl rfl (fun c8 => ?_) (fun c8 => ?_)
  · exact absurd c8 (Int32.not_lt.mpr (nI_le (a := 1) hd1 (by omega)))
  · refine bw_iload_n 12 dX9_parts_11 rfl rfl ?_
    refine bw_bipush (64) 14 dX9_parts_12 (by decide) rfl ?_
    refine bw_eqi (y := nI 64) rfl ?_
    refine bw_icmp_le 28 17 dX9_parts_14 rfl rfl (fun c14 => ?_) (fun c14 => ?_)
    · refine bw_aload_n 29 dX9_parts_28 rfl rfl ?_
      refine bw_get 32 dX9_parts_29 rfl lX9_261 ((hp.at 0 rfl)) rfl ?_
      refine bw_if_ge 37 35 dX9_parts_32 rfl rfl (fun c32 => ?_) (fun c32 => ?_)
      · exact absurd ((tI_lt0 (by omega)).mpr h0) (Int32.not_lt.mpr c32)
      · refine bw_iconst (-1) 36 dX9_parts_35 (by decide) rfl ?_
        refine bw_iret dX9_parts_36 rfl (Nat.le_of_ble_eq_true rfl) (Nat.le_of_ble_eq_true rfl) ?_
        exact ⟨rfl, rfl⟩
    · exact absurd (nI_le (b := 64) hd (by omega)) c14
theorem k9_partsY (g : bw_G) {A : bw_H} {x n rn mn pn sn b k : Nat} {d : Int32} {PA : Nat → Option Nat} (hC : bw_has A [(x, xob x n rn mn pn sn), (x + 7, bw_aq g 4 40 PA)]) (hk : k < pn) (hm : pn ≤ 40) (ha : PA k = some b) (h : ¬ (¬ d < nI 1 ∧ d ≤ nI 64)) : bw_C g (bw_rm 8 20 200) mX9_parts [.ref x, .int (nI k), .int d] A (bw_pz eIA A) := by
  refine bw_C.of (by decide) (Nat.le_of_ble_eq_true rfl) rfl ?_
  refine bw_aload_n 1 dX9_parts_0 rfl rfl ?_
  refine bw_iload_n 2 dX9_parts_1 rfl rfl ?_
  refine bw_cVr 5 dX9_parts_2 rfl vX9_257 (c9_pa g (hC.sub [0, 1] (by decide) rfl) hk hm ha) (hC.at 0 rfl) rfl rfl (Nat.le_of_ble_eq_true rfl) ⟨(Nat.le_of_ble_eq_true rfl), (Nat.le_of_ble_eq_true rfl)⟩ (Nat.le_of_ble_eq_true rfl) (Nat.le_of_ble_eq_true rfl) ?_
  refine bw_astore_n 6 dX9_parts_5 rfl (by decide) ?_
  refine bw_iload_n 7 dX9_parts_6 rfl rfl ?_
  refine bw_iconst (1) 8 dX9_parts_7 (by decide) rfl ?_
  refine bw_eqi (y := nI 1) rfl ?_
  refine bw_icmp_lt 17 11 dX9_parts_8 rfl rfl (fun c8 => ?_) (fun c8 => ?_)
  · refine bw_throwW "no degree of a part" dX9_parts_17 dX9_parts_20 dX9_parts_21 dX9_parts_24 dX9_parts_27 tX9_180 (by decide +kernel) rfl (Nat.le_of_ble_eq_true rfl) (Nat.le_of_ble_eq_true rfl) (Nat.le_of_ble_eq_true rfl) (Nat.le_of_ble_eq_true rfl) ?_
    exact fun m hm => ⟨rfl, m, hm, rfl⟩
  · refine bw_iload_n 12 dX9_parts_11 rfl rfl ?_
    refine bw_bipush (64) 14 dX9_parts_12 (by decide) rfl ?_
    refine bw_eqi (y := nI 64) rfl ?_
    refine bw_icmp_le 28 17 dX9_parts_14 rfl rfl (fun c14 => ?_) (fun c14 => ?_)
    · exact absurd ⟨c8, c14⟩ h
    · refine bw_throwW "no degree of a part" dX9_parts_17 dX9_parts_20 dX9_parts_21 dX9_parts_24 dX9_parts_27 tX9_180 (by decide +kernel) rfl (Nat.le_of_ble_eq_true rfl) (Nat.le_of_ble_eq_true rfl) (Nat.le_of_ble_eq_true rfl) (Nat.le_of_ble_eq_true rfl) ?_
      exact fun m hm => ⟨rfl, m, hm, rfl⟩
theorem k9_partsX (g : bw_G) {A : bw_H} {x n rn mn pn sn : Nat} {a d : Int32} (hC : bw_has A [(x, xob x n rn mn pn sn)]) (h : ¬ kI pn a) : bw_C g (bw_rm 8 20 200) mX9_parts [.ref x, .int a, .int d] A (bw_pz eIO A) := by
  refine bw_C.of (by decide) (Nat.le_of_ble_eq_true rfl) rfl ?_
  refine bw_aload_n 1 dX9_parts_0 rfl rfl ?_
  refine bw_iload_n 2 dX9_parts_1 rfl rfl ?_
  refine bw_cVz 5 dX9_parts_2 rfl vX9_257 (c9_paX g hC h) (hC.at 0 rfl) rfl rfl (Nat.le_of_ble_eq_true rfl) ⟨(Nat.le_of_ble_eq_true rfl), (Nat.le_of_ble_eq_true rfl)⟩ (Nat.le_of_ble_eq_true rfl) (Nat.le_of_ble_eq_true rfl) rfl ?_
  exact fun m hm => ⟨rfl, m, hm, rfl⟩
